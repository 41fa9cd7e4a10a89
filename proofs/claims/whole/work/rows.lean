section
/-- a private method of a class that the tables say can be made, by its rows of tables_1 -/
def lw_okq (q : MethodName × Nat) : Prop := (q.1.cls ≠ "java/lang/invoke/MethodHandle" ∧ q.1.cls ≠ "java/lang/invoke/VarHandle") ∧ Cond.instantiable q.1.cls q.2 ∈ tables_1 ∧ Cond.privateMethod q.1 ∈ tables_1 ∧ Cond.instanceMethod q.1 ∈ tables_1
theorem lw_p0 : lw_okq (⟨"PavedBan$Reader", "nextToken", "()V"⟩, 7) := ⟨⟨by decide +kernel, by decide +kernel⟩, List.mem_of_getElem? (i := 136) (by decide +kernel), List.mem_of_getElem? (i := 344) (by decide +kernel), List.mem_of_getElem? (i := 345) (by decide +kernel)⟩
theorem lw_p1 : lw_okq (⟨"PavedBan$Reader", "takeWord", "()V"⟩, 7) := ⟨⟨by decide +kernel, by decide +kernel⟩, List.mem_of_getElem? (i := 136) (by decide +kernel), List.mem_of_getElem? (i := 351) (by decide +kernel), List.mem_of_getElem? (i := 352) (by decide +kernel)⟩
theorem lw_p2 : lw_okq (⟨"PavedBan$Reader", "spells", "(Ljava/lang/String;)Z"⟩, 7) := ⟨⟨by decide +kernel, by decide +kernel⟩, List.mem_of_getElem? (i := 136) (by decide +kernel), List.mem_of_getElem? (i := 356) (by decide +kernel), List.mem_of_getElem? (i := 357) (by decide +kernel)⟩
theorem lw_p3 : lw_okq (⟨"PavedBan$Reader", "takeNumber", "()V"⟩, 7) := ⟨⟨by decide +kernel, by decide +kernel⟩, List.mem_of_getElem? (i := 136) (by decide +kernel), List.mem_of_getElem? (i := 415) (by decide +kernel), List.mem_of_getElem? (i := 416) (by decide +kernel)⟩
theorem lw_p4 : lw_okq (⟨"PavedBan$Reader", "readPiece", "()Z"⟩, 7) := ⟨⟨by decide +kernel, by decide +kernel⟩, List.mem_of_getElem? (i := 136) (by decide +kernel), List.mem_of_getElem? (i := 422) (by decide +kernel), List.mem_of_getElem? (i := 423) (by decide +kernel)⟩
theorem lw_p5 : lw_okq (⟨"PavedBan$Reader", "number", "(I)I"⟩, 7) := ⟨⟨by decide +kernel, by decide +kernel⟩, List.mem_of_getElem? (i := 136) (by decide +kernel), List.mem_of_getElem? (i := 426) (by decide +kernel), List.mem_of_getElem? (i := 427) (by decide +kernel)⟩
theorem lw_p6 : lw_okq (⟨"PavedBan$Reader", "stops", "()Z"⟩, 7) := ⟨⟨by decide +kernel, by decide +kernel⟩, List.mem_of_getElem? (i := 136) (by decide +kernel), List.mem_of_getElem? (i := 430) (by decide +kernel), List.mem_of_getElem? (i := 431) (by decide +kernel)⟩
theorem lw_p7 : lw_okq (⟨"PavedBan$Reader", "readFamily", "()Z"⟩, 7) := ⟨⟨by decide +kernel, by decide +kernel⟩, List.mem_of_getElem? (i := 136) (by decide +kernel), List.mem_of_getElem? (i := 438) (by decide +kernel), List.mem_of_getElem? (i := 439) (by decide +kernel)⟩
theorem lw_p8 : lw_okq (⟨"PavedBan$Reader", "readPaved", "()Z"⟩, 7) := ⟨⟨by decide +kernel, by decide +kernel⟩, List.mem_of_getElem? (i := 136) (by decide +kernel), List.mem_of_getElem? (i := 446) (by decide +kernel), List.mem_of_getElem? (i := 447) (by decide +kernel)⟩
theorem lw_p9 : lw_okq (⟨"PavedBan$Reader", "readStone", "()Z"⟩, 7) := ⟨⟨by decide +kernel, by decide +kernel⟩, List.mem_of_getElem? (i := 136) (by decide +kernel), List.mem_of_getElem? (i := 454) (by decide +kernel), List.mem_of_getElem? (i := 455) (by decide +kernel)⟩
theorem lw_p10 : lw_okq (⟨"PavedBan$Reader", "readFlood", "()Z"⟩, 7) := ⟨⟨by decide +kernel, by decide +kernel⟩, List.mem_of_getElem? (i := 136) (by decide +kernel), List.mem_of_getElem? (i := 462) (by decide +kernel), List.mem_of_getElem? (i := 463) (by decide +kernel)⟩
theorem lw_p11 : lw_okq (⟨"PavedBan", "isPiece", "(I)Z"⟩, 14) := ⟨⟨by decide +kernel, by decide +kernel⟩, List.mem_of_getElem? (i := 21) (by decide +kernel), List.mem_of_getElem? (i := 491) (by decide +kernel), List.mem_of_getElem? (i := 492) (by decide +kernel)⟩
theorem lw_p12 : lw_okq (⟨"PavedBan", "isFamily", "(I)Z"⟩, 14) := ⟨⟨by decide +kernel, by decide +kernel⟩, List.mem_of_getElem? (i := 21) (by decide +kernel), List.mem_of_getElem? (i := 499) (by decide +kernel), List.mem_of_getElem? (i := 500) (by decide +kernel)⟩
theorem lw_p13 : lw_okq (⟨"PavedBan", "wayNow", "(I)I"⟩, 14) := ⟨⟨by decide +kernel, by decide +kernel⟩, List.mem_of_getElem? (i := 21) (by decide +kernel), List.mem_of_getElem? (i := 542) (by decide +kernel), List.mem_of_getElem? (i := 543) (by decide +kernel)⟩
theorem lw_p14 : lw_okq (⟨"PavedBan$Ways", "measure", "(II)V"⟩, 3) := ⟨⟨by decide +kernel, by decide +kernel⟩, List.mem_of_getElem? (i := 165) (by decide +kernel), List.mem_of_getElem? (i := 550) (by decide +kernel), List.mem_of_getElem? (i := 551) (by decide +kernel)⟩
theorem lw_p15 : lw_okq (⟨"PavedBan$Ways", "leg", "(I)I"⟩, 3) := ⟨⟨by decide +kernel, by decide +kernel⟩, List.mem_of_getElem? (i := 165) (by decide +kernel), List.mem_of_getElem? (i := 555) (by decide +kernel), List.mem_of_getElem? (i := 556) (by decide +kernel)⟩
def lw_privs_1 : List (MethodName × Nat) := [(⟨"PavedBan$Reader", "nextToken", "()V"⟩, 7), (⟨"PavedBan$Reader", "takeWord", "()V"⟩, 7), (⟨"PavedBan$Reader", "spells", "(Ljava/lang/String;)Z"⟩, 7), (⟨"PavedBan$Reader", "takeNumber", "()V"⟩, 7), (⟨"PavedBan$Reader", "readPiece", "()Z"⟩, 7), (⟨"PavedBan$Reader", "number", "(I)I"⟩, 7), (⟨"PavedBan$Reader", "stops", "()Z"⟩, 7), (⟨"PavedBan$Reader", "readFamily", "()Z"⟩, 7), (⟨"PavedBan$Reader", "readPaved", "()Z"⟩, 7), (⟨"PavedBan$Reader", "readStone", "()Z"⟩, 7), (⟨"PavedBan$Reader", "readFlood", "()Z"⟩, 7), (⟨"PavedBan", "isPiece", "(I)Z"⟩, 14), (⟨"PavedBan", "isFamily", "(I)Z"⟩, 14), (⟨"PavedBan", "wayNow", "(I)I"⟩, 14), (⟨"PavedBan$Ways", "measure", "(II)V"⟩, 3), (⟨"PavedBan$Ways", "leg", "(I)I"⟩, 3)]
theorem lw_r1 : ∀ q ∈ lw_privs_1, lw_okq q := List.forall_mem_cons.mpr ⟨lw_p0, List.forall_mem_cons.mpr ⟨lw_p1, List.forall_mem_cons.mpr ⟨lw_p2, List.forall_mem_cons.mpr ⟨lw_p3, List.forall_mem_cons.mpr ⟨lw_p4, List.forall_mem_cons.mpr ⟨lw_p5, List.forall_mem_cons.mpr ⟨lw_p6, List.forall_mem_cons.mpr ⟨lw_p7, List.forall_mem_cons.mpr ⟨lw_p8, List.forall_mem_cons.mpr ⟨lw_p9, List.forall_mem_cons.mpr ⟨lw_p10, List.forall_mem_cons.mpr ⟨lw_p11, List.forall_mem_cons.mpr ⟨lw_p12, List.forall_mem_cons.mpr ⟨lw_p13, List.forall_mem_cons.mpr ⟨lw_p14, List.forall_mem_cons.mpr ⟨lw_p15, fun _ h => absurd h List.not_mem_nil⟩⟩⟩⟩⟩⟩⟩⟩⟩⟩⟩⟩⟩⟩⟩⟩
theorem lw_p16 : lw_okq (⟨"PavedBan$Ways", "shorten", "(III)Z"⟩, 3) := ⟨⟨by decide +kernel, by decide +kernel⟩, List.mem_of_getElem? (i := 165) (by decide +kernel), List.mem_of_getElem? (i := 559) (by decide +kernel), List.mem_of_getElem? (i := 560) (by decide +kernel)⟩
theorem lw_p17 : lw_okq (⟨"PavedBan$Ways", "nextPlace", "(II)I"⟩, 3) := ⟨⟨by decide +kernel, by decide +kernel⟩, List.mem_of_getElem? (i := 165) (by decide +kernel), List.mem_of_getElem? (i := 575) (by decide +kernel), List.mem_of_getElem? (i := 576) (by decide +kernel)⟩
theorem lw_p18 : lw_okq (⟨"PavedBan$Ways", "otherEnd", "(II)I"⟩, 3) := ⟨⟨by decide +kernel, by decide +kernel⟩, List.mem_of_getElem? (i := 165) (by decide +kernel), List.mem_of_getElem? (i := 579) (by decide +kernel), List.mem_of_getElem? (i := 580) (by decide +kernel)⟩
theorem lw_p19 : lw_okq (⟨"PavedBan$Choice", "tryFamily", "(III)V"⟩, 8) := ⟨⟨by decide +kernel, by decide +kernel⟩, List.mem_of_getElem? (i := 182) (by decide +kernel), List.mem_of_getElem? (i := 607) (by decide +kernel), List.mem_of_getElem? (i := 608) (by decide +kernel)⟩
theorem lw_p20 : lw_okq (⟨"PavedBan$Choice", "take", "(I)V"⟩, 8) := ⟨⟨by decide +kernel, by decide +kernel⟩, List.mem_of_getElem? (i := 182) (by decide +kernel), List.mem_of_getElem? (i := 611) (by decide +kernel), List.mem_of_getElem? (i := 612) (by decide +kernel)⟩
theorem lw_p21 : lw_okq (⟨"PavedBan$Choice", "worthWith", "(III)I"⟩, 8) := ⟨⟨by decide +kernel, by decide +kernel⟩, List.mem_of_getElem? (i := 182) (by decide +kernel), List.mem_of_getElem? (i := 616) (by decide +kernel), List.mem_of_getElem? (i := 617) (by decide +kernel)⟩
theorem lw_p22 : lw_okq (⟨"PavedBan$Choice", "costsOfNone", "()I"⟩, 8) := ⟨⟨by decide +kernel, by decide +kernel⟩, List.mem_of_getElem? (i := 182) (by decide +kernel), List.mem_of_getElem? (i := 623) (by decide +kernel), List.mem_of_getElem? (i := 624) (by decide +kernel)⟩
theorem lw_p23 : lw_okq (⟨"PavedBan$Choice", "tryPiece", "(II)V"⟩, 8) := ⟨⟨by decide +kernel, by decide +kernel⟩, List.mem_of_getElem? (i := 182) (by decide +kernel), List.mem_of_getElem? (i := 632) (by decide +kernel), List.mem_of_getElem? (i := 633) (by decide +kernel)⟩
theorem lw_p24 : lw_okq (⟨"PavedBan", "chosen", "(I)I"⟩, 14) := ⟨⟨by decide +kernel, by decide +kernel⟩, List.mem_of_getElem? (i := 21) (by decide +kernel), List.mem_of_getElem? (i := 636) (by decide +kernel), List.mem_of_getElem? (i := 637) (by decide +kernel)⟩
theorem lw_p25 : lw_okq (⟨"PavedBan$Exchanges", "gains", "([III)Z"⟩, 3) := ⟨⟨by decide +kernel, by decide +kernel⟩, List.mem_of_getElem? (i := 216) (by decide +kernel), List.mem_of_getElem? (i := 652) (by decide +kernel), List.mem_of_getElem? (i := 653) (by decide +kernel)⟩
theorem lw_p26 : lw_okq (⟨"PavedBan$Exchanges", "exchange", "(II)V"⟩, 3) := ⟨⟨by decide +kernel, by decide +kernel⟩, List.mem_of_getElem? (i := 216) (by decide +kernel), List.mem_of_getElem? (i := 668) (by decide +kernel), List.mem_of_getElem? (i := 669) (by decide +kernel)⟩
theorem lw_p27 : lw_okq (⟨"PavedBan$Floods", "chanceOf", "(I[I)J"⟩, 4) := ⟨⟨by decide +kernel, by decide +kernel⟩, List.mem_of_getElem? (i := 232) (by decide +kernel), List.mem_of_getElem? (i := 696) (by decide +kernel), List.mem_of_getElem? (i := 697) (by decide +kernel)⟩
theorem lw_p28 : lw_okq (⟨"PavedBan$Floods", "reduce", "()V"⟩, 4) := ⟨⟨by decide +kernel, by decide +kernel⟩, List.mem_of_getElem? (i := 232) (by decide +kernel), List.mem_of_getElem? (i := 703) (by decide +kernel), List.mem_of_getElem? (i := 704) (by decide +kernel)⟩
theorem lw_p29 : lw_okq (⟨"PavedBan$Floods", "divideBoth", "(I)V"⟩, 4) := ⟨⟨by decide +kernel, by decide +kernel⟩, List.mem_of_getElem? (i := 232) (by decide +kernel), List.mem_of_getElem? (i := 707) (by decide +kernel), List.mem_of_getElem? (i := 708) (by decide +kernel)⟩
theorem lw_p30 : lw_okq (⟨"PavedBan$Tracks", "addPiece", "(LPavedBan$Now;II)V"⟩, 3) := ⟨⟨by decide +kernel, by decide +kernel⟩, List.mem_of_getElem? (i := 253) (by decide +kernel), List.mem_of_getElem? (i := 730) (by decide +kernel), List.mem_of_getElem? (i := 731) (by decide +kernel)⟩
theorem lw_p31 : lw_okq (⟨"PavedBan", "asFamily", "(I)I"⟩, 14) := ⟨⟨by decide +kernel, by decide +kernel⟩, List.mem_of_getElem? (i := 21) (by decide +kernel), List.mem_of_getElem? (i := 749) (by decide +kernel), List.mem_of_getElem? (i := 750) (by decide +kernel)⟩
def lw_privs_2 : List (MethodName × Nat) := [(⟨"PavedBan$Ways", "shorten", "(III)Z"⟩, 3), (⟨"PavedBan$Ways", "nextPlace", "(II)I"⟩, 3), (⟨"PavedBan$Ways", "otherEnd", "(II)I"⟩, 3), (⟨"PavedBan$Choice", "tryFamily", "(III)V"⟩, 8), (⟨"PavedBan$Choice", "take", "(I)V"⟩, 8), (⟨"PavedBan$Choice", "worthWith", "(III)I"⟩, 8), (⟨"PavedBan$Choice", "costsOfNone", "()I"⟩, 8), (⟨"PavedBan$Choice", "tryPiece", "(II)V"⟩, 8), (⟨"PavedBan", "chosen", "(I)I"⟩, 14), (⟨"PavedBan$Exchanges", "gains", "([III)Z"⟩, 3), (⟨"PavedBan$Exchanges", "exchange", "(II)V"⟩, 3), (⟨"PavedBan$Floods", "chanceOf", "(I[I)J"⟩, 4), (⟨"PavedBan$Floods", "reduce", "()V"⟩, 4), (⟨"PavedBan$Floods", "divideBoth", "(I)V"⟩, 4), (⟨"PavedBan$Tracks", "addPiece", "(LPavedBan$Now;II)V"⟩, 3), (⟨"PavedBan", "asFamily", "(I)I"⟩, 14)]
theorem lw_r2 : ∀ q ∈ lw_privs_2, lw_okq q := List.forall_mem_cons.mpr ⟨lw_p16, List.forall_mem_cons.mpr ⟨lw_p17, List.forall_mem_cons.mpr ⟨lw_p18, List.forall_mem_cons.mpr ⟨lw_p19, List.forall_mem_cons.mpr ⟨lw_p20, List.forall_mem_cons.mpr ⟨lw_p21, List.forall_mem_cons.mpr ⟨lw_p22, List.forall_mem_cons.mpr ⟨lw_p23, List.forall_mem_cons.mpr ⟨lw_p24, List.forall_mem_cons.mpr ⟨lw_p25, List.forall_mem_cons.mpr ⟨lw_p26, List.forall_mem_cons.mpr ⟨lw_p27, List.forall_mem_cons.mpr ⟨lw_p28, List.forall_mem_cons.mpr ⟨lw_p29, List.forall_mem_cons.mpr ⟨lw_p30, List.forall_mem_cons.mpr ⟨lw_p31, fun _ h => absurd h List.not_mem_nil⟩⟩⟩⟩⟩⟩⟩⟩⟩⟩⟩⟩⟩⟩⟩⟩
theorem lw_p32 : lw_okq (⟨"PavedBan", "asWidow", "(I)I"⟩, 14) := ⟨⟨by decide +kernel, by decide +kernel⟩, List.mem_of_getElem? (i := 21) (by decide +kernel), List.mem_of_getElem? (i := 753) (by decide +kernel), List.mem_of_getElem? (i := 754) (by decide +kernel)⟩
theorem lw_p33 : lw_okq (⟨"PavedBan", "asMason", "(I)I"⟩, 14) := ⟨⟨by decide +kernel, by decide +kernel⟩, List.mem_of_getElem? (i := 21) (by decide +kernel), List.mem_of_getElem? (i := 758) (by decide +kernel), List.mem_of_getElem? (i := 759) (by decide +kernel)⟩
theorem lw_p34 : lw_okq (⟨"PavedBan", "asHeir", "(I)I"⟩, 14) := ⟨⟨by decide +kernel, by decide +kernel⟩, List.mem_of_getElem? (i := 21) (by decide +kernel), List.mem_of_getElem? (i := 763) (by decide +kernel), List.mem_of_getElem? (i := 764) (by decide +kernel)⟩
theorem lw_p35 : lw_okq (⟨"PavedBan", "asHired", "(I)I"⟩, 14) := ⟨⟨by decide +kernel, by decide +kernel⟩, List.mem_of_getElem? (i := 21) (by decide +kernel), List.mem_of_getElem? (i := 768) (by decide +kernel), List.mem_of_getElem? (i := 769) (by decide +kernel)⟩
theorem lw_p36 : lw_okq (⟨"PavedBan", "asBachelor", "(I)I"⟩, 14) := ⟨⟨by decide +kernel, by decide +kernel⟩, List.mem_of_getElem? (i := 21) (by decide +kernel), List.mem_of_getElem? (i := 777) (by decide +kernel), List.mem_of_getElem? (i := 778) (by decide +kernel)⟩
theorem lw_p37 : lw_okq (⟨"PavedBanModel", "takesAll", "()I"⟩, 30) := ⟨⟨by decide +kernel, by decide +kernel⟩, List.mem_of_getElem? (i := 802) (by decide +kernel), List.mem_of_getElem? (i := 916) (by decide +kernel), List.mem_of_getElem? (i := 917) (by decide +kernel)⟩
theorem lw_p38 : lw_okq (⟨"PavedBanModel", "next", "()V"⟩, 30) := ⟨⟨by decide +kernel, by decide +kernel⟩, List.mem_of_getElem? (i := 802) (by decide +kernel), List.mem_of_getElem? (i := 920) (by decide +kernel), List.mem_of_getElem? (i := 921) (by decide +kernel)⟩
theorem lw_p39 : lw_okq (⟨"PavedBanModel", "takesPiece", "()Z"⟩, 30) := ⟨⟨by decide +kernel, by decide +kernel⟩, List.mem_of_getElem? (i := 802) (by decide +kernel), List.mem_of_getElem? (i := 937) (by decide +kernel), List.mem_of_getElem? (i := 938) (by decide +kernel)⟩
theorem lw_p40 : lw_okq (⟨"PavedBanModel", "takes", "(II)Z"⟩, 30) := ⟨⟨by decide +kernel, by decide +kernel⟩, List.mem_of_getElem? (i := 802) (by decide +kernel), List.mem_of_getElem? (i := 941) (by decide +kernel), List.mem_of_getElem? (i := 942) (by decide +kernel)⟩
theorem lw_p41 : lw_okq (⟨"PavedBanModel", "stops", "()Z"⟩, 30) := ⟨⟨by decide +kernel, by decide +kernel⟩, List.mem_of_getElem? (i := 802) (by decide +kernel), List.mem_of_getElem? (i := 945) (by decide +kernel), List.mem_of_getElem? (i := 946) (by decide +kernel)⟩
theorem lw_p42 : lw_okq (⟨"PavedBanModel", "takesFamily", "()Z"⟩, 30) := ⟨⟨by decide +kernel, by decide +kernel⟩, List.mem_of_getElem? (i := 802) (by decide +kernel), List.mem_of_getElem? (i := 950) (by decide +kernel), List.mem_of_getElem? (i := 951) (by decide +kernel)⟩
theorem lw_p43 : lw_okq (⟨"PavedBanModel", "takesTold", "(J)Z"⟩, 30) := ⟨⟨by decide +kernel, by decide +kernel⟩, List.mem_of_getElem? (i := 802) (by decide +kernel), List.mem_of_getElem? (i := 957) (by decide +kernel), List.mem_of_getElem? (i := 958) (by decide +kernel)⟩
theorem lw_p44 : lw_okq (⟨"PavedBanModel", "isPiece", "(I)Z"⟩, 30) := ⟨⟨by decide +kernel, by decide +kernel⟩, List.mem_of_getElem? (i := 802) (by decide +kernel), List.mem_of_getElem? (i := 965) (by decide +kernel), List.mem_of_getElem? (i := 966) (by decide +kernel)⟩
theorem lw_p45 : lw_okq (⟨"PavedBanModel", "ownerOf", "(I)I"⟩, 30) := ⟨⟨by decide +kernel, by decide +kernel⟩, List.mem_of_getElem? (i := 802) (by decide +kernel), List.mem_of_getElem? (i := 970) (by decide +kernel), List.mem_of_getElem? (i := 971) (by decide +kernel)⟩
theorem lw_p46 : lw_okq (⟨"PavedBanModel", "isStone", "(I)Z"⟩, 30) := ⟨⟨by decide +kernel, by decide +kernel⟩, List.mem_of_getElem? (i := 802) (by decide +kernel), List.mem_of_getElem? (i := 974) (by decide +kernel), List.mem_of_getElem? (i := 975) (by decide +kernel)⟩
theorem lw_p47 : lw_okq (⟨"PavedBanModel", "isFamily", "(I)Z"⟩, 30) := ⟨⟨by decide +kernel, by decide +kernel⟩, List.mem_of_getElem? (i := 802) (by decide +kernel), List.mem_of_getElem? (i := 982) (by decide +kernel), List.mem_of_getElem? (i := 983) (by decide +kernel)⟩
def lw_privs_3 : List (MethodName × Nat) := [(⟨"PavedBan", "asWidow", "(I)I"⟩, 14), (⟨"PavedBan", "asMason", "(I)I"⟩, 14), (⟨"PavedBan", "asHeir", "(I)I"⟩, 14), (⟨"PavedBan", "asHired", "(I)I"⟩, 14), (⟨"PavedBan", "asBachelor", "(I)I"⟩, 14), (⟨"PavedBanModel", "takesAll", "()I"⟩, 30), (⟨"PavedBanModel", "next", "()V"⟩, 30), (⟨"PavedBanModel", "takesPiece", "()Z"⟩, 30), (⟨"PavedBanModel", "takes", "(II)Z"⟩, 30), (⟨"PavedBanModel", "stops", "()Z"⟩, 30), (⟨"PavedBanModel", "takesFamily", "()Z"⟩, 30), (⟨"PavedBanModel", "takesTold", "(J)Z"⟩, 30), (⟨"PavedBanModel", "isPiece", "(I)Z"⟩, 30), (⟨"PavedBanModel", "ownerOf", "(I)I"⟩, 30), (⟨"PavedBanModel", "isStone", "(I)Z"⟩, 30), (⟨"PavedBanModel", "isFamily", "(I)Z"⟩, 30)]
theorem lw_r3 : ∀ q ∈ lw_privs_3, lw_okq q := List.forall_mem_cons.mpr ⟨lw_p32, List.forall_mem_cons.mpr ⟨lw_p33, List.forall_mem_cons.mpr ⟨lw_p34, List.forall_mem_cons.mpr ⟨lw_p35, List.forall_mem_cons.mpr ⟨lw_p36, List.forall_mem_cons.mpr ⟨lw_p37, List.forall_mem_cons.mpr ⟨lw_p38, List.forall_mem_cons.mpr ⟨lw_p39, List.forall_mem_cons.mpr ⟨lw_p40, List.forall_mem_cons.mpr ⟨lw_p41, List.forall_mem_cons.mpr ⟨lw_p42, List.forall_mem_cons.mpr ⟨lw_p43, List.forall_mem_cons.mpr ⟨lw_p44, List.forall_mem_cons.mpr ⟨lw_p45, List.forall_mem_cons.mpr ⟨lw_p46, List.forall_mem_cons.mpr ⟨lw_p47, fun _ h => absurd h List.not_mem_nil⟩⟩⟩⟩⟩⟩⟩⟩⟩⟩⟩⟩⟩⟩⟩⟩
theorem lw_p48 : lw_okq (⟨"PavedBanModel", "ownBy", "([II)I"⟩, 30) := ⟨⟨by decide +kernel, by decide +kernel⟩, List.mem_of_getElem? (i := 802) (by decide +kernel), List.mem_of_getElem? (i := 987) (by decide +kernel), List.mem_of_getElem? (i := 988) (by decide +kernel)⟩
theorem lw_p49 : lw_okq (⟨"PavedBanModel", "wayOf", "(II)I"⟩, 30) := ⟨⟨by decide +kernel, by decide +kernel⟩, List.mem_of_getElem? (i := 802) (by decide +kernel), List.mem_of_getElem? (i := 1015) (by decide +kernel), List.mem_of_getElem? (i := 1016) (by decide +kernel)⟩
theorem lw_p50 : lw_okq (⟨"PavedBanModel", "measures", "(II)V"⟩, 30) := ⟨⟨by decide +kernel, by decide +kernel⟩, List.mem_of_getElem? (i := 802) (by decide +kernel), List.mem_of_getElem? (i := 1019) (by decide +kernel), List.mem_of_getElem? (i := 1020) (by decide +kernel)⟩
theorem lw_p51 : lw_okq (⟨"PavedBanModel", "bestOfOne", "(I)I"⟩, 30) := ⟨⟨by decide +kernel, by decide +kernel⟩, List.mem_of_getElem? (i := 802) (by decide +kernel), List.mem_of_getElem? (i := 1042) (by decide +kernel), List.mem_of_getElem? (i := 1043) (by decide +kernel)⟩
theorem lw_p52 : lw_okq (⟨"PavedBanModel", "tells", "()V"⟩, 30) := ⟨⟨by decide +kernel, by decide +kernel⟩, List.mem_of_getElem? (i := 802) (by decide +kernel), List.mem_of_getElem? (i := 1046) (by decide +kernel), List.mem_of_getElem? (i := 1047) (by decide +kernel)⟩
theorem lw_p53 : lw_okq (⟨"PavedBanModel", "rowsOfAll", "()I"⟩, 30) := ⟨⟨by decide +kernel, by decide +kernel⟩, List.mem_of_getElem? (i := 802) (by decide +kernel), List.mem_of_getElem? (i := 1054) (by decide +kernel), List.mem_of_getElem? (i := 1055) (by decide +kernel)⟩
theorem lw_p54 : lw_okq (⟨"PavedBanModel", "lays", "(I)V"⟩, 30) := ⟨⟨by decide +kernel, by decide +kernel⟩, List.mem_of_getElem? (i := 802) (by decide +kernel), List.mem_of_getElem? (i := 1058) (by decide +kernel), List.mem_of_getElem? (i := 1059) (by decide +kernel)⟩
theorem lw_p55 : lw_okq (⟨"PavedBanModel", "changeBy", "([I)I"⟩, 30) := ⟨⟨by decide +kernel, by decide +kernel⟩, List.mem_of_getElem? (i := 802) (by decide +kernel), List.mem_of_getElem? (i := 1066) (by decide +kernel), List.mem_of_getElem? (i := 1067) (by decide +kernel)⟩
theorem lw_p56 : lw_okq (⟨"PavedBanModel", "costBy", "([II)I"⟩, 30) := ⟨⟨by decide +kernel, by decide +kernel⟩, List.mem_of_getElem? (i := 802) (by decide +kernel), List.mem_of_getElem? (i := 1070) (by decide +kernel), List.mem_of_getElem? (i := 1071) (by decide +kernel)⟩
theorem lw_p57 : lw_okq (⟨"PavedBanModel", "paves", "()I"⟩, 30) := ⟨⟨by decide +kernel, by decide +kernel⟩, List.mem_of_getElem? (i := 802) (by decide +kernel), List.mem_of_getElem? (i := 1105) (by decide +kernel), List.mem_of_getElem? (i := 1106) (by decide +kernel)⟩
theorem lw_p58 : lw_okq (⟨"PavedBanModel", "owned", "()I"⟩, 30) := ⟨⟨by decide +kernel, by decide +kernel⟩, List.mem_of_getElem? (i := 802) (by decide +kernel), List.mem_of_getElem? (i := 1127) (by decide +kernel), List.mem_of_getElem? (i := 1128) (by decide +kernel)⟩
def lw_privs_4 : List (MethodName × Nat) := [(⟨"PavedBanModel", "ownBy", "([II)I"⟩, 30), (⟨"PavedBanModel", "wayOf", "(II)I"⟩, 30), (⟨"PavedBanModel", "measures", "(II)V"⟩, 30), (⟨"PavedBanModel", "bestOfOne", "(I)I"⟩, 30), (⟨"PavedBanModel", "tells", "()V"⟩, 30), (⟨"PavedBanModel", "rowsOfAll", "()I"⟩, 30), (⟨"PavedBanModel", "lays", "(I)V"⟩, 30), (⟨"PavedBanModel", "changeBy", "([I)I"⟩, 30), (⟨"PavedBanModel", "costBy", "([II)I"⟩, 30), (⟨"PavedBanModel", "paves", "()I"⟩, 30), (⟨"PavedBanModel", "owned", "()I"⟩, 30)]
theorem lw_r4 : ∀ q ∈ lw_privs_4, lw_okq q := List.forall_mem_cons.mpr ⟨lw_p48, List.forall_mem_cons.mpr ⟨lw_p49, List.forall_mem_cons.mpr ⟨lw_p50, List.forall_mem_cons.mpr ⟨lw_p51, List.forall_mem_cons.mpr ⟨lw_p52, List.forall_mem_cons.mpr ⟨lw_p53, List.forall_mem_cons.mpr ⟨lw_p54, List.forall_mem_cons.mpr ⟨lw_p55, List.forall_mem_cons.mpr ⟨lw_p56, List.forall_mem_cons.mpr ⟨lw_p57, List.forall_mem_cons.mpr ⟨lw_p58, fun _ h => absurd h List.not_mem_nil⟩⟩⟩⟩⟩⟩⟩⟩⟩⟩⟩
def lw_privs : List (MethodName × Nat) := lw_privs_1 ++ (lw_privs_2 ++ (lw_privs_3 ++ (lw_privs_4)))
def lw_tbl : List Cond := k2_sels lw_privs ++ tables_1
theorem lw_privs_ok : ∀ q ∈ lw_privs, lw_okq q := by
  show ∀ q ∈ lw_privs_1 ++ (lw_privs_2 ++ (lw_privs_3 ++ (lw_privs_4))), lw_okq q
  exact List.forall_mem_append.mpr ⟨lw_r1, List.forall_mem_append.mpr ⟨lw_r2, List.forall_mem_append.mpr ⟨lw_r3, lw_r4⟩⟩⟩
end
section
def RX0 : String := "PavedBan$Choice"
def TX0 : u_T := fun k => match k with
  | 0 => ("PavedBan$Choice", "town", "LPavedBan$Town;", true)
  | 1 => ("PavedBan$Choice", "ways", "LPavedBan$Ways;", true)
  | 2 => ("PavedBan$Choice", "sought", "I", false)
  | 3 => ("PavedBan$Choice", "stones", "I", false)
  | 4 => ("PavedBan$Choice", "best", "I", false)
  | 5 => ("PavedBan$Choice", "chosen", "[I", true)
  | 6 => ("PavedBan$Choice", "tried", "[I", true)
  | _ => ("PavedBan$Choice", "given", "[I", true)
def tyX0 : Nat → FieldType := fun k => match k with
  | 0 => .object "PavedBan$Town"
  | 1 => .object "PavedBan$Ways"
  | 2 => .int
  | 3 => .int
  | 4 => .int
  | 5 => .array .int
  | 6 => .array .int
  | _ => .array .int
theorem nmX0 : ∀ a, a < 8 → ∀ b, b < 8 → a ≠ b → (TX0 a).2.1 ≠ (TX0 b).2.1 := by decide +kernel
theorem tyX0_ok : ∀ k, k < 8 → parseFieldDescriptor (TX0 k).2.2.1 = some (tyX0 k) := by decide +kernel
abbrev cX0_init : ByteArray := prog_2_method_1_code
def yX0_init : MethodName := ⟨RX0, "<init>", "(LPavedBan$Town;LPavedBan$Ways;)V"⟩
abbrev cX0_startAnew : ByteArray := prog_2_method_2_code
def yX0_startAnew : MethodName := ⟨RX0, "startAnew", "()V"⟩
abbrev cX0_seek : ByteArray := prog_2_method_3_code
def yX0_seek : MethodName := ⟨RX0, "seek", "(II)V"⟩
abbrev cX0_costsOfNone : ByteArray := prog_2_method_4_code
def yX0_costsOfNone : MethodName := ⟨RX0, "costsOfNone", "()I"⟩
abbrev cX0_tryFamily : ByteArray := prog_2_method_5_code
def yX0_tryFamily : MethodName := ⟨RX0, "tryFamily", "(III)V"⟩
abbrev cX0_worthWith : ByteArray := prog_2_method_6_code
def yX0_worthWith : MethodName := ⟨RX0, "worthWith", "(III)I"⟩
abbrev cX0_tryPiece : ByteArray := prog_2_method_7_code
def yX0_tryPiece : MethodName := ⟨RX0, "tryPiece", "(II)V"⟩
abbrev cX0_take : ByteArray := prog_2_method_8_code
def yX0_take : MethodName := ⟨RX0, "take", "(I)V"⟩
def RX1 : String := "PavedBan$Exchanges"
def TX1 : u_T := fun k => match k with
  | 0 => ("PavedBan$Exchanges", "town", "LPavedBan$Town;", true)
  | 1 => ("PavedBan$Exchanges", "ways", "LPavedBan$Ways;", true)
  | _ => ("PavedBan$Exchanges", "owner", "[I", true)
def tyX1 : Nat → FieldType := fun k => match k with
  | 0 => .object "PavedBan$Town"
  | 1 => .object "PavedBan$Ways"
  | _ => .array .int
theorem nmX1 : ∀ a, a < 3 → ∀ b, b < 3 → a ≠ b → (TX1 a).2.1 ≠ (TX1 b).2.1 := by decide +kernel
theorem tyX1_ok : ∀ k, k < 3 → parseFieldDescriptor (TX1 k).2.2.1 = some (tyX1 k) := by decide +kernel
abbrev cX1_init : ByteArray := prog_3_method_1_code
def yX1_init : MethodName := ⟨RX1, "<init>", "(LPavedBan$Town;LPavedBan$Ways;)V"⟩
abbrev cX1_firstOf : ByteArray := prog_3_method_2_code
def yX1_firstOf : MethodName := ⟨RX1, "firstOf", "([I)I"⟩
abbrev cX1_numberOf : ByteArray := prog_3_method_3_code
def yX1_numberOf : MethodName := ⟨RX1, "numberOf", "([I)I"⟩
abbrev cX1_exchange : ByteArray := prog_3_method_4_code
def yX1_exchange : MethodName := ⟨RX1, "exchange", "(II)V"⟩
abbrev cX1_gains : ByteArray := prog_3_method_5_code
def yX1_gains : MethodName := ⟨RX1, "gains", "([III)Z"⟩
def RX2 : String := "PavedBan$Floods"
def TX2 : u_T := fun k => match k with
  | 0 => ("PavedBan$Floods", "town", "LPavedBan$Town;", true)
  | 1 => ("PavedBan$Floods", "ways", "LPavedBan$Ways;", true)
  | 2 => ("PavedBan$Floods", "upper", "J", false)
  | _ => ("PavedBan$Floods", "lower", "J", false)
def tyX2 : Nat → FieldType := fun k => match k with
  | 0 => .object "PavedBan$Town"
  | 1 => .object "PavedBan$Ways"
  | 2 => .long
  | _ => .long
theorem nmX2 : ∀ a, a < 4 → ∀ b, b < 4 → a ≠ b → (TX2 a).2.1 ≠ (TX2 b).2.1 := by decide +kernel
theorem tyX2_ok : ∀ k, k < 4 → parseFieldDescriptor (TX2 k).2.2.1 = some (tyX2 k) := by decide +kernel
abbrev cX2_init : ByteArray := prog_4_method_1_code
def yX2_init : MethodName := ⟨RX2, "<init>", "(LPavedBan$Town;LPavedBan$Ways;)V"⟩
abbrev cX2_reckon : ByteArray := prog_4_method_2_code
def yX2_reckon : MethodName := ⟨RX2, "reckon", "(ILPavedBan$Now;)V"⟩
abbrev cX2_chanceOf : ByteArray := prog_4_method_3_code
def yX2_chanceOf : MethodName := ⟨RX2, "chanceOf", "(I[I)J"⟩
abbrev cX2_reduce : ByteArray := prog_4_method_4_code
def yX2_reduce : MethodName := ⟨RX2, "reduce", "()V"⟩
abbrev cX2_divideBoth : ByteArray := prog_4_method_5_code
def yX2_divideBoth : MethodName := ⟨RX2, "divideBoth", "(I)V"⟩
def RX3 : String := "PavedBan$Now"
def TX3 : u_T := fun k => match k with
  | 0 => ("PavedBan$Now", "owner", "[I", true)
  | 1 => ("PavedBan$Now", "inTen", "[I", true)
  | 2 => ("PavedBan$Now", "stones", "I", false)
  | 3 => ("PavedBan$Now", "seen", "I", false)
  | _ => ("PavedBan$Now", "walked", "[I", true)
def tyX3 : Nat → FieldType := fun k => match k with
  | 0 => .array .int
  | 1 => .array .int
  | 2 => .int
  | 3 => .int
  | _ => .array .int
theorem nmX3 : ∀ a, a < 5 → ∀ b, b < 5 → a ≠ b → (TX3 a).2.1 ≠ (TX3 b).2.1 := by decide +kernel
theorem tyX3_ok : ∀ k, k < 5 → parseFieldDescriptor (TX3 k).2.2.1 = some (tyX3 k) := by decide +kernel
abbrev cX3_init : ByteArray := prog_5_method_1_code
def yX3_init : MethodName := ⟨RX3, "<init>", "()V"⟩
abbrev cX3_empty : ByteArray := prog_5_method_2_code
def yX3_empty : MethodName := ⟨RX3, "empty", "()V"⟩
abbrev cX3_become : ByteArray := prog_5_method_3_code
def yX3_become : MethodName := ⟨RX3, "become", "(LPavedBan$Now;)V"⟩
abbrev cX3_unsee : ByteArray := prog_5_method_4_code
def yX3_unsee : MethodName := ⟨RX3, "unsee", "()V"⟩
abbrev cX3_isStone : ByteArray := prog_5_method_5_code
def yX3_isStone : MethodName := ⟨RX3, "isStone", "(I)Z"⟩
abbrev cX3_makeStone : ByteArray := prog_5_method_6_code
def yX3_makeStone : MethodName := ⟨RX3, "makeStone", "(I)V"⟩
abbrev cX3_makeNoStone : ByteArray := prog_5_method_7_code
def yX3_makeNoStone : MethodName := ⟨RX3, "makeNoStone", "(I)V"⟩
abbrev cX3_ownedBy : ByteArray := prog_5_method_8_code
def yX3_ownedBy : MethodName := ⟨RX3, "ownedBy", "(I)I"⟩
abbrev cX3_ownedPieces : ByteArray := prog_5_method_9_code
def yX3_ownedPieces : MethodName := ⟨RX3, "ownedPieces", "()I"⟩
abbrev cX3_ownedIn : ByteArray := prog_5_method_10_code
def yX3_ownedIn : MethodName := ⟨RX3, "ownedIn", "([II)I"⟩
def RX4 : String := "PavedBan$Reader"
def TX4 : u_T := fun k => match k with
  | 0 => ("PavedBan$Reader", "typed", "LPavedBan$Typed;", true)
  | 1 => ("PavedBan$Reader", "draft", "LPavedBan$Town;", true)
  | 2 => ("PavedBan$Reader", "draftNow", "LPavedBan$Now;", true)
  | 3 => ("PavedBan$Reader", "at", "I", false)
  | 4 => ("PavedBan$Reader", "start", "I", false)
  | 5 => ("PavedBan$Reader", "sort", "I", false)
  | _ => ("PavedBan$Reader", "value", "I", false)
def tyX4 : Nat → FieldType := fun k => match k with
  | 0 => .object "PavedBan$Typed"
  | 1 => .object "PavedBan$Town"
  | 2 => .object "PavedBan$Now"
  | 3 => .int
  | 4 => .int
  | 5 => .int
  | _ => .int
theorem nmX4 : ∀ a, a < 7 → ∀ b, b < 7 → a ≠ b → (TX4 a).2.1 ≠ (TX4 b).2.1 := by decide +kernel
theorem tyX4_ok : ∀ k, k < 7 → parseFieldDescriptor (TX4 k).2.2.1 = some (tyX4 k) := by decide +kernel
abbrev cX4_init : ByteArray := prog_6_method_1_code
def yX4_init : MethodName := ⟨RX4, "<init>", "(LPavedBan$Typed;LPavedBan$Town;LPavedBan$Now;)V"⟩
abbrev cX4_readAll : ByteArray := prog_6_method_2_code
def yX4_readAll : MethodName := ⟨RX4, "readAll", "()I"⟩
abbrev cX4_readPiece : ByteArray := prog_6_method_3_code
def yX4_readPiece : MethodName := ⟨RX4, "readPiece", "()Z"⟩
abbrev cX4_readFamily : ByteArray := prog_6_method_4_code
def yX4_readFamily : MethodName := ⟨RX4, "readFamily", "()Z"⟩
abbrev cX4_readPaved : ByteArray := prog_6_method_5_code
def yX4_readPaved : MethodName := ⟨RX4, "readPaved", "()Z"⟩
abbrev cX4_readStone : ByteArray := prog_6_method_6_code
def yX4_readStone : MethodName := ⟨RX4, "readStone", "()Z"⟩
abbrev cX4_readFlood : ByteArray := prog_6_method_7_code
def yX4_readFlood : MethodName := ⟨RX4, "readFlood", "()Z"⟩
abbrev cX4_number : ByteArray := prog_6_method_8_code
def yX4_number : MethodName := ⟨RX4, "number", "(I)I"⟩
abbrev cX4_stops : ByteArray := prog_6_method_9_code
def yX4_stops : MethodName := ⟨RX4, "stops", "()Z"⟩
abbrev cX4_nextToken : ByteArray := prog_6_method_10_code
def yX4_nextToken : MethodName := ⟨RX4, "nextToken", "()V"⟩
abbrev cX4_takeWord : ByteArray := prog_6_method_11_code
def yX4_takeWord : MethodName := ⟨RX4, "takeWord", "()V"⟩
abbrev cX4_takeNumber : ByteArray := prog_6_method_12_code
def yX4_takeNumber : MethodName := ⟨RX4, "takeNumber", "()V"⟩
abbrev cX4_isLetter : ByteArray := prog_6_method_13_code
def yX4_isLetter : MethodName := ⟨RX4, "isLetter", "(B)Z"⟩
abbrev cX4_isDigit : ByteArray := prog_6_method_14_code
def yX4_isDigit : MethodName := ⟨RX4, "isDigit", "(B)Z"⟩
abbrev cX4_spells : ByteArray := prog_6_method_15_code
def yX4_spells : MethodName := ⟨RX4, "spells", "(Ljava/lang/String;)Z"⟩
def RX5 : String := "PavedBan$Town"
def TX5 : u_T := fun k => match k with
  | 0 => ("PavedBan$Town", "pieces", "I", false)
  | 1 => ("PavedBan$Town", "endA", "[I", true)
  | 2 => ("PavedBan$Town", "endB", "[I", true)
  | 3 => ("PavedBan$Town", "yards", "[I", true)
  | 4 => ("PavedBan$Town", "families", "I", false)
  | 5 => ("PavedBan$Town", "home", "[I", true)
  | 6 => ("PavedBan$Town", "goal", "[I", true)
  | _ => ("PavedBan$Town", "times", "[I", true)
def tyX5 : Nat → FieldType := fun k => match k with
  | 0 => .int
  | 1 => .array .int
  | 2 => .array .int
  | 3 => .array .int
  | 4 => .int
  | 5 => .array .int
  | 6 => .array .int
  | _ => .array .int
theorem nmX5 : ∀ a, a < 8 → ∀ b, b < 8 → a ≠ b → (TX5 a).2.1 ≠ (TX5 b).2.1 := by decide +kernel
theorem tyX5_ok : ∀ k, k < 8 → parseFieldDescriptor (TX5 k).2.2.1 = some (tyX5 k) := by decide +kernel
abbrev cX5_init : ByteArray := prog_7_method_1_code
def yX5_init : MethodName := ⟨RX5, "<init>", "()V"⟩
abbrev cX5_empty : ByteArray := prog_7_method_2_code
def yX5_empty : MethodName := ⟨RX5, "empty", "()V"⟩
abbrev cX5_become : ByteArray := prog_7_method_3_code
def yX5_become : MethodName := ⟨RX5, "become", "(LPavedBan$Town;)V"⟩
abbrev cX5_addPiece : ByteArray := prog_7_method_4_code
def yX5_addPiece : MethodName := ⟨RX5, "addPiece", "(III)V"⟩
abbrev cX5_addFamily : ByteArray := prog_7_method_5_code
def yX5_addFamily : MethodName := ⟨RX5, "addFamily", "(III)V"⟩
abbrev cX5_widerThan : ByteArray := prog_7_method_6_code
def yX5_widerThan : MethodName := ⟨RX5, "widerThan", "(I)I"⟩
abbrev cX5_yardsOf : ByteArray := prog_7_method_7_code
def yX5_yardsOf : MethodName := ⟨RX5, "yardsOf", "(I)I"⟩
def RX6 : String := "PavedBan$Tracks"
def TX6 : u_T := fun k => match k with
  | 0 => ("PavedBan$Tracks", "town", "LPavedBan$Town;", true)
  | 1 => ("PavedBan$Tracks", "number", "[I", true)
  | _ => ("PavedBan$Tracks", "after", "[I", true)
def tyX6 : Nat → FieldType := fun k => match k with
  | 0 => .object "PavedBan$Town"
  | 1 => .array .int
  | _ => .array .int
theorem nmX6 : ∀ a, a < 3 → ∀ b, b < 3 → a ≠ b → (TX6 a).2.1 ≠ (TX6 b).2.1 := by decide +kernel
theorem tyX6_ok : ∀ k, k < 3 → parseFieldDescriptor (TX6 k).2.2.1 = some (tyX6 k) := by decide +kernel
abbrev cX6_init : ByteArray := prog_8_method_1_code
def yX6_init : MethodName := ⟨RX6, "<init>", "(LPavedBan$Town;)V"⟩
abbrev cX6_waysOf : ByteArray := prog_8_method_2_code
def yX6_waysOf : MethodName := ⟨RX6, "waysOf", "(LPavedBan$Now;II)I"⟩
abbrev cX6_onlyOwner : ByteArray := prog_8_method_3_code
def yX6_onlyOwner : MethodName := ⟨RX6, "onlyOwner", "(LPavedBan$Now;I)I"⟩
abbrev cX6_addPiece : ByteArray := prog_8_method_4_code
def yX6_addPiece : MethodName := ⟨RX6, "addPiece", "(LPavedBan$Now;II)V"⟩
def RX7 : String := "PavedBan$Typed"
def TX7 : u_T := fun k => match k with
  | 0 => ("PavedBan$Typed", "bytes", "[B", true)
  | _ => ("PavedBan$Typed", "length", "I", false)
def tyX7 : Nat → FieldType := fun k => match k with
  | 0 => .array .byte
  | _ => .int
theorem nmX7 : ∀ a, a < 2 → ∀ b, b < 2 → a ≠ b → (TX7 a).2.1 ≠ (TX7 b).2.1 := by decide +kernel
theorem tyX7_ok : ∀ k, k < 2 → parseFieldDescriptor (TX7 k).2.2.1 = some (tyX7 k) := by decide +kernel
abbrev cX7_init : ByteArray := prog_9_method_1_code
def yX7_init : MethodName := ⟨RX7, "<init>", "()V"⟩
abbrev cX7_append : ByteArray := prog_9_method_2_code
def yX7_append : MethodName := ⟨RX7, "append", "(JI)V"⟩
def RX8 : String := "PavedBan$Ways"
def TX8 : u_T := fun k => match k with
  | 0 => ("PavedBan$Ways", "town", "LPavedBan$Town;", true)
  | 1 => ("PavedBan$Ways", "known", "[I", true)
  | _ => ("PavedBan$Ways", "left", "[I", true)
def tyX8 : Nat → FieldType := fun k => match k with
  | 0 => .object "PavedBan$Town"
  | 1 => .array .int
  | _ => .array .int
theorem nmX8 : ∀ a, a < 3 → ∀ b, b < 3 → a ≠ b → (TX8 a).2.1 ≠ (TX8 b).2.1 := by decide +kernel
theorem tyX8_ok : ∀ k, k < 3 → parseFieldDescriptor (TX8 k).2.2.1 = some (tyX8 k) := by decide +kernel
abbrev cX8_init : ByteArray := prog_10_method_1_code
def yX8_init : MethodName := ⟨RX8, "<init>", "(LPavedBan$Town;)V"⟩
abbrev cX8_startAnew : ByteArray := prog_10_method_2_code
def yX8_startAnew : MethodName := ⟨RX8, "startAnew", "()V"⟩
abbrev cX8_yards : ByteArray := prog_10_method_3_code
def yX8_yards : MethodName := ⟨RX8, "yards", "(II)I"⟩
abbrev cX8_cost : ByteArray := prog_10_method_4_code
def yX8_cost : MethodName := ⟨RX8, "cost", "(II)I"⟩
abbrev cX8_neededBy : ByteArray := prog_10_method_5_code
def yX8_neededBy : MethodName := ⟨RX8, "neededBy", "(I)I"⟩
abbrev cX8_placeOnWay : ByteArray := prog_10_method_6_code
def yX8_placeOnWay : MethodName := ⟨RX8, "placeOnWay", "(III)I"⟩
abbrev cX8_measure : ByteArray := prog_10_method_7_code
def yX8_measure : MethodName := ⟨RX8, "measure", "(II)V"⟩
abbrev cX8_shorten : ByteArray := prog_10_method_8_code
def yX8_shorten : MethodName := ⟨RX8, "shorten", "(III)Z"⟩
abbrev cX8_leg : ByteArray := prog_10_method_9_code
def yX8_leg : MethodName := ⟨RX8, "leg", "(I)I"⟩
abbrev cX8_nextPlace : ByteArray := prog_10_method_10_code
def yX8_nextPlace : MethodName := ⟨RX8, "nextPlace", "(II)I"⟩
abbrev cX8_otherEnd : ByteArray := prog_10_method_11_code
def yX8_otherEnd : MethodName := ⟨RX8, "otherEnd", "(II)I"⟩
def RX9 : String := "PavedBan"
def TX9 : u_T := fun k => match k with
  | 0 => ("PavedBan", "typed", "LPavedBan$Typed;", true)
  | 1 => ("PavedBan", "reader", "LPavedBan$Reader;", true)
  | 2 => ("PavedBan", "told", "LPavedBan$Town;", true)
  | 3 => ("PavedBan", "toldDraft", "LPavedBan$Town;", true)
  | 4 => ("PavedBan", "now", "LPavedBan$Now;", true)
  | 5 => ("PavedBan", "nowDraft", "LPavedBan$Now;", true)
  | 6 => ("PavedBan", "images", "[LPavedBan$Now;", true)
  | 7 => ("PavedBan", "kept", "[Z", true)
  | 8 => ("PavedBan", "ways", "LPavedBan$Ways;", true)
  | 9 => ("PavedBan", "choice", "LPavedBan$Choice;", true)
  | 10 => ("PavedBan", "exchanges", "LPavedBan$Exchanges;", true)
  | 11 => ("PavedBan", "floods", "LPavedBan$Floods;", true)
  | 12 => ("PavedBan", "tracks", "LPavedBan$Tracks;", true)
  | _ => ("PavedBan", "traced", "J", false)
def tyX9 : Nat → FieldType := fun k => match k with
  | 0 => .object "PavedBan$Typed"
  | 1 => .object "PavedBan$Reader"
  | 2 => .object "PavedBan$Town"
  | 3 => .object "PavedBan$Town"
  | 4 => .object "PavedBan$Now"
  | 5 => .object "PavedBan$Now"
  | 6 => .array (.object "PavedBan$Now")
  | 7 => .array .boolean
  | 8 => .object "PavedBan$Ways"
  | 9 => .object "PavedBan$Choice"
  | 10 => .object "PavedBan$Exchanges"
  | 11 => .object "PavedBan$Floods"
  | 12 => .object "PavedBan$Tracks"
  | _ => .long
theorem nmX9 : ∀ a, a < 14 → ∀ b, b < 14 → a ≠ b → (TX9 a).2.1 ≠ (TX9 b).2.1 := by decide +kernel
theorem tyX9_ok : ∀ k, k < 14 → parseFieldDescriptor (TX9 k).2.2.1 = some (tyX9 k) := by decide +kernel
abbrev cX9_init : ByteArray := prog_1_method_1_code
def yX9_init : MethodName := ⟨RX9, "<init>", "()V"⟩
abbrev cX9_type : ByteArray := prog_1_method_2_code
def yX9_type : MethodName := ⟨RX9, "type", "(JI)I"⟩
abbrev cX9_clear : ByteArray := prog_1_method_3_code
def yX9_clear : MethodName := ⟨RX9, "clear", "()I"⟩
abbrev cX9_town : ByteArray := prog_1_method_4_code
def yX9_town : MethodName := ⟨RX9, "town", "()I"⟩
abbrev cX9_piece : ByteArray := prog_1_method_5_code
def yX9_piece : MethodName := ⟨RX9, "piece", "(II)I"⟩
abbrev cX9_family : ByteArray := prog_1_method_6_code
def yX9_family : MethodName := ⟨RX9, "family", "(II)I"⟩
abbrev cX9_pave : ByteArray := prog_1_method_7_code
def yX9_pave : MethodName := ⟨RX9, "pave", "(II)I"⟩
abbrev cX9_free : ByteArray := prog_1_method_8_code
def yX9_free : MethodName := ⟨RX9, "free", "(I)I"⟩
abbrev cX9_stone : ByteArray := prog_1_method_9_code
def yX9_stone : MethodName := ⟨RX9, "stone", "(II)I"⟩
abbrev cX9_flood : ByteArray := prog_1_method_10_code
def yX9_flood : MethodName := ⟨RX9, "flood", "(II)I"⟩
abbrev cX9_way : ByteArray := prog_1_method_11_code
def yX9_way : MethodName := ⟨RX9, "way", "(I)I"⟩
abbrev cX9_place : ByteArray := prog_1_method_12_code
def yX9_place : MethodName := ⟨RX9, "place", "(II)I"⟩
abbrev cX9_pole : ByteArray := prog_1_method_13_code
def yX9_pole : MethodName := ⟨RX9, "pole", "(II)I"⟩
abbrev cX9_judge : ByteArray := prog_1_method_14_code
def yX9_judge : MethodName := ⟨RX9, "judge", "(I)I"⟩
abbrev cX9_one : ByteArray := prog_1_method_15_code
def yX9_one : MethodName := ⟨RX9, "one", "(II)I"⟩
abbrev cX9_all : ByteArray := prog_1_method_16_code
def yX9_all : MethodName := ⟨RX9, "all", "(I)I"⟩
abbrev cX9_change : ByteArray := prog_1_method_17_code
def yX9_change : MethodName := ⟨RX9, "change", "()I"⟩
abbrev cX9_rest : ByteArray := prog_1_method_18_code
def yX9_rest : MethodName := ⟨RX9, "rest", "()I"⟩
abbrev cX9_match : ByteArray := prog_1_method_19_code
def yX9_match : MethodName := ⟨RX9, "match", "(II)I"⟩
abbrev cX9_always : ByteArray := prog_1_method_20_code
def yX9_always : MethodName := ⟨RX9, "always", "()I"⟩
abbrev cX9_shut : ByteArray := prog_1_method_21_code
def yX9_shut : MethodName := ⟨RX9, "shut", "(II)J"⟩
abbrev cX9_saw : ByteArray := prog_1_method_22_code
def yX9_saw : MethodName := ⟨RX9, "saw", "(II)I"⟩
abbrev cX9_forget : ByteArray := prog_1_method_23_code
def yX9_forget : MethodName := ⟨RX9, "forget", "()I"⟩
abbrev cX9_fits : ByteArray := prog_1_method_24_code
def yX9_fits : MethodName := ⟨RX9, "fits", "()I"⟩
abbrev cX9_who : ByteArray := prog_1_method_25_code
def yX9_who : MethodName := ⟨RX9, "who", "(I)I"⟩
abbrev cX9_mark : ByteArray := prog_1_method_26_code
def yX9_mark : MethodName := ⟨RX9, "mark", "(II)I"⟩
abbrev cX9_keep : ByteArray := prog_1_method_27_code
def yX9_keep : MethodName := ⟨RX9, "keep", "(I)I"⟩
abbrev cX9_back : ByteArray := prog_1_method_28_code
def yX9_back : MethodName := ⟨RX9, "back", "(I)I"⟩
abbrev cX9_count : ByteArray := prog_1_method_29_code
def yX9_count : MethodName := ⟨RX9, "count", "(I)I"⟩
abbrev cX9_trace : ByteArray := prog_1_method_30_code
def yX9_trace : MethodName := ⟨RX9, "trace", "()J"⟩
abbrev cX9_isPiece : ByteArray := prog_1_method_31_code
def yX9_isPiece : MethodName := ⟨RX9, "isPiece", "(I)Z"⟩
abbrev cX9_isFamily : ByteArray := prog_1_method_32_code
def yX9_isFamily : MethodName := ⟨RX9, "isFamily", "(I)Z"⟩
abbrev cX9_wayNow : ByteArray := prog_1_method_33_code
def yX9_wayNow : MethodName := ⟨RX9, "wayNow", "(I)I"⟩
abbrev cX9_orNone : ByteArray := prog_1_method_34_code
def yX9_orNone : MethodName := ⟨RX9, "orNone", "(I)I"⟩
abbrev cX9_chosen : ByteArray := prog_1_method_35_code
def yX9_chosen : MethodName := ⟨RX9, "chosen", "(I)I"⟩
abbrev cX9_asFamily : ByteArray := prog_1_method_36_code
def yX9_asFamily : MethodName := ⟨RX9, "asFamily", "(I)I"⟩
abbrev cX9_asWidow : ByteArray := prog_1_method_37_code
def yX9_asWidow : MethodName := ⟨RX9, "asWidow", "(I)I"⟩
abbrev cX9_asMason : ByteArray := prog_1_method_38_code
def yX9_asMason : MethodName := ⟨RX9, "asMason", "(I)I"⟩
abbrev cX9_asHeir : ByteArray := prog_1_method_39_code
def yX9_asHeir : MethodName := ⟨RX9, "asHeir", "(I)I"⟩
abbrev cX9_asHired : ByteArray := prog_1_method_40_code
def yX9_asHired : MethodName := ⟨RX9, "asHired", "(I)I"⟩
abbrev cX9_asBachelor : ByteArray := prog_1_method_41_code
def yX9_asBachelor : MethodName := ⟨RX9, "asBachelor", "(I)I"⟩
def RX10 : String := "PavedBanModel"
def TX10 : u_T := fun k => match k with
  | 0 => ("PavedBanModel", "text", "[I", true)
  | 1 => ("PavedBanModel", "size", "I", false)
  | 2 => ("PavedBanModel", "pieces", "I", false)
  | 3 => ("PavedBanModel", "a", "[I", true)
  | 4 => ("PavedBanModel", "b", "[I", true)
  | 5 => ("PavedBanModel", "yards", "[I", true)
  | 6 => ("PavedBanModel", "families", "I", false)
  | 7 => ("PavedBanModel", "home", "[I", true)
  | 8 => ("PavedBanModel", "to", "[I", true)
  | 9 => ("PavedBanModel", "times", "[I", true)
  | 10 => ("PavedBanModel", "owner", "[I", true)
  | 11 => ("PavedBanModel", "flood", "[I", true)
  | 12 => ("PavedBanModel", "seen", "I", false)
  | 13 => ("PavedBanModel", "seenBy", "[I", true)
  | 14 => ("PavedBanModel", "seenSet", "[I", true)
  | 15 => ("PavedBanModel", "images", "[I", true)
  | 16 => ("PavedBanModel", "trace", "J", false)
  | 17 => ("PavedBanModel", "at", "I", false)
  | 18 => ("PavedBanModel", "begin", "I", false)
  | 19 => ("PavedBanModel", "kind", "I", false)
  | 20 => ("PavedBanModel", "value", "J", false)
  | 21 => ("PavedBanModel", "readPieces", "I", false)
  | 22 => ("PavedBanModel", "readFamilies", "I", false)
  | 23 => ("PavedBanModel", "read", "[I", true)
  | 24 => ("PavedBanModel", "far", "[I", true)
  | 25 => ("PavedBanModel", "ways", "[I", true)
  | 26 => ("PavedBanModel", "best", "[I", true)
  | 27 => ("PavedBanModel", "told", "[I", true)
  | 28 => ("PavedBanModel", "walked", "[I", true)
  | _ => ("PavedBanModel", "paved", "[I", true)
def tyX10 : Nat → FieldType := fun k => match k with
  | 0 => .array .int
  | 1 => .int
  | 2 => .int
  | 3 => .array .int
  | 4 => .array .int
  | 5 => .array .int
  | 6 => .int
  | 7 => .array .int
  | 8 => .array .int
  | 9 => .array .int
  | 10 => .array .int
  | 11 => .array .int
  | 12 => .int
  | 13 => .array .int
  | 14 => .array .int
  | 15 => .array .int
  | 16 => .long
  | 17 => .int
  | 18 => .int
  | 19 => .int
  | 20 => .long
  | 21 => .int
  | 22 => .int
  | 23 => .array .int
  | 24 => .array .int
  | 25 => .array .int
  | 26 => .array .int
  | 27 => .array .int
  | 28 => .array .int
  | _ => .array .int
theorem nmX10 : ∀ a, a < 30 → ∀ b, b < 30 → a ≠ b → (TX10 a).2.1 ≠ (TX10 b).2.1 := by decide +kernel
theorem tyX10_ok : ∀ k, k < 30 → parseFieldDescriptor (TX10 k).2.2.1 = some (tyX10 k) := by decide +kernel
abbrev cX10_init : ByteArray := prog_12_method_1_code
def yX10_init : MethodName := ⟨RX10, "<init>", "()V"⟩
abbrev cX10_in : ByteArray := prog_12_method_3_code
def yX10_in : MethodName := ⟨RX10, "in", "(JJJ)Z"⟩
abbrev cX10_isPiece : ByteArray := prog_12_method_4_code
def yX10_isPiece : MethodName := ⟨RX10, "isPiece", "(I)Z"⟩
abbrev cX10_isFamily : ByteArray := prog_12_method_5_code
def yX10_isFamily : MethodName := ⟨RX10, "isFamily", "(I)Z"⟩
abbrev cX10_type : ByteArray := prog_12_method_6_code
def yX10_type : MethodName := ⟨RX10, "type", "(JI)I"⟩
abbrev cX10_clear : ByteArray := prog_12_method_7_code
def yX10_clear : MethodName := ⟨RX10, "clear", "()I"⟩
abbrev cX10_isLetter : ByteArray := prog_12_method_8_code
def yX10_isLetter : MethodName := ⟨RX10, "isLetter", "(I)Z"⟩
abbrev cX10_isFigure : ByteArray := prog_12_method_9_code
def yX10_isFigure : MethodName := ⟨RX10, "isFigure", "(I)Z"⟩
abbrev cX10_next : ByteArray := prog_12_method_10_code
def yX10_next : MethodName := ⟨RX10, "next", "()V"⟩
abbrev cX10_takes : ByteArray := prog_12_method_11_code
def yX10_takes : MethodName := ⟨RX10, "takes", "(II)Z"⟩
abbrev cX10_stops : ByteArray := prog_12_method_12_code
def yX10_stops : MethodName := ⟨RX10, "stops", "()Z"⟩
abbrev cX10_takesPiece : ByteArray := prog_12_method_13_code
def yX10_takesPiece : MethodName := ⟨RX10, "takesPiece", "()Z"⟩
abbrev cX10_takesFamily : ByteArray := prog_12_method_14_code
def yX10_takesFamily : MethodName := ⟨RX10, "takesFamily", "()Z"⟩
abbrev cX10_takesTold : ByteArray := prog_12_method_15_code
def yX10_takesTold : MethodName := ⟨RX10, "takesTold", "(J)Z"⟩
abbrev cX10_takesAll : ByteArray := prog_12_method_16_code
def yX10_takesAll : MethodName := ⟨RX10, "takesAll", "()I"⟩
abbrev cX10_town : ByteArray := prog_12_method_17_code
def yX10_town : MethodName := ⟨RX10, "town", "()I"⟩
abbrev cX10_isStone : ByteArray := prog_12_method_18_code
def yX10_isStone : MethodName := ⟨RX10, "isStone", "(I)Z"⟩
abbrev cX10_ownerOf : ByteArray := prog_12_method_19_code
def yX10_ownerOf : MethodName := ⟨RX10, "ownerOf", "(I)I"⟩
abbrev cX10_piece : ByteArray := prog_12_method_20_code
def yX10_piece : MethodName := ⟨RX10, "piece", "(II)I"⟩
abbrev cX10_ownBy : ByteArray := prog_12_method_21_code
def yX10_ownBy : MethodName := ⟨RX10, "ownBy", "([II)I"⟩
abbrev cX10_many : ByteArray := prog_12_method_22_code
def yX10_many : MethodName := ⟨RX10, "many", "(I)I"⟩
abbrev cX10_family : ByteArray := prog_12_method_23_code
def yX10_family : MethodName := ⟨RX10, "family", "(II)I"⟩
abbrev cX10_pave : ByteArray := prog_12_method_24_code
def yX10_pave : MethodName := ⟨RX10, "pave", "(II)I"⟩
abbrev cX10_free : ByteArray := prog_12_method_25_code
def yX10_free : MethodName := ⟨RX10, "free", "(I)I"⟩
abbrev cX10_stone : ByteArray := prog_12_method_26_code
def yX10_stone : MethodName := ⟨RX10, "stone", "(II)I"⟩
abbrev cX10_flood : ByteArray := prog_12_method_27_code
def yX10_flood : MethodName := ⟨RX10, "flood", "(II)I"⟩
abbrev cX10_measures : ByteArray := prog_12_method_28_code
def yX10_measures : MethodName := ⟨RX10, "measures", "(II)V"⟩
abbrev cX10_wayOf : ByteArray := prog_12_method_29_code
def yX10_wayOf : MethodName := ⟨RX10, "wayOf", "(II)I"⟩
abbrev cX10_way : ByteArray := prog_12_method_30_code
def yX10_way : MethodName := ⟨RX10, "way", "(I)I"⟩
abbrev cX10_place : ByteArray := prog_12_method_31_code
def yX10_place : MethodName := ⟨RX10, "place", "(II)I"⟩
abbrev cX10_pole : ByteArray := prog_12_method_32_code
def yX10_pole : MethodName := ⟨RX10, "pole", "(II)I"⟩
abbrev cX10_costBy : ByteArray := prog_12_method_33_code
def yX10_costBy : MethodName := ⟨RX10, "costBy", "([II)I"⟩
abbrev cX10_judge : ByteArray := prog_12_method_34_code
def yX10_judge : MethodName := ⟨RX10, "judge", "(I)I"⟩
abbrev cX10_tells : ByteArray := prog_12_method_35_code
def yX10_tells : MethodName := ⟨RX10, "tells", "()V"⟩
abbrev cX10_bestOfOne : ByteArray := prog_12_method_36_code
def yX10_bestOfOne : MethodName := ⟨RX10, "bestOfOne", "(I)I"⟩
abbrev cX10_one : ByteArray := prog_12_method_37_code
def yX10_one : MethodName := ⟨RX10, "one", "(II)I"⟩
abbrev cX10_rowsOfAll : ByteArray := prog_12_method_38_code
def yX10_rowsOfAll : MethodName := ⟨RX10, "rowsOfAll", "()I"⟩
abbrev cX10_lays : ByteArray := prog_12_method_39_code
def yX10_lays : MethodName := ⟨RX10, "lays", "(I)V"⟩
abbrev cX10_all : ByteArray := prog_12_method_40_code
def yX10_all : MethodName := ⟨RX10, "all", "(I)I"⟩
abbrev cX10_isLess : ByteArray := prog_12_method_41_code
def yX10_isLess : MethodName := ⟨RX10, "isLess", "(II)Z"⟩
abbrev cX10_changeBy : ByteArray := prog_12_method_42_code
def yX10_changeBy : MethodName := ⟨RX10, "changeBy", "([I)I"⟩
abbrev cX10_change : ByteArray := prog_12_method_43_code
def yX10_change : MethodName := ⟨RX10, "change", "()I"⟩
abbrev cX10_rest : ByteArray := prog_12_method_44_code
def yX10_rest : MethodName := ⟨RX10, "rest", "()I"⟩
abbrev cX10_match : ByteArray := prog_12_method_45_code
def yX10_match : MethodName := ⟨RX10, "match", "(II)I"⟩
abbrev cX10_always : ByteArray := prog_12_method_46_code
def yX10_always : MethodName := ⟨RX10, "always", "()I"⟩
abbrev cX10_shut : ByteArray := prog_12_method_47_code
def yX10_shut : MethodName := ⟨RX10, "shut", "(II)J"⟩
abbrev cX10_saw : ByteArray := prog_12_method_48_code
def yX10_saw : MethodName := ⟨RX10, "saw", "(II)I"⟩
abbrev cX10_forget : ByteArray := prog_12_method_49_code
def yX10_forget : MethodName := ⟨RX10, "forget", "()I"⟩
abbrev cX10_paves : ByteArray := prog_12_method_50_code
def yX10_paves : MethodName := ⟨RX10, "paves", "()I"⟩
abbrev cX10_fits : ByteArray := prog_12_method_51_code
def yX10_fits : MethodName := ⟨RX10, "fits", "()I"⟩
abbrev cX10_who : ByteArray := prog_12_method_52_code
def yX10_who : MethodName := ⟨RX10, "who", "(I)I"⟩
abbrev cX10_mark : ByteArray := prog_12_method_53_code
def yX10_mark : MethodName := ⟨RX10, "mark", "(II)I"⟩
abbrev cX10_owned : ByteArray := prog_12_method_54_code
def yX10_owned : MethodName := ⟨RX10, "owned", "()I"⟩
abbrev cX10_keep : ByteArray := prog_12_method_55_code
def yX10_keep : MethodName := ⟨RX10, "keep", "(I)I"⟩
abbrev cX10_back : ByteArray := prog_12_method_56_code
def yX10_back : MethodName := ⟨RX10, "back", "(I)I"⟩
abbrev cX10_count : ByteArray := prog_12_method_57_code
def yX10_count : MethodName := ⟨RX10, "count", "(I)I"⟩
abbrev cX10_trace : ByteArray := prog_12_method_58_code
def yX10_trace : MethodName := ⟨RX10, "trace", "()J"⟩
def RJx145de : String := "java/io/Serializable"
def TJx145de : u_T := fun k => match k with
  | _ => ("", "", "", false)
def tyJx145de : Nat → FieldType := fun k => match k with
  | _ => .int
theorem nmJx145de : ∀ a, a < 0 → ∀ b, b < 0 → a ≠ b → (TJx145de a).2.1 ≠ (TJx145de b).2.1 := by decide +kernel
theorem tyJx145de_ok : ∀ k, k < 0 → parseFieldDescriptor (TJx145de k).2.2.1 = some (tyJx145de k) := by decide +kernel
def RJx9f9b0 : String := "java/lang/CharSequence"
def TJx9f9b0 : u_T := fun k => match k with
  | _ => ("", "", "", false)
def tyJx9f9b0 : Nat → FieldType := fun k => match k with
  | _ => .int
theorem nmJx9f9b0 : ∀ a, a < 0 → ∀ b, b < 0 → a ≠ b → (TJx9f9b0 a).2.1 ≠ (TJx9f9b0 b).2.1 := by decide +kernel
theorem tyJx9f9b0_ok : ∀ k, k < 0 → parseFieldDescriptor (TJx9f9b0 k).2.2.1 = some (tyJx9f9b0 k) := by decide +kernel
def RJxb160c : String := "java/lang/Comparable"
def TJxb160c : u_T := fun k => match k with
  | _ => ("", "", "", false)
def tyJxb160c : Nat → FieldType := fun k => match k with
  | _ => .int
theorem nmJxb160c : ∀ a, a < 0 → ∀ b, b < 0 → a ≠ b → (TJxb160c a).2.1 ≠ (TJxb160c b).2.1 := by decide +kernel
theorem tyJxb160c_ok : ∀ k, k < 0 → parseFieldDescriptor (TJxb160c k).2.2.1 = some (tyJxb160c k) := by decide +kernel
def RJ6 : String := "java/lang/Integer"
def TJ6 : u_T := fun k => match k with
  | _ => ("", "", "", false)
def tyJ6 : Nat → FieldType := fun k => match k with
  | _ => .int
theorem nmJ6 : ∀ a, a < 0 → ∀ b, b < 0 → a ≠ b → (TJ6 a).2.1 ≠ (TJ6 b).2.1 := by decide +kernel
theorem tyJ6_ok : ∀ k, k < 0 → parseFieldDescriptor (TJ6 k).2.2.1 = some (tyJ6 k) := by decide +kernel
abbrev cJ6_bitCount_0f7a4 : ByteArray := prog_13_method_49_code
def yJ6_bitCount_0f7a4 : MethodName := ⟨RJ6, "bitCount", "(I)I"⟩
def RJ9 : String := "java/lang/Math"
def TJ9 : u_T := fun k => match k with
  | _ => ("", "", "", false)
def tyJ9 : Nat → FieldType := fun k => match k with
  | _ => .int
theorem nmJ9 : ∀ a, a < 0 → ∀ b, b < 0 → a ≠ b → (TJ9 a).2.1 ≠ (TJ9 b).2.1 := by decide +kernel
theorem tyJ9_ok : ∀ k, k < 0 → parseFieldDescriptor (TJ9 k).2.2.1 = some (tyJ9 k) := by decide +kernel
abbrev cJ9_max_7cf53 : ByteArray := prog_14_method_65_code
def yJ9_max_7cf53 : MethodName := ⟨RJ9, "max", "(II)I"⟩
abbrev cJ9_min_7cf53 : ByteArray := prog_14_method_69_code
def yJ9_min_7cf53 : MethodName := ⟨RJ9, "min", "(II)I"⟩
def RJ0 : String := "java/lang/String"
def TJ0 : u_T := fun k => match k with
  | _ => ("", "", "", false)
def tyJ0 : Nat → FieldType := fun k => match k with
  | _ => .int
theorem nmJ0 : ∀ a, a < 0 → ∀ b, b < 0 → a ≠ b → (TJ0 a).2.1 ≠ (TJ0 b).2.1 := by decide +kernel
theorem tyJ0_ok : ∀ k, k < 0 → parseFieldDescriptor (TJ0 k).2.2.1 = some (tyJ0 k) := by decide +kernel
abbrev cJ0_length_8abf5 : ByteArray := prog_15_method_54_code
def yJ0_length_8abf5 : MethodName := ⟨RJ0, "length", "()I"⟩
abbrev cJ0_charAt_5068e : ByteArray := prog_15_method_56_code
def yJ0_charAt_5068e : MethodName := ⟨RJ0, "charAt", "(I)C"⟩
abbrev cJ0_coder_7d493 : ByteArray := prog_15_method_152_code
def yJ0_coder_7d493 : MethodName := ⟨RJ0, "coder", "()B"⟩
abbrev cJ0_isLatin1_aae02 : ByteArray := prog_15_method_154_code
def yJ0_isLatin1_aae02 : MethodName := ⟨RJ0, "isLatin1", "()Z"⟩
abbrev cJ0_checkIndex_df160 : ByteArray := prog_15_method_155_code
def yJ0_checkIndex_df160 : MethodName := ⟨RJ0, "checkIndex", "(II)V"⟩
def RJ1 : String := "java/lang/StringLatin1"
def TJ1 : u_T := fun k => match k with
  | _ => ("", "", "", false)
def tyJ1 : Nat → FieldType := fun k => match k with
  | _ => .int
theorem nmJ1 : ∀ a, a < 0 → ∀ b, b < 0 → a ≠ b → (TJ1 a).2.1 ≠ (TJ1 b).2.1 := by decide +kernel
theorem tyJ1_ok : ∀ k, k < 0 → parseFieldDescriptor (TJ1 k).2.2.1 = some (tyJ1 k) := by decide +kernel
abbrev cJ1_charAt_3b067 : ByteArray := prog_16_method_2_code
def yJ1_charAt_3b067 : MethodName := ⟨RJ1, "charAt", "([BI)C"⟩
def RJ2 : String := "java/lang/StringUTF16"
def TJ2 : u_T := fun k => match k with
  | _ => ("", "", "", false)
def tyJ2 : Nat → FieldType := fun k => match k with
  | _ => .int
theorem nmJ2 : ∀ a, a < 0 → ∀ b, b < 0 → a ≠ b → (TJ2 a).2.1 ≠ (TJ2 b).2.1 := by decide +kernel
theorem tyJ2_ok : ∀ k, k < 0 → parseFieldDescriptor (TJ2 k).2.2.1 = some (tyJ2 k) := by decide +kernel
abbrev cJ2_getChar_3b067 : ByteArray := prog_17_method_5_code
def yJ2_getChar_3b067 : MethodName := ⟨RJ2, "getChar", "([BI)C"⟩
abbrev cJ2_length_9d52b : ByteArray := prog_17_method_6_code
def yJ2_length_9d52b : MethodName := ⟨RJ2, "length", "([B)I"⟩
abbrev cJ2_charAt_3b067 : ByteArray := prog_17_method_83_code
def yJ2_charAt_3b067 : MethodName := ⟨RJ2, "charAt", "([BI)C"⟩
abbrev cJ2_checkIndex_2214a : ByteArray := prog_17_method_91_code
def yJ2_checkIndex_2214a : MethodName := ⟨RJ2, "checkIndex", "(I[B)V"⟩
def RJ10 : String := "java/lang/System"
def TJ10 : u_T := fun k => match k with
  | _ => ("", "", "", false)
def tyJ10 : Nat → FieldType := fun k => match k with
  | _ => .int
theorem nmJ10 : ∀ a, a < 0 → ∀ b, b < 0 → a ≠ b → (TJ10 a).2.1 ≠ (TJ10 b).2.1 := by decide +kernel
theorem tyJ10_ok : ∀ k, k < 0 → parseFieldDescriptor (TJ10 k).2.2.1 = some (tyJ10 k) := by decide +kernel
def RJxfd54e : String := "java/lang/constant/Constable"
def TJxfd54e : u_T := fun k => match k with
  | _ => ("", "", "", false)
def tyJxfd54e : Nat → FieldType := fun k => match k with
  | _ => .int
theorem nmJxfd54e : ∀ a, a < 0 → ∀ b, b < 0 → a ≠ b → (TJxfd54e a).2.1 ≠ (TJxfd54e b).2.1 := by decide +kernel
theorem tyJxfd54e_ok : ∀ k, k < 0 → parseFieldDescriptor (TJxfd54e k).2.2.1 = some (tyJxfd54e k) := by decide +kernel
def RJx3cf43 : String := "java/lang/constant/ConstantDesc"
def TJx3cf43 : u_T := fun k => match k with
  | _ => ("", "", "", false)
def tyJx3cf43 : Nat → FieldType := fun k => match k with
  | _ => .int
theorem nmJx3cf43 : ∀ a, a < 0 → ∀ b, b < 0 → a ≠ b → (TJx3cf43 a).2.1 ≠ (TJx3cf43 b).2.1 := by decide +kernel
theorem tyJx3cf43_ok : ∀ k, k < 0 → parseFieldDescriptor (TJx3cf43 k).2.2.1 = some (tyJx3cf43 k) := by decide +kernel
def RJ7 : String := "java/util/Arrays"
def TJ7 : u_T := fun k => match k with
  | _ => ("", "", "", false)
def tyJ7 : Nat → FieldType := fun k => match k with
  | _ => .int
theorem nmJ7 : ∀ a, a < 0 → ∀ b, b < 0 → a ≠ b → (TJ7 a).2.1 ≠ (TJ7 b).2.1 := by decide +kernel
theorem tyJ7_ok : ∀ k, k < 0 → parseFieldDescriptor (TJ7 k).2.2.1 = some (tyJ7 k) := by decide +kernel
abbrev cJ7_fill_53178 : ByteArray := prog_19_method_103_code
def yJ7_fill_53178 : MethodName := ⟨RJ7, "fill", "([II)V"⟩
def RJ3 : String := "jdk/internal/util/Preconditions"
def TJ3 : u_T := fun k => match k with
  | _ => ("", "", "", false)
def tyJ3 : Nat → FieldType := fun k => match k with
  | _ => .int
theorem nmJ3 : ∀ a, a < 0 → ∀ b, b < 0 → a ≠ b → (TJ3 a).2.1 ≠ (TJ3 b).2.1 := by decide +kernel
theorem tyJ3_ok : ∀ k, k < 0 → parseFieldDescriptor (TJ3 k).2.2.1 = some (tyJ3 k) := by decide +kernel
abbrev cJ3_checkIndex_8e157 : ByteArray := prog_20_method_11_code
def yJ3_checkIndex_8e157 : MethodName := ⟨RJ3, "checkIndex", "(IILjava/util/function/BiFunction;)I"⟩
def RL : String := "PavedBanLaw"
abbrev cL_law : ByteArray := code
def yL_law : MethodName := ⟨RL, "law", "([I)Z"⟩
abbrev vwCl : List vw_C := [(RX0, TX0, 8), (RX1, TX1, 3), (RX2, TX2, 4), (RX3, TX3, 5), (RX4, TX4, 7), (RX5, TX5, 8), (RX6, TX6, 3), (RX7, TX7, 2), (RX8, TX8, 3), (RX9, TX9, 14), (RX10, TX10, 30)]
end
section
theorem dX0_init_0 : decode cX0_init 0 = .ok (.aload_n 0, 1) := by decide +kernel
theorem dX0_init_1 : decode cX0_init 1 = .ok (.invokespecial 3, 3) := by decide +kernel
theorem dX0_init_4 : decode cX0_init 4 = .ok (.aload_n 0, 1) := by decide +kernel
theorem dX0_init_5 : decode cX0_init 5 = .ok (.iconst (-1), 1) := by decide +kernel
theorem dX0_init_6 : decode cX0_init 6 = .ok (.putfield 11, 3) := by decide +kernel
theorem dX0_init_9 : decode cX0_init 9 = .ok (.aload_n 0, 1) := by decide +kernel
theorem dX0_init_10 : decode cX0_init 10 = .ok (.iconst 0, 1) := by decide +kernel
theorem dX0_init_11 : decode cX0_init 11 = .ok (.putfield 15, 3) := by decide +kernel
theorem dX0_init_14 : decode cX0_init 14 = .ok (.aload_n 0, 1) := by decide +kernel
theorem dX0_init_15 : decode cX0_init 15 = .ok (.ldc 18, 2) := by decide +kernel
theorem dX0_init_17 : decode cX0_init 17 = .ok (.putfield 19, 3) := by decide +kernel
theorem dX0_init_20 : decode cX0_init 20 = .ok (.aload_n 0, 1) := by decide +kernel
theorem dX0_init_21 : decode cX0_init 21 = .ok (.bipush 8, 2) := by decide +kernel
theorem dX0_init_23 : decode cX0_init 23 = .ok (.newarray .int, 2) := by decide +kernel
theorem dX0_init_25 : decode cX0_init 25 = .ok (.putfield 22, 3) := by decide +kernel
theorem dX0_init_28 : decode cX0_init 28 = .ok (.aload_n 0, 1) := by decide +kernel
theorem dX0_init_29 : decode cX0_init 29 = .ok (.bipush 8, 2) := by decide +kernel
theorem dX0_init_31 : decode cX0_init 31 = .ok (.newarray .int, 2) := by decide +kernel
theorem dX0_init_33 : decode cX0_init 33 = .ok (.putfield 26, 3) := by decide +kernel
theorem dX0_init_36 : decode cX0_init 36 = .ok (.aload_n 0, 1) := by decide +kernel
theorem dX0_init_37 : decode cX0_init 37 = .ok (.iconst 4, 1) := by decide +kernel
theorem dX0_init_38 : decode cX0_init 38 = .ok (.newarray .int, 2) := by decide +kernel
theorem dX0_init_40 : decode cX0_init 40 = .ok (.putfield 29, 3) := by decide +kernel
theorem dX0_init_43 : decode cX0_init 43 = .ok (.aload_n 0, 1) := by decide +kernel
theorem dX0_init_44 : decode cX0_init 44 = .ok (.aload_n 1, 1) := by decide +kernel
theorem dX0_init_45 : decode cX0_init 45 = .ok (.putfield 32, 3) := by decide +kernel
theorem dX0_init_48 : decode cX0_init 48 = .ok (.aload_n 0, 1) := by decide +kernel
theorem dX0_init_49 : decode cX0_init 49 = .ok (.aload_n 2, 1) := by decide +kernel
theorem dX0_init_50 : decode cX0_init 50 = .ok (.putfield 36, 3) := by decide +kernel
theorem dX0_init_53 : decode cX0_init 53 = .ok (.return_, 1) := by decide +kernel
theorem dX0_startAnew_0 : decode cX0_startAnew 0 = .ok (.aload_n 0, 1) := by decide +kernel
theorem dX0_startAnew_1 : decode cX0_startAnew 1 = .ok (.iconst (-1), 1) := by decide +kernel
theorem dX0_startAnew_2 : decode cX0_startAnew 2 = .ok (.putfield 11, 3) := by decide +kernel
theorem dX0_startAnew_5 : decode cX0_startAnew 5 = .ok (.return_, 1) := by decide +kernel
theorem dX0_seek_0 : decode cX0_seek 0 = .ok (.aload_n 0, 1) := by decide +kernel
theorem dX0_seek_1 : decode cX0_seek 1 = .ok (.getfield 11, 3) := by decide +kernel
theorem dX0_seek_4 : decode cX0_seek 4 = .ok (.iload_n 1, 1) := by decide +kernel
theorem dX0_seek_5 : decode cX0_seek 5 = .ok (.if_icmp .ne 12, 3) := by decide +kernel
theorem dX0_seek_8 : decode cX0_seek 8 = .ok (.aload_n 0, 1) := by decide +kernel
theorem dX0_seek_9 : decode cX0_seek 9 = .ok (.getfield 15, 3) := by decide +kernel
theorem dX0_seek_12 : decode cX0_seek 12 = .ok (.iload_n 2, 1) := by decide +kernel
theorem dX0_seek_13 : decode cX0_seek 13 = .ok (.if_icmp .ne 4, 3) := by decide +kernel
theorem dX0_seek_16 : decode cX0_seek 16 = .ok (.return_, 1) := by decide +kernel
theorem dX0_seek_17 : decode cX0_seek 17 = .ok (.aload_n 0, 1) := by decide +kernel
theorem dX0_seek_18 : decode cX0_seek 18 = .ok (.iload_n 1, 1) := by decide +kernel
theorem dX0_seek_19 : decode cX0_seek 19 = .ok (.putfield 11, 3) := by decide +kernel
theorem dX0_seek_22 : decode cX0_seek 22 = .ok (.aload_n 0, 1) := by decide +kernel
theorem dX0_seek_23 : decode cX0_seek 23 = .ok (.iload_n 2, 1) := by decide +kernel
theorem dX0_seek_24 : decode cX0_seek 24 = .ok (.putfield 15, 3) := by decide +kernel
theorem dX0_seek_27 : decode cX0_seek 27 = .ok (.aload_n 0, 1) := by decide +kernel
theorem dX0_seek_28 : decode cX0_seek 28 = .ok (.ldc 18, 2) := by decide +kernel
theorem dX0_seek_30 : decode cX0_seek 30 = .ok (.putfield 19, 3) := by decide +kernel
theorem dX0_seek_33 : decode cX0_seek 33 = .ok (.iload_n 1, 1) := by decide +kernel
theorem dX0_seek_34 : decode cX0_seek 34 = .ok (.iconst 2, 1) := by decide +kernel
theorem dX0_seek_35 : decode cX0_seek 35 = .ok (.if_icmp .eq 14, 3) := by decide +kernel
theorem dX0_seek_38 : decode cX0_seek 38 = .ok (.aload_n 0, 1) := by decide +kernel
theorem dX0_seek_39 : decode cX0_seek 39 = .ok (.iconst 0, 1) := by decide +kernel
theorem dX0_seek_40 : decode cX0_seek 40 = .ok (.aload_n 0, 1) := by decide +kernel
theorem dX0_seek_41 : decode cX0_seek 41 = .ok (.getfield 15, 3) := by decide +kernel
theorem dX0_seek_44 : decode cX0_seek 44 = .ok (.iconst 0, 1) := by decide +kernel
theorem dX0_seek_45 : decode cX0_seek 45 = .ok (.invokevirtual 40, 3) := by decide +kernel
theorem dX0_seek_48 : decode cX0_seek 48 = .ok (.return_, 1) := by decide +kernel
theorem dX0_seek_49 : decode cX0_seek 49 = .ok (.aload_n 0, 1) := by decide +kernel
theorem dX0_seek_50 : decode cX0_seek 50 = .ok (.getfield 29, 3) := by decide +kernel
theorem dX0_seek_53 : decode cX0_seek 53 = .ok (.iconst 0, 1) := by decide +kernel
theorem dX0_seek_54 : decode cX0_seek 54 = .ok (.invokestatic 44, 3) := by decide +kernel
theorem dX0_seek_57 : decode cX0_seek 57 = .ok (.aload_n 0, 1) := by decide +kernel
theorem dX0_seek_58 : decode cX0_seek 58 = .ok (.invokevirtual 50, 3) := by decide +kernel
theorem dX0_seek_61 : decode cX0_seek 61 = .ok (.istore_n 3, 1) := by decide +kernel
theorem dX0_seek_62 : decode cX0_seek 62 = .ok (.iload_n 3, 1) := by decide +kernel
theorem dX0_seek_63 : decode cX0_seek 63 = .ok (.aload_n 0, 1) := by decide +kernel
theorem dX0_seek_64 : decode cX0_seek 64 = .ok (.getfield 19, 3) := by decide +kernel
theorem dX0_seek_67 : decode cX0_seek 67 = .ok (.if_icmp .ge 9, 3) := by decide +kernel
theorem dX0_seek_70 : decode cX0_seek 70 = .ok (.aload_n 0, 1) := by decide +kernel
theorem dX0_seek_71 : decode cX0_seek 71 = .ok (.iconst 0, 1) := by decide +kernel
theorem dX0_seek_72 : decode cX0_seek 72 = .ok (.iload_n 3, 1) := by decide +kernel
theorem dX0_seek_73 : decode cX0_seek 73 = .ok (.invokevirtual 54, 3) := by decide +kernel
theorem dX0_seek_76 : decode cX0_seek 76 = .ok (.return_, 1) := by decide +kernel
theorem dX0_costsOfNone_0 : decode cX0_costsOfNone 0 = .ok (.iconst 0, 1) := by decide +kernel
theorem dX0_costsOfNone_1 : decode cX0_costsOfNone 1 = .ok (.istore_n 1, 1) := by decide +kernel
theorem dX0_costsOfNone_2 : decode cX0_costsOfNone 2 = .ok (.iconst 0, 1) := by decide +kernel
theorem dX0_costsOfNone_3 : decode cX0_costsOfNone 3 = .ok (.istore_n 2, 1) := by decide +kernel
theorem dX0_costsOfNone_4 : decode cX0_costsOfNone 4 = .ok (.iload_n 2, 1) := by decide +kernel
theorem dX0_costsOfNone_5 : decode cX0_costsOfNone 5 = .ok (.aload_n 0, 1) := by decide +kernel
theorem dX0_costsOfNone_6 : decode cX0_costsOfNone 6 = .ok (.getfield 32, 3) := by decide +kernel
theorem dX0_costsOfNone_9 : decode cX0_costsOfNone 9 = .ok (.getfield 58, 3) := by decide +kernel
theorem dX0_costsOfNone_12 : decode cX0_costsOfNone 12 = .ok (.if_icmp .ge 21, 3) := by decide +kernel
theorem dX0_costsOfNone_15 : decode cX0_costsOfNone 15 = .ok (.iload_n 1, 1) := by decide +kernel
theorem dX0_costsOfNone_16 : decode cX0_costsOfNone 16 = .ok (.aload_n 0, 1) := by decide +kernel
theorem dX0_costsOfNone_17 : decode cX0_costsOfNone 17 = .ok (.getfield 36, 3) := by decide +kernel
theorem dX0_costsOfNone_20 : decode cX0_costsOfNone 20 = .ok (.iload_n 2, 1) := by decide +kernel
theorem dX0_costsOfNone_21 : decode cX0_costsOfNone 21 = .ok (.iconst 0, 1) := by decide +kernel
theorem dX0_costsOfNone_22 : decode cX0_costsOfNone 22 = .ok (.invokevirtual 63, 3) := by decide +kernel
theorem dX0_costsOfNone_25 : decode cX0_costsOfNone 25 = .ok (.iadd, 1) := by decide +kernel
theorem dX0_costsOfNone_26 : decode cX0_costsOfNone 26 = .ok (.istore_n 1, 1) := by decide +kernel
theorem dX0_costsOfNone_27 : decode cX0_costsOfNone 27 = .ok (.iinc 2 1, 3) := by decide +kernel
theorem dX0_costsOfNone_30 : decode cX0_costsOfNone 30 = .ok (.goto (-26), 3) := by decide +kernel
theorem dX0_costsOfNone_33 : decode cX0_costsOfNone 33 = .ok (.iload_n 1, 1) := by decide +kernel
theorem dX0_costsOfNone_34 : decode cX0_costsOfNone 34 = .ok (.ireturn, 1) := by decide +kernel
theorem dX0_tryFamily_0 : decode cX0_tryFamily 0 = .ok (.iload_n 1, 1) := by decide +kernel
theorem dX0_tryFamily_1 : decode cX0_tryFamily 1 = .ok (.aload_n 0, 1) := by decide +kernel
theorem dX0_tryFamily_2 : decode cX0_tryFamily 2 = .ok (.getfield 32, 3) := by decide +kernel
theorem dX0_tryFamily_5 : decode cX0_tryFamily 5 = .ok (.getfield 58, 3) := by decide +kernel
theorem dX0_tryFamily_8 : decode cX0_tryFamily 8 = .ok (.if_icmp .lt 9, 3) := by decide +kernel
theorem dX0_tryFamily_11 : decode cX0_tryFamily 11 = .ok (.aload_n 0, 1) := by decide +kernel
theorem dX0_tryFamily_12 : decode cX0_tryFamily 12 = .ok (.iload_n 3, 1) := by decide +kernel
theorem dX0_tryFamily_13 : decode cX0_tryFamily 13 = .ok (.invokevirtual 69, 3) := by decide +kernel
theorem dX0_tryFamily_16 : decode cX0_tryFamily 16 = .ok (.return_, 1) := by decide +kernel
theorem dX0_tryFamily_17 : decode cX0_tryFamily 17 = .ok (.iconst 0, 1) := by decide +kernel
theorem dX0_tryFamily_18 : decode cX0_tryFamily 18 = .ok (.istore 4, 2) := by decide +kernel
theorem dX0_tryFamily_20 : decode cX0_tryFamily 20 = .ok (.iload 4, 2) := by decide +kernel
theorem dX0_tryFamily_22 : decode cX0_tryFamily 22 = .ok (.aload_n 0, 1) := by decide +kernel
theorem dX0_tryFamily_23 : decode cX0_tryFamily 23 = .ok (.getfield 32, 3) := by decide +kernel
theorem dX0_tryFamily_26 : decode cX0_tryFamily 26 = .ok (.getfield 73, 3) := by decide +kernel
theorem dX0_tryFamily_29 : decode cX0_tryFamily 29 = .ok (.if_icmp .ge 67, 3) := by decide +kernel
theorem dX0_tryFamily_32 : decode cX0_tryFamily 32 = .ok (.iconst 1, 1) := by decide +kernel
theorem dX0_tryFamily_33 : decode cX0_tryFamily 33 = .ok (.iload 4, 2) := by decide +kernel
theorem dX0_tryFamily_35 : decode cX0_tryFamily 35 = .ok (.ishl, 1) := by decide +kernel
theorem dX0_tryFamily_36 : decode cX0_tryFamily 36 = .ok (.istore 5, 2) := by decide +kernel
theorem dX0_tryFamily_38 : decode cX0_tryFamily 38 = .ok (.iload_n 2, 1) := by decide +kernel
theorem dX0_tryFamily_39 : decode cX0_tryFamily 39 = .ok (.iload 5, 2) := by decide +kernel
theorem dX0_tryFamily_41 : decode cX0_tryFamily 41 = .ok (.iand, 1) := by decide +kernel
theorem dX0_tryFamily_42 : decode cX0_tryFamily 42 = .ok (.ifCond .ne 14, 3) := by decide +kernel
theorem dX0_tryFamily_45 : decode cX0_tryFamily 45 = .ok (.aload_n 0, 1) := by decide +kernel
theorem dX0_tryFamily_46 : decode cX0_tryFamily 46 = .ok (.iload_n 3, 1) := by decide +kernel
theorem dX0_tryFamily_47 : decode cX0_tryFamily 47 = .ok (.iload_n 1, 1) := by decide +kernel
theorem dX0_tryFamily_48 : decode cX0_tryFamily 48 = .ok (.iload 5, 2) := by decide +kernel
theorem dX0_tryFamily_50 : decode cX0_tryFamily 50 = .ok (.invokevirtual 76, 3) := by decide +kernel
theorem dX0_tryFamily_53 : decode cX0_tryFamily 53 = .ok (.goto 5, 3) := by decide +kernel
theorem dX0_tryFamily_56 : decode cX0_tryFamily 56 = .ok (.ldc 18, 2) := by decide +kernel
theorem dX0_tryFamily_58 : decode cX0_tryFamily 58 = .ok (.istore 6, 2) := by decide +kernel
theorem dX0_tryFamily_60 : decode cX0_tryFamily 60 = .ok (.iload 6, 2) := by decide +kernel
theorem dX0_tryFamily_62 : decode cX0_tryFamily 62 = .ok (.aload_n 0, 1) := by decide +kernel
theorem dX0_tryFamily_63 : decode cX0_tryFamily 63 = .ok (.getfield 19, 3) := by decide +kernel
theorem dX0_tryFamily_66 : decode cX0_tryFamily 66 = .ok (.if_icmp .ge 24, 3) := by decide +kernel
theorem dX0_tryFamily_69 : decode cX0_tryFamily 69 = .ok (.aload_n 0, 1) := by decide +kernel
theorem dX0_tryFamily_70 : decode cX0_tryFamily 70 = .ok (.getfield 26, 3) := by decide +kernel
theorem dX0_tryFamily_73 : decode cX0_tryFamily 73 = .ok (.iload_n 1, 1) := by decide +kernel
theorem dX0_tryFamily_74 : decode cX0_tryFamily 74 = .ok (.iload 4, 2) := by decide +kernel
theorem dX0_tryFamily_76 : decode cX0_tryFamily 76 = .ok (.iastore, 1) := by decide +kernel
theorem dX0_tryFamily_77 : decode cX0_tryFamily 77 = .ok (.aload_n 0, 1) := by decide +kernel
theorem dX0_tryFamily_78 : decode cX0_tryFamily 78 = .ok (.iload_n 1, 1) := by decide +kernel
theorem dX0_tryFamily_79 : decode cX0_tryFamily 79 = .ok (.iconst 1, 1) := by decide +kernel
theorem dX0_tryFamily_80 : decode cX0_tryFamily 80 = .ok (.iadd, 1) := by decide +kernel
theorem dX0_tryFamily_81 : decode cX0_tryFamily 81 = .ok (.iload_n 2, 1) := by decide +kernel
theorem dX0_tryFamily_82 : decode cX0_tryFamily 82 = .ok (.iload 5, 2) := by decide +kernel
theorem dX0_tryFamily_84 : decode cX0_tryFamily 84 = .ok (.ior, 1) := by decide +kernel
theorem dX0_tryFamily_85 : decode cX0_tryFamily 85 = .ok (.iload 6, 2) := by decide +kernel
theorem dX0_tryFamily_87 : decode cX0_tryFamily 87 = .ok (.invokevirtual 40, 3) := by decide +kernel
theorem dX0_tryFamily_90 : decode cX0_tryFamily 90 = .ok (.iinc 4 1, 3) := by decide +kernel
theorem dX0_tryFamily_93 : decode cX0_tryFamily 93 = .ok (.goto (-73), 3) := by decide +kernel
theorem dX0_tryFamily_96 : decode cX0_tryFamily 96 = .ok (.return_, 1) := by decide +kernel
theorem dX0_worthWith_0 : decode cX0_worthWith 0 = .ok (.aload_n 0, 1) := by decide +kernel
theorem dX0_worthWith_1 : decode cX0_worthWith 1 = .ok (.getfield 11, 3) := by decide +kernel
theorem dX0_worthWith_4 : decode cX0_worthWith 4 = .ok (.iconst 1, 1) := by decide +kernel
theorem dX0_worthWith_5 : decode cX0_worthWith 5 = .ok (.if_icmp .ne 17, 3) := by decide +kernel
theorem dX0_worthWith_8 : decode cX0_worthWith 8 = .ok (.iload_n 1, 1) := by decide +kernel
theorem dX0_worthWith_9 : decode cX0_worthWith 9 = .ok (.aload_n 0, 1) := by decide +kernel
theorem dX0_worthWith_10 : decode cX0_worthWith 10 = .ok (.getfield 36, 3) := by decide +kernel
theorem dX0_worthWith_13 : decode cX0_worthWith 13 = .ok (.iload_n 2, 1) := by decide +kernel
theorem dX0_worthWith_14 : decode cX0_worthWith 14 = .ok (.iload_n 3, 1) := by decide +kernel
theorem dX0_worthWith_15 : decode cX0_worthWith 15 = .ok (.invokevirtual 80, 3) := by decide +kernel
theorem dX0_worthWith_18 : decode cX0_worthWith 18 = .ok (.invokestatic 83, 3) := by decide +kernel
theorem dX0_worthWith_21 : decode cX0_worthWith 21 = .ok (.ireturn, 1) := by decide +kernel
theorem dX0_worthWith_22 : decode cX0_worthWith 22 = .ok (.iload_n 1, 1) := by decide +kernel
theorem dX0_worthWith_23 : decode cX0_worthWith 23 = .ok (.aload_n 0, 1) := by decide +kernel
theorem dX0_worthWith_24 : decode cX0_worthWith 24 = .ok (.getfield 36, 3) := by decide +kernel
theorem dX0_worthWith_27 : decode cX0_worthWith 27 = .ok (.iload_n 2, 1) := by decide +kernel
theorem dX0_worthWith_28 : decode cX0_worthWith 28 = .ok (.iload_n 3, 1) := by decide +kernel
theorem dX0_worthWith_29 : decode cX0_worthWith 29 = .ok (.invokevirtual 80, 3) := by decide +kernel
theorem dX0_worthWith_32 : decode cX0_worthWith 32 = .ok (.aload_n 0, 1) := by decide +kernel
theorem dX0_worthWith_33 : decode cX0_worthWith 33 = .ok (.getfield 32, 3) := by decide +kernel
theorem dX0_worthWith_36 : decode cX0_worthWith 36 = .ok (.getfield 88, 3) := by decide +kernel
theorem dX0_worthWith_39 : decode cX0_worthWith 39 = .ok (.iload_n 2, 1) := by decide +kernel
theorem dX0_worthWith_40 : decode cX0_worthWith 40 = .ok (.iaload, 1) := by decide +kernel
theorem dX0_worthWith_41 : decode cX0_worthWith 41 = .ok (.imul, 1) := by decide +kernel
theorem dX0_worthWith_42 : decode cX0_worthWith 42 = .ok (.iadd, 1) := by decide +kernel
theorem dX0_worthWith_43 : decode cX0_worthWith 43 = .ok (.ireturn, 1) := by decide +kernel
theorem dX0_tryPiece_0 : decode cX0_tryPiece 0 = .ok (.iload_n 1, 1) := by decide +kernel
theorem dX0_tryPiece_1 : decode cX0_tryPiece 1 = .ok (.aload_n 0, 1) := by decide +kernel
theorem dX0_tryPiece_2 : decode cX0_tryPiece 2 = .ok (.getfield 32, 3) := by decide +kernel
theorem dX0_tryPiece_5 : decode cX0_tryPiece 5 = .ok (.getfield 73, 3) := by decide +kernel
theorem dX0_tryPiece_8 : decode cX0_tryPiece 8 = .ok (.if_icmp .lt 9, 3) := by decide +kernel
theorem dX0_tryPiece_11 : decode cX0_tryPiece 11 = .ok (.aload_n 0, 1) := by decide +kernel
theorem dX0_tryPiece_12 : decode cX0_tryPiece 12 = .ok (.iload_n 2, 1) := by decide +kernel
theorem dX0_tryPiece_13 : decode cX0_tryPiece 13 = .ok (.invokevirtual 69, 3) := by decide +kernel
theorem dX0_tryPiece_16 : decode cX0_tryPiece 16 = .ok (.return_, 1) := by decide +kernel
theorem dX0_tryPiece_17 : decode cX0_tryPiece 17 = .ok (.iconst 1, 1) := by decide +kernel
theorem dX0_tryPiece_18 : decode cX0_tryPiece 18 = .ok (.iload_n 1, 1) := by decide +kernel
theorem dX0_tryPiece_19 : decode cX0_tryPiece 19 = .ok (.ishl, 1) := by decide +kernel
theorem dX0_tryPiece_20 : decode cX0_tryPiece 20 = .ok (.istore_n 3, 1) := by decide +kernel
theorem dX0_tryPiece_21 : decode cX0_tryPiece 21 = .ok (.aload_n 0, 1) := by decide +kernel
theorem dX0_tryPiece_22 : decode cX0_tryPiece 22 = .ok (.getfield 15, 3) := by decide +kernel
theorem dX0_tryPiece_25 : decode cX0_tryPiece 25 = .ok (.iload_n 3, 1) := by decide +kernel
theorem dX0_tryPiece_26 : decode cX0_tryPiece 26 = .ok (.iand, 1) := by decide +kernel
theorem dX0_tryPiece_27 : decode cX0_tryPiece 27 = .ok (.ifCond .eq 20, 3) := by decide +kernel
theorem dX0_tryPiece_30 : decode cX0_tryPiece 30 = .ok (.aload_n 0, 1) := by decide +kernel
theorem dX0_tryPiece_31 : decode cX0_tryPiece 31 = .ok (.getfield 26, 3) := by decide +kernel
theorem dX0_tryPiece_34 : decode cX0_tryPiece 34 = .ok (.iload_n 1, 1) := by decide +kernel
theorem dX0_tryPiece_35 : decode cX0_tryPiece 35 = .ok (.bipush (-5), 2) := by decide +kernel
theorem dX0_tryPiece_37 : decode cX0_tryPiece 37 = .ok (.iastore, 1) := by decide +kernel
theorem dX0_tryPiece_38 : decode cX0_tryPiece 38 = .ok (.aload_n 0, 1) := by decide +kernel
theorem dX0_tryPiece_39 : decode cX0_tryPiece 39 = .ok (.iload_n 1, 1) := by decide +kernel
theorem dX0_tryPiece_40 : decode cX0_tryPiece 40 = .ok (.iconst 1, 1) := by decide +kernel
theorem dX0_tryPiece_41 : decode cX0_tryPiece 41 = .ok (.iadd, 1) := by decide +kernel
theorem dX0_tryPiece_42 : decode cX0_tryPiece 42 = .ok (.iload_n 2, 1) := by decide +kernel
theorem dX0_tryPiece_43 : decode cX0_tryPiece 43 = .ok (.invokevirtual 54, 3) := by decide +kernel
theorem dX0_tryPiece_46 : decode cX0_tryPiece 46 = .ok (.return_, 1) := by decide +kernel
theorem dX0_tryPiece_47 : decode cX0_tryPiece 47 = .ok (.iconst 0, 1) := by decide +kernel
theorem dX0_tryPiece_48 : decode cX0_tryPiece 48 = .ok (.istore 4, 2) := by decide +kernel
theorem dX0_tryPiece_50 : decode cX0_tryPiece 50 = .ok (.iload 4, 2) := by decide +kernel
theorem dX0_tryPiece_52 : decode cX0_tryPiece 52 = .ok (.aload_n 0, 1) := by decide +kernel
theorem dX0_tryPiece_53 : decode cX0_tryPiece 53 = .ok (.getfield 32, 3) := by decide +kernel
theorem dX0_tryPiece_56 : decode cX0_tryPiece 56 = .ok (.getfield 58, 3) := by decide +kernel
theorem dX0_tryPiece_59 : decode cX0_tryPiece 59 = .ok (.if_icmp .ge 98, 3) := by decide +kernel
theorem dX0_tryPiece_62 : decode cX0_tryPiece 62 = .ok (.iload_n 2, 1) := by decide +kernel
theorem dX0_tryPiece_63 : decode cX0_tryPiece 63 = .ok (.aload_n 0, 1) := by decide +kernel
theorem dX0_tryPiece_64 : decode cX0_tryPiece 64 = .ok (.getfield 36, 3) := by decide +kernel
theorem dX0_tryPiece_67 : decode cX0_tryPiece 67 = .ok (.iload 4, 2) := by decide +kernel
theorem dX0_tryPiece_69 : decode cX0_tryPiece 69 = .ok (.aload_n 0, 1) := by decide +kernel
theorem dX0_tryPiece_70 : decode cX0_tryPiece 70 = .ok (.getfield 29, 3) := by decide +kernel
theorem dX0_tryPiece_73 : decode cX0_tryPiece 73 = .ok (.iload 4, 2) := by decide +kernel
theorem dX0_tryPiece_75 : decode cX0_tryPiece 75 = .ok (.iaload, 1) := by decide +kernel
theorem dX0_tryPiece_76 : decode cX0_tryPiece 76 = .ok (.invokevirtual 63, 3) := by decide +kernel
theorem dX0_tryPiece_79 : decode cX0_tryPiece 79 = .ok (.isub, 1) := by decide +kernel
theorem dX0_tryPiece_80 : decode cX0_tryPiece 80 = .ok (.aload_n 0, 1) := by decide +kernel
theorem dX0_tryPiece_81 : decode cX0_tryPiece 81 = .ok (.getfield 36, 3) := by decide +kernel
theorem dX0_tryPiece_84 : decode cX0_tryPiece 84 = .ok (.iload 4, 2) := by decide +kernel
theorem dX0_tryPiece_86 : decode cX0_tryPiece 86 = .ok (.aload_n 0, 1) := by decide +kernel
theorem dX0_tryPiece_87 : decode cX0_tryPiece 87 = .ok (.getfield 29, 3) := by decide +kernel
theorem dX0_tryPiece_90 : decode cX0_tryPiece 90 = .ok (.iload 4, 2) := by decide +kernel
theorem dX0_tryPiece_92 : decode cX0_tryPiece 92 = .ok (.iaload, 1) := by decide +kernel
theorem dX0_tryPiece_93 : decode cX0_tryPiece 93 = .ok (.iload_n 3, 1) := by decide +kernel
theorem dX0_tryPiece_94 : decode cX0_tryPiece 94 = .ok (.ior, 1) := by decide +kernel
theorem dX0_tryPiece_95 : decode cX0_tryPiece 95 = .ok (.invokevirtual 63, 3) := by decide +kernel
theorem dX0_tryPiece_98 : decode cX0_tryPiece 98 = .ok (.iadd, 1) := by decide +kernel
theorem dX0_tryPiece_99 : decode cX0_tryPiece 99 = .ok (.istore 5, 2) := by decide +kernel
theorem dX0_tryPiece_101 : decode cX0_tryPiece 101 = .ok (.iload 5, 2) := by decide +kernel
theorem dX0_tryPiece_103 : decode cX0_tryPiece 103 = .ok (.aload_n 0, 1) := by decide +kernel
theorem dX0_tryPiece_104 : decode cX0_tryPiece 104 = .ok (.getfield 19, 3) := by decide +kernel
theorem dX0_tryPiece_107 : decode cX0_tryPiece 107 = .ok (.if_icmp .ge 44, 3) := by decide +kernel
theorem dX0_tryPiece_110 : decode cX0_tryPiece 110 = .ok (.aload_n 0, 1) := by decide +kernel
theorem dX0_tryPiece_111 : decode cX0_tryPiece 111 = .ok (.getfield 26, 3) := by decide +kernel
theorem dX0_tryPiece_114 : decode cX0_tryPiece 114 = .ok (.iload_n 1, 1) := by decide +kernel
theorem dX0_tryPiece_115 : decode cX0_tryPiece 115 = .ok (.iload 4, 2) := by decide +kernel
theorem dX0_tryPiece_117 : decode cX0_tryPiece 117 = .ok (.iastore, 1) := by decide +kernel
theorem dX0_tryPiece_118 : decode cX0_tryPiece 118 = .ok (.aload_n 0, 1) := by decide +kernel
theorem dX0_tryPiece_119 : decode cX0_tryPiece 119 = .ok (.getfield 29, 3) := by decide +kernel
theorem dX0_tryPiece_122 : decode cX0_tryPiece 122 = .ok (.iload 4, 2) := by decide +kernel
theorem dX0_tryPiece_124 : decode cX0_tryPiece 124 = .ok (.dup2, 1) := by decide +kernel
theorem dX0_tryPiece_125 : decode cX0_tryPiece 125 = .ok (.iaload, 1) := by decide +kernel
theorem dX0_tryPiece_126 : decode cX0_tryPiece 126 = .ok (.iload_n 3, 1) := by decide +kernel
theorem dX0_tryPiece_127 : decode cX0_tryPiece 127 = .ok (.ior, 1) := by decide +kernel
theorem dX0_tryPiece_128 : decode cX0_tryPiece 128 = .ok (.iastore, 1) := by decide +kernel
theorem dX0_tryPiece_129 : decode cX0_tryPiece 129 = .ok (.aload_n 0, 1) := by decide +kernel
theorem dX0_tryPiece_130 : decode cX0_tryPiece 130 = .ok (.iload_n 1, 1) := by decide +kernel
theorem dX0_tryPiece_131 : decode cX0_tryPiece 131 = .ok (.iconst 1, 1) := by decide +kernel
theorem dX0_tryPiece_132 : decode cX0_tryPiece 132 = .ok (.iadd, 1) := by decide +kernel
theorem dX0_tryPiece_133 : decode cX0_tryPiece 133 = .ok (.iload 5, 2) := by decide +kernel
theorem dX0_tryPiece_135 : decode cX0_tryPiece 135 = .ok (.invokevirtual 54, 3) := by decide +kernel
theorem dX0_tryPiece_138 : decode cX0_tryPiece 138 = .ok (.aload_n 0, 1) := by decide +kernel
theorem dX0_tryPiece_139 : decode cX0_tryPiece 139 = .ok (.getfield 29, 3) := by decide +kernel
theorem dX0_tryPiece_142 : decode cX0_tryPiece 142 = .ok (.iload 4, 2) := by decide +kernel
theorem dX0_tryPiece_144 : decode cX0_tryPiece 144 = .ok (.dup2, 1) := by decide +kernel
theorem dX0_tryPiece_145 : decode cX0_tryPiece 145 = .ok (.iaload, 1) := by decide +kernel
theorem dX0_tryPiece_146 : decode cX0_tryPiece 146 = .ok (.iload_n 3, 1) := by decide +kernel
theorem dX0_tryPiece_147 : decode cX0_tryPiece 147 = .ok (.iconst (-1), 1) := by decide +kernel
theorem dX0_tryPiece_148 : decode cX0_tryPiece 148 = .ok (.ixor, 1) := by decide +kernel
theorem dX0_tryPiece_149 : decode cX0_tryPiece 149 = .ok (.iand, 1) := by decide +kernel
theorem dX0_tryPiece_150 : decode cX0_tryPiece 150 = .ok (.iastore, 1) := by decide +kernel
theorem dX0_tryPiece_151 : decode cX0_tryPiece 151 = .ok (.iinc 4 1, 3) := by decide +kernel
theorem dX0_tryPiece_154 : decode cX0_tryPiece 154 = .ok (.goto (-104), 3) := by decide +kernel
theorem dX0_tryPiece_157 : decode cX0_tryPiece 157 = .ok (.return_, 1) := by decide +kernel
theorem dX0_take_0 : decode cX0_take 0 = .ok (.aload_n 0, 1) := by decide +kernel
theorem dX0_take_1 : decode cX0_take 1 = .ok (.iload_n 1, 1) := by decide +kernel
theorem dX0_take_2 : decode cX0_take 2 = .ok (.putfield 19, 3) := by decide +kernel
theorem dX0_take_5 : decode cX0_take 5 = .ok (.aload_n 0, 1) := by decide +kernel
theorem dX0_take_6 : decode cX0_take 6 = .ok (.getfield 26, 3) := by decide +kernel
theorem dX0_take_9 : decode cX0_take 9 = .ok (.iconst 0, 1) := by decide +kernel
theorem dX0_take_10 : decode cX0_take 10 = .ok (.aload_n 0, 1) := by decide +kernel
theorem dX0_take_11 : decode cX0_take 11 = .ok (.getfield 22, 3) := by decide +kernel
theorem dX0_take_14 : decode cX0_take 14 = .ok (.iconst 0, 1) := by decide +kernel
theorem dX0_take_15 : decode cX0_take 15 = .ok (.bipush 8, 2) := by decide +kernel
theorem dX0_take_17 : decode cX0_take 17 = .ok (.invokestatic 91, 3) := by decide +kernel
theorem dX0_take_20 : decode cX0_take 20 = .ok (.return_, 1) := by decide +kernel
theorem dX1_init_0 : decode cX1_init 0 = .ok (.aload_n 0, 1) := by decide +kernel
theorem dX1_init_1 : decode cX1_init 1 = .ok (.invokespecial 3, 3) := by decide +kernel
theorem dX1_init_4 : decode cX1_init 4 = .ok (.aload_n 0, 1) := by decide +kernel
theorem dX1_init_5 : decode cX1_init 5 = .ok (.bipush 8, 2) := by decide +kernel
theorem dX1_init_7 : decode cX1_init 7 = .ok (.newarray .int, 2) := by decide +kernel
theorem dX1_init_9 : decode cX1_init 9 = .ok (.putfield 9, 3) := by decide +kernel
theorem dX1_init_12 : decode cX1_init 12 = .ok (.aload_n 0, 1) := by decide +kernel
theorem dX1_init_13 : decode cX1_init 13 = .ok (.aload_n 1, 1) := by decide +kernel
theorem dX1_init_14 : decode cX1_init 14 = .ok (.putfield 15, 3) := by decide +kernel
theorem dX1_init_17 : decode cX1_init 17 = .ok (.aload_n 0, 1) := by decide +kernel
theorem dX1_init_18 : decode cX1_init 18 = .ok (.aload_n 2, 1) := by decide +kernel
theorem dX1_init_19 : decode cX1_init 19 = .ok (.putfield 19, 3) := by decide +kernel
theorem dX1_init_22 : decode cX1_init 22 = .ok (.return_, 1) := by decide +kernel
theorem dX1_firstOf_0 : decode cX1_firstOf 0 = .ok (.iconst 0, 1) := by decide +kernel
theorem dX1_firstOf_1 : decode cX1_firstOf 1 = .ok (.istore_n 2, 1) := by decide +kernel
theorem dX1_firstOf_2 : decode cX1_firstOf 2 = .ok (.iload_n 2, 1) := by decide +kernel
theorem dX1_firstOf_3 : decode cX1_firstOf 3 = .ok (.aload_n 0, 1) := by decide +kernel
theorem dX1_firstOf_4 : decode cX1_firstOf 4 = .ok (.getfield 15, 3) := by decide +kernel
theorem dX1_firstOf_7 : decode cX1_firstOf 7 = .ok (.getfield 23, 3) := by decide +kernel
theorem dX1_firstOf_10 : decode cX1_firstOf 10 = .ok (.if_icmp .ge 94, 3) := by decide +kernel
theorem dX1_firstOf_13 : decode cX1_firstOf 13 = .ok (.iload_n 2, 1) := by decide +kernel
theorem dX1_firstOf_14 : decode cX1_firstOf 14 = .ok (.iconst 1, 1) := by decide +kernel
theorem dX1_firstOf_15 : decode cX1_firstOf 15 = .ok (.iadd, 1) := by decide +kernel
theorem dX1_firstOf_16 : decode cX1_firstOf 16 = .ok (.istore_n 3, 1) := by decide +kernel
theorem dX1_firstOf_17 : decode cX1_firstOf 17 = .ok (.iload_n 3, 1) := by decide +kernel
theorem dX1_firstOf_18 : decode cX1_firstOf 18 = .ok (.aload_n 0, 1) := by decide +kernel
theorem dX1_firstOf_19 : decode cX1_firstOf 19 = .ok (.getfield 15, 3) := by decide +kernel
theorem dX1_firstOf_22 : decode cX1_firstOf 22 = .ok (.getfield 23, 3) := by decide +kernel
theorem dX1_firstOf_25 : decode cX1_firstOf 25 = .ok (.if_icmp .ge 73, 3) := by decide +kernel
theorem dX1_firstOf_28 : decode cX1_firstOf 28 = .ok (.aload_n 1, 1) := by decide +kernel
theorem dX1_firstOf_29 : decode cX1_firstOf 29 = .ok (.iload_n 2, 1) := by decide +kernel
theorem dX1_firstOf_30 : decode cX1_firstOf 30 = .ok (.iaload, 1) := by decide +kernel
theorem dX1_firstOf_31 : decode cX1_firstOf 31 = .ok (.bipush (-9), 2) := by decide +kernel
theorem dX1_firstOf_33 : decode cX1_firstOf 33 = .ok (.if_icmp .eq 24, 3) := by decide +kernel
theorem dX1_firstOf_36 : decode cX1_firstOf 36 = .ok (.aload_n 1, 1) := by decide +kernel
theorem dX1_firstOf_37 : decode cX1_firstOf 37 = .ok (.iload_n 3, 1) := by decide +kernel
theorem dX1_firstOf_38 : decode cX1_firstOf 38 = .ok (.iaload, 1) := by decide +kernel
theorem dX1_firstOf_39 : decode cX1_firstOf 39 = .ok (.bipush (-9), 2) := by decide +kernel
theorem dX1_firstOf_41 : decode cX1_firstOf 41 = .ok (.if_icmp .eq 16, 3) := by decide +kernel
theorem dX1_firstOf_44 : decode cX1_firstOf 44 = .ok (.aload_n 1, 1) := by decide +kernel
theorem dX1_firstOf_45 : decode cX1_firstOf 45 = .ok (.iload_n 2, 1) := by decide +kernel
theorem dX1_firstOf_46 : decode cX1_firstOf 46 = .ok (.iaload, 1) := by decide +kernel
theorem dX1_firstOf_47 : decode cX1_firstOf 47 = .ok (.aload_n 1, 1) := by decide +kernel
theorem dX1_firstOf_48 : decode cX1_firstOf 48 = .ok (.iload_n 3, 1) := by decide +kernel
theorem dX1_firstOf_49 : decode cX1_firstOf 49 = .ok (.iaload, 1) := by decide +kernel
theorem dX1_firstOf_50 : decode cX1_firstOf 50 = .ok (.if_icmp .eq 7, 3) := by decide +kernel
theorem dX1_firstOf_53 : decode cX1_firstOf 53 = .ok (.iconst 1, 1) := by decide +kernel
theorem dX1_firstOf_54 : decode cX1_firstOf 54 = .ok (.goto 4, 3) := by decide +kernel
theorem dX1_firstOf_57 : decode cX1_firstOf 57 = .ok (.iconst 0, 1) := by decide +kernel
theorem dX1_firstOf_58 : decode cX1_firstOf 58 = .ok (.istore 4, 2) := by decide +kernel
theorem dX1_firstOf_60 : decode cX1_firstOf 60 = .ok (.iload 4, 2) := by decide +kernel
theorem dX1_firstOf_62 : decode cX1_firstOf 62 = .ok (.ifCond .eq 30, 3) := by decide +kernel
theorem dX1_firstOf_65 : decode cX1_firstOf 65 = .ok (.aload_n 0, 1) := by decide +kernel
theorem dX1_firstOf_66 : decode cX1_firstOf 66 = .ok (.aload_n 1, 1) := by decide +kernel
theorem dX1_firstOf_67 : decode cX1_firstOf 67 = .ok (.iload_n 2, 1) := by decide +kernel
theorem dX1_firstOf_68 : decode cX1_firstOf 68 = .ok (.iload_n 3, 1) := by decide +kernel
theorem dX1_firstOf_69 : decode cX1_firstOf 69 = .ok (.invokevirtual 29, 3) := by decide +kernel
theorem dX1_firstOf_72 : decode cX1_firstOf 72 = .ok (.ifCond .eq 20, 3) := by decide +kernel
theorem dX1_firstOf_75 : decode cX1_firstOf 75 = .ok (.aload_n 0, 1) := by decide +kernel
theorem dX1_firstOf_76 : decode cX1_firstOf 76 = .ok (.aload_n 1, 1) := by decide +kernel
theorem dX1_firstOf_77 : decode cX1_firstOf 77 = .ok (.iload_n 3, 1) := by decide +kernel
theorem dX1_firstOf_78 : decode cX1_firstOf 78 = .ok (.iload_n 2, 1) := by decide +kernel
theorem dX1_firstOf_79 : decode cX1_firstOf 79 = .ok (.invokevirtual 29, 3) := by decide +kernel
theorem dX1_firstOf_82 : decode cX1_firstOf 82 = .ok (.ifCond .eq 10, 3) := by decide +kernel
theorem dX1_firstOf_85 : decode cX1_firstOf 85 = .ok (.bipush 10, 2) := by decide +kernel
theorem dX1_firstOf_87 : decode cX1_firstOf 87 = .ok (.iload_n 2, 1) := by decide +kernel
theorem dX1_firstOf_88 : decode cX1_firstOf 88 = .ok (.imul, 1) := by decide +kernel
theorem dX1_firstOf_89 : decode cX1_firstOf 89 = .ok (.iload_n 3, 1) := by decide +kernel
theorem dX1_firstOf_90 : decode cX1_firstOf 90 = .ok (.iadd, 1) := by decide +kernel
theorem dX1_firstOf_91 : decode cX1_firstOf 91 = .ok (.ireturn, 1) := by decide +kernel
theorem dX1_firstOf_92 : decode cX1_firstOf 92 = .ok (.iinc 3 1, 3) := by decide +kernel
theorem dX1_firstOf_95 : decode cX1_firstOf 95 = .ok (.goto (-78), 3) := by decide +kernel
theorem dX1_firstOf_98 : decode cX1_firstOf 98 = .ok (.iinc 2 1, 3) := by decide +kernel
theorem dX1_firstOf_101 : decode cX1_firstOf 101 = .ok (.goto (-99), 3) := by decide +kernel
theorem dX1_firstOf_104 : decode cX1_firstOf 104 = .ok (.bipush (-9), 2) := by decide +kernel
theorem dX1_firstOf_106 : decode cX1_firstOf 106 = .ok (.ireturn, 1) := by decide +kernel
theorem dX1_numberOf_0 : decode cX1_numberOf 0 = .ok (.aload_n 1, 1) := by decide +kernel
theorem dX1_numberOf_1 : decode cX1_numberOf 1 = .ok (.iconst 0, 1) := by decide +kernel
theorem dX1_numberOf_2 : decode cX1_numberOf 2 = .ok (.aload_n 0, 1) := by decide +kernel
theorem dX1_numberOf_3 : decode cX1_numberOf 3 = .ok (.getfield 9, 3) := by decide +kernel
theorem dX1_numberOf_6 : decode cX1_numberOf 6 = .ok (.iconst 0, 1) := by decide +kernel
theorem dX1_numberOf_7 : decode cX1_numberOf 7 = .ok (.bipush 8, 2) := by decide +kernel
theorem dX1_numberOf_9 : decode cX1_numberOf 9 = .ok (.invokestatic 33, 3) := by decide +kernel
theorem dX1_numberOf_12 : decode cX1_numberOf 12 = .ok (.aload_n 0, 1) := by decide +kernel
theorem dX1_numberOf_13 : decode cX1_numberOf 13 = .ok (.aload_n 0, 1) := by decide +kernel
theorem dX1_numberOf_14 : decode cX1_numberOf 14 = .ok (.getfield 9, 3) := by decide +kernel
theorem dX1_numberOf_17 : decode cX1_numberOf 17 = .ok (.invokevirtual 39, 3) := by decide +kernel
theorem dX1_numberOf_20 : decode cX1_numberOf 20 = .ok (.istore_n 2, 1) := by decide +kernel
theorem dX1_numberOf_21 : decode cX1_numberOf 21 = .ok (.iconst 0, 1) := by decide +kernel
theorem dX1_numberOf_22 : decode cX1_numberOf 22 = .ok (.istore_n 3, 1) := by decide +kernel
theorem dX1_numberOf_23 : decode cX1_numberOf 23 = .ok (.iload_n 2, 1) := by decide +kernel
theorem dX1_numberOf_24 : decode cX1_numberOf 24 = .ok (.bipush (-9), 2) := by decide +kernel
theorem dX1_numberOf_26 : decode cX1_numberOf 26 = .ok (.if_icmp .eq 37, 3) := by decide +kernel
theorem dX1_numberOf_29 : decode cX1_numberOf 29 = .ok (.iload_n 3, 1) := by decide +kernel
theorem dX1_numberOf_30 : decode cX1_numberOf 30 = .ok (.sipush 10000, 3) := by decide +kernel
theorem dX1_numberOf_33 : decode cX1_numberOf 33 = .ok (.if_icmp .ge 30, 3) := by decide +kernel
theorem dX1_numberOf_36 : decode cX1_numberOf 36 = .ok (.aload_n 0, 1) := by decide +kernel
theorem dX1_numberOf_37 : decode cX1_numberOf 37 = .ok (.iload_n 2, 1) := by decide +kernel
theorem dX1_numberOf_38 : decode cX1_numberOf 38 = .ok (.bipush 10, 2) := by decide +kernel
theorem dX1_numberOf_40 : decode cX1_numberOf 40 = .ok (.idiv, 1) := by decide +kernel
theorem dX1_numberOf_41 : decode cX1_numberOf 41 = .ok (.iload_n 2, 1) := by decide +kernel
theorem dX1_numberOf_42 : decode cX1_numberOf 42 = .ok (.bipush 10, 2) := by decide +kernel
theorem dX1_numberOf_44 : decode cX1_numberOf 44 = .ok (.irem, 1) := by decide +kernel
theorem dX1_numberOf_45 : decode cX1_numberOf 45 = .ok (.invokevirtual 43, 3) := by decide +kernel
theorem dX1_numberOf_48 : decode cX1_numberOf 48 = .ok (.iinc 3 1, 3) := by decide +kernel
theorem dX1_numberOf_51 : decode cX1_numberOf 51 = .ok (.aload_n 0, 1) := by decide +kernel
theorem dX1_numberOf_52 : decode cX1_numberOf 52 = .ok (.aload_n 0, 1) := by decide +kernel
theorem dX1_numberOf_53 : decode cX1_numberOf 53 = .ok (.getfield 9, 3) := by decide +kernel
theorem dX1_numberOf_56 : decode cX1_numberOf 56 = .ok (.invokevirtual 39, 3) := by decide +kernel
theorem dX1_numberOf_59 : decode cX1_numberOf 59 = .ok (.istore_n 2, 1) := by decide +kernel
theorem dX1_numberOf_60 : decode cX1_numberOf 60 = .ok (.goto (-37), 3) := by decide +kernel
theorem dX1_numberOf_63 : decode cX1_numberOf 63 = .ok (.iload_n 3, 1) := by decide +kernel
theorem dX1_numberOf_64 : decode cX1_numberOf 64 = .ok (.ireturn, 1) := by decide +kernel
theorem dX1_exchange_0 : decode cX1_exchange 0 = .ok (.aload_n 0, 1) := by decide +kernel
theorem dX1_exchange_1 : decode cX1_exchange 1 = .ok (.getfield 9, 3) := by decide +kernel
theorem dX1_exchange_4 : decode cX1_exchange 4 = .ok (.iload_n 1, 1) := by decide +kernel
theorem dX1_exchange_5 : decode cX1_exchange 5 = .ok (.iaload, 1) := by decide +kernel
theorem dX1_exchange_6 : decode cX1_exchange 6 = .ok (.istore_n 3, 1) := by decide +kernel
theorem dX1_exchange_7 : decode cX1_exchange 7 = .ok (.aload_n 0, 1) := by decide +kernel
theorem dX1_exchange_8 : decode cX1_exchange 8 = .ok (.getfield 9, 3) := by decide +kernel
theorem dX1_exchange_11 : decode cX1_exchange 11 = .ok (.iload_n 1, 1) := by decide +kernel
theorem dX1_exchange_12 : decode cX1_exchange 12 = .ok (.aload_n 0, 1) := by decide +kernel
theorem dX1_exchange_13 : decode cX1_exchange 13 = .ok (.getfield 9, 3) := by decide +kernel
theorem dX1_exchange_16 : decode cX1_exchange 16 = .ok (.iload_n 2, 1) := by decide +kernel
theorem dX1_exchange_17 : decode cX1_exchange 17 = .ok (.iaload, 1) := by decide +kernel
theorem dX1_exchange_18 : decode cX1_exchange 18 = .ok (.iastore, 1) := by decide +kernel
theorem dX1_exchange_19 : decode cX1_exchange 19 = .ok (.aload_n 0, 1) := by decide +kernel
theorem dX1_exchange_20 : decode cX1_exchange 20 = .ok (.getfield 9, 3) := by decide +kernel
theorem dX1_exchange_23 : decode cX1_exchange 23 = .ok (.iload_n 2, 1) := by decide +kernel
theorem dX1_exchange_24 : decode cX1_exchange 24 = .ok (.iload_n 3, 1) := by decide +kernel
theorem dX1_exchange_25 : decode cX1_exchange 25 = .ok (.iastore, 1) := by decide +kernel
theorem dX1_exchange_26 : decode cX1_exchange 26 = .ok (.return_, 1) := by decide +kernel
theorem dX1_gains_0 : decode cX1_gains 0 = .ok (.aload_n 1, 1) := by decide +kernel
theorem dX1_gains_1 : decode cX1_gains 1 = .ok (.iload_n 2, 1) := by decide +kernel
theorem dX1_gains_2 : decode cX1_gains 2 = .ok (.iaload, 1) := by decide +kernel
theorem dX1_gains_3 : decode cX1_gains 3 = .ok (.istore 4, 2) := by decide +kernel
theorem dX1_gains_5 : decode cX1_gains 5 = .ok (.aload_n 1, 1) := by decide +kernel
theorem dX1_gains_6 : decode cX1_gains 6 = .ok (.iload 4, 2) := by decide +kernel
theorem dX1_gains_8 : decode cX1_gains 8 = .ok (.invokestatic 47, 3) := by decide +kernel
theorem dX1_gains_11 : decode cX1_gains 11 = .ok (.istore 5, 2) := by decide +kernel
theorem dX1_gains_13 : decode cX1_gains 13 = .ok (.iload 5, 2) := by decide +kernel
theorem dX1_gains_15 : decode cX1_gains 15 = .ok (.iconst 1, 1) := by decide +kernel
theorem dX1_gains_16 : decode cX1_gains 16 = .ok (.iload_n 2, 1) := by decide +kernel
theorem dX1_gains_17 : decode cX1_gains 17 = .ok (.ishl, 1) := by decide +kernel
theorem dX1_gains_18 : decode cX1_gains 18 = .ok (.iconst (-1), 1) := by decide +kernel
theorem dX1_gains_19 : decode cX1_gains 19 = .ok (.ixor, 1) := by decide +kernel
theorem dX1_gains_20 : decode cX1_gains 20 = .ok (.iand, 1) := by decide +kernel
theorem dX1_gains_21 : decode cX1_gains 21 = .ok (.iconst 1, 1) := by decide +kernel
theorem dX1_gains_22 : decode cX1_gains 22 = .ok (.iload_n 3, 1) := by decide +kernel
theorem dX1_gains_23 : decode cX1_gains 23 = .ok (.ishl, 1) := by decide +kernel
theorem dX1_gains_24 : decode cX1_gains 24 = .ok (.ior, 1) := by decide +kernel
theorem dX1_gains_25 : decode cX1_gains 25 = .ok (.istore 6, 2) := by decide +kernel
theorem dX1_gains_27 : decode cX1_gains 27 = .ok (.aload_n 0, 1) := by decide +kernel
theorem dX1_gains_28 : decode cX1_gains 28 = .ok (.getfield 19, 3) := by decide +kernel
theorem dX1_gains_31 : decode cX1_gains 31 = .ok (.iload 4, 2) := by decide +kernel
theorem dX1_gains_33 : decode cX1_gains 33 = .ok (.iload 6, 2) := by decide +kernel
theorem dX1_gains_35 : decode cX1_gains 35 = .ok (.invokevirtual 53, 3) := by decide +kernel
theorem dX1_gains_38 : decode cX1_gains 38 = .ok (.aload_n 0, 1) := by decide +kernel
theorem dX1_gains_39 : decode cX1_gains 39 = .ok (.getfield 19, 3) := by decide +kernel
theorem dX1_gains_42 : decode cX1_gains 42 = .ok (.iload 4, 2) := by decide +kernel
theorem dX1_gains_44 : decode cX1_gains 44 = .ok (.iload 5, 2) := by decide +kernel
theorem dX1_gains_46 : decode cX1_gains 46 = .ok (.invokevirtual 53, 3) := by decide +kernel
theorem dX1_gains_49 : decode cX1_gains 49 = .ok (.if_icmp .ge 7, 3) := by decide +kernel
theorem dX1_gains_52 : decode cX1_gains 52 = .ok (.iconst 1, 1) := by decide +kernel
theorem dX1_gains_53 : decode cX1_gains 53 = .ok (.goto 4, 3) := by decide +kernel
theorem dX1_gains_56 : decode cX1_gains 56 = .ok (.iconst 0, 1) := by decide +kernel
theorem dX1_gains_57 : decode cX1_gains 57 = .ok (.ireturn, 1) := by decide +kernel
theorem dX2_init_0 : decode cX2_init 0 = .ok (.aload_n 0, 1) := by decide +kernel
theorem dX2_init_1 : decode cX2_init 1 = .ok (.invokespecial 3, 3) := by decide +kernel
theorem dX2_init_4 : decode cX2_init 4 = .ok (.aload_n 0, 1) := by decide +kernel
theorem dX2_init_5 : decode cX2_init 5 = .ok (.lconst 0, 1) := by decide +kernel
theorem dX2_init_6 : decode cX2_init 6 = .ok (.putfield 9, 3) := by decide +kernel
theorem dX2_init_9 : decode cX2_init 9 = .ok (.aload_n 0, 1) := by decide +kernel
theorem dX2_init_10 : decode cX2_init 10 = .ok (.lconst 1, 1) := by decide +kernel
theorem dX2_init_11 : decode cX2_init 11 = .ok (.putfield 15, 3) := by decide +kernel
theorem dX2_init_14 : decode cX2_init 14 = .ok (.aload_n 0, 1) := by decide +kernel
theorem dX2_init_15 : decode cX2_init 15 = .ok (.aload_n 1, 1) := by decide +kernel
theorem dX2_init_16 : decode cX2_init 16 = .ok (.putfield 18, 3) := by decide +kernel
theorem dX2_init_19 : decode cX2_init 19 = .ok (.aload_n 0, 1) := by decide +kernel
theorem dX2_init_20 : decode cX2_init 20 = .ok (.aload_n 2, 1) := by decide +kernel
theorem dX2_init_21 : decode cX2_init 21 = .ok (.putfield 22, 3) := by decide +kernel
theorem dX2_init_24 : decode cX2_init 24 = .ok (.return_, 1) := by decide +kernel
theorem dX2_reckon_0 : decode cX2_reckon 0 = .ok (.aload_n 2, 1) := by decide +kernel
theorem dX2_reckon_1 : decode cX2_reckon 1 = .ok (.iload_n 1, 1) := by decide +kernel
theorem dX2_reckon_2 : decode cX2_reckon 2 = .ok (.invokevirtual 26, 3) := by decide +kernel
theorem dX2_reckon_5 : decode cX2_reckon 5 = .ok (.istore_n 3, 1) := by decide +kernel
theorem dX2_reckon_6 : decode cX2_reckon 6 = .ok (.aload_n 0, 1) := by decide +kernel
theorem dX2_reckon_7 : decode cX2_reckon 7 = .ok (.lconst 0, 1) := by decide +kernel
theorem dX2_reckon_8 : decode cX2_reckon 8 = .ok (.putfield 9, 3) := by decide +kernel
theorem dX2_reckon_11 : decode cX2_reckon 11 = .ok (.iconst 0, 1) := by decide +kernel
theorem dX2_reckon_12 : decode cX2_reckon 12 = .ok (.istore 4, 2) := by decide +kernel
theorem dX2_reckon_14 : decode cX2_reckon 14 = .ok (.iload 4, 2) := by decide +kernel
theorem dX2_reckon_16 : decode cX2_reckon 16 = .ok (.iconst 1, 1) := by decide +kernel
theorem dX2_reckon_17 : decode cX2_reckon 17 = .ok (.aload_n 0, 1) := by decide +kernel
theorem dX2_reckon_18 : decode cX2_reckon 18 = .ok (.getfield 18, 3) := by decide +kernel
theorem dX2_reckon_21 : decode cX2_reckon 21 = .ok (.getfield 32, 3) := by decide +kernel
theorem dX2_reckon_24 : decode cX2_reckon 24 = .ok (.ishl, 1) := by decide +kernel
theorem dX2_reckon_25 : decode cX2_reckon 25 = .ok (.if_icmp .ge 56, 3) := by decide +kernel
theorem dX2_reckon_28 : decode cX2_reckon 28 = .ok (.aload_n 0, 1) := by decide +kernel
theorem dX2_reckon_29 : decode cX2_reckon 29 = .ok (.iload 4, 2) := by decide +kernel
theorem dX2_reckon_31 : decode cX2_reckon 31 = .ok (.aload_n 2, 1) := by decide +kernel
theorem dX2_reckon_32 : decode cX2_reckon 32 = .ok (.getfield 38, 3) := by decide +kernel
theorem dX2_reckon_35 : decode cX2_reckon 35 = .ok (.invokevirtual 42, 3) := by decide +kernel
theorem dX2_reckon_38 : decode cX2_reckon 38 = .ok (.lstore 5, 2) := by decide +kernel
theorem dX2_reckon_40 : decode cX2_reckon 40 = .ok (.lload 5, 2) := by decide +kernel
theorem dX2_reckon_42 : decode cX2_reckon 42 = .ok (.lconst 0, 1) := by decide +kernel
theorem dX2_reckon_43 : decode cX2_reckon 43 = .ok (.lcmp, 1) := by decide +kernel
theorem dX2_reckon_44 : decode cX2_reckon 44 = .ok (.ifCond .le 31, 3) := by decide +kernel
theorem dX2_reckon_47 : decode cX2_reckon 47 = .ok (.aload_n 0, 1) := by decide +kernel
theorem dX2_reckon_48 : decode cX2_reckon 48 = .ok (.getfield 22, 3) := by decide +kernel
theorem dX2_reckon_51 : decode cX2_reckon 51 = .ok (.iload_n 1, 1) := by decide +kernel
theorem dX2_reckon_52 : decode cX2_reckon 52 = .ok (.iload_n 3, 1) := by decide +kernel
theorem dX2_reckon_53 : decode cX2_reckon 53 = .ok (.iload 4, 2) := by decide +kernel
theorem dX2_reckon_55 : decode cX2_reckon 55 = .ok (.ior, 1) := by decide +kernel
theorem dX2_reckon_56 : decode cX2_reckon 56 = .ok (.invokevirtual 46, 3) := by decide +kernel
theorem dX2_reckon_59 : decode cX2_reckon 59 = .ok (.ldc 52, 2) := by decide +kernel
theorem dX2_reckon_61 : decode cX2_reckon 61 = .ok (.if_icmp .lt 14, 3) := by decide +kernel
theorem dX2_reckon_64 : decode cX2_reckon 64 = .ok (.aload_n 0, 1) := by decide +kernel
theorem dX2_reckon_65 : decode cX2_reckon 65 = .ok (.dup, 1) := by decide +kernel
theorem dX2_reckon_66 : decode cX2_reckon 66 = .ok (.getfield 9, 3) := by decide +kernel
theorem dX2_reckon_69 : decode cX2_reckon 69 = .ok (.lload 5, 2) := by decide +kernel
theorem dX2_reckon_71 : decode cX2_reckon 71 = .ok (.ladd, 1) := by decide +kernel
theorem dX2_reckon_72 : decode cX2_reckon 72 = .ok (.putfield 9, 3) := by decide +kernel
theorem dX2_reckon_75 : decode cX2_reckon 75 = .ok (.iinc 4 1, 3) := by decide +kernel
theorem dX2_reckon_78 : decode cX2_reckon 78 = .ok (.goto (-64), 3) := by decide +kernel
theorem dX2_reckon_81 : decode cX2_reckon 81 = .ok (.aload_n 0, 1) := by decide +kernel
theorem dX2_reckon_82 : decode cX2_reckon 82 = .ok (.lconst 1, 1) := by decide +kernel
theorem dX2_reckon_83 : decode cX2_reckon 83 = .ok (.putfield 15, 3) := by decide +kernel
theorem dX2_reckon_86 : decode cX2_reckon 86 = .ok (.iconst 0, 1) := by decide +kernel
theorem dX2_reckon_87 : decode cX2_reckon 87 = .ok (.istore 4, 2) := by decide +kernel
theorem dX2_reckon_89 : decode cX2_reckon 89 = .ok (.iload 4, 2) := by decide +kernel
theorem dX2_reckon_91 : decode cX2_reckon 91 = .ok (.aload_n 0, 1) := by decide +kernel
theorem dX2_reckon_92 : decode cX2_reckon 92 = .ok (.getfield 18, 3) := by decide +kernel
theorem dX2_reckon_95 : decode cX2_reckon 95 = .ok (.getfield 32, 3) := by decide +kernel
theorem dX2_reckon_98 : decode cX2_reckon 98 = .ok (.if_icmp .ge 21, 3) := by decide +kernel
theorem dX2_reckon_101 : decode cX2_reckon 101 = .ok (.aload_n 0, 1) := by decide +kernel
theorem dX2_reckon_102 : decode cX2_reckon 102 = .ok (.dup, 1) := by decide +kernel
theorem dX2_reckon_103 : decode cX2_reckon 103 = .ok (.getfield 15, 3) := by decide +kernel
theorem dX2_reckon_106 : decode cX2_reckon 106 = .ok (.ldc2_w 53, 3) := by decide +kernel
theorem dX2_reckon_109 : decode cX2_reckon 109 = .ok (.lmul, 1) := by decide +kernel
theorem dX2_reckon_110 : decode cX2_reckon 110 = .ok (.putfield 15, 3) := by decide +kernel
theorem dX2_reckon_113 : decode cX2_reckon 113 = .ok (.iinc 4 1, 3) := by decide +kernel
theorem dX2_reckon_116 : decode cX2_reckon 116 = .ok (.goto (-27), 3) := by decide +kernel
theorem dX2_reckon_119 : decode cX2_reckon 119 = .ok (.aload_n 0, 1) := by decide +kernel
theorem dX2_reckon_120 : decode cX2_reckon 120 = .ok (.invokevirtual 55, 3) := by decide +kernel
theorem dX2_reckon_123 : decode cX2_reckon 123 = .ok (.return_, 1) := by decide +kernel
theorem dX2_chanceOf_0 : decode cX2_chanceOf 0 = .ok (.lconst 1, 1) := by decide +kernel
theorem dX2_chanceOf_1 : decode cX2_chanceOf 1 = .ok (.lstore_n 3, 1) := by decide +kernel
theorem dX2_chanceOf_2 : decode cX2_chanceOf 2 = .ok (.iconst 0, 1) := by decide +kernel
theorem dX2_chanceOf_3 : decode cX2_chanceOf 3 = .ok (.istore 5, 2) := by decide +kernel
theorem dX2_chanceOf_5 : decode cX2_chanceOf 5 = .ok (.iload 5, 2) := by decide +kernel
theorem dX2_chanceOf_7 : decode cX2_chanceOf 7 = .ok (.aload_n 0, 1) := by decide +kernel
theorem dX2_chanceOf_8 : decode cX2_chanceOf 8 = .ok (.getfield 18, 3) := by decide +kernel
theorem dX2_chanceOf_11 : decode cX2_chanceOf 11 = .ok (.getfield 32, 3) := by decide +kernel
theorem dX2_chanceOf_14 : decode cX2_chanceOf 14 = .ok (.if_icmp .ge 37, 3) := by decide +kernel
theorem dX2_chanceOf_17 : decode cX2_chanceOf 17 = .ok (.lload_n 3, 1) := by decide +kernel
theorem dX2_chanceOf_18 : decode cX2_chanceOf 18 = .ok (.iload_n 1, 1) := by decide +kernel
theorem dX2_chanceOf_19 : decode cX2_chanceOf 19 = .ok (.iload 5, 2) := by decide +kernel
theorem dX2_chanceOf_21 : decode cX2_chanceOf 21 = .ok (.ishr, 1) := by decide +kernel
theorem dX2_chanceOf_22 : decode cX2_chanceOf 22 = .ok (.iconst 1, 1) := by decide +kernel
theorem dX2_chanceOf_23 : decode cX2_chanceOf 23 = .ok (.iand, 1) := by decide +kernel
theorem dX2_chanceOf_24 : decode cX2_chanceOf 24 = .ok (.ifCond .eq 11, 3) := by decide +kernel
theorem dX2_chanceOf_27 : decode cX2_chanceOf 27 = .ok (.aload_n 2, 1) := by decide +kernel
theorem dX2_chanceOf_28 : decode cX2_chanceOf 28 = .ok (.iload 5, 2) := by decide +kernel
theorem dX2_chanceOf_30 : decode cX2_chanceOf 30 = .ok (.iaload, 1) := by decide +kernel
theorem dX2_chanceOf_31 : decode cX2_chanceOf 31 = .ok (.i2l, 1) := by decide +kernel
theorem dX2_chanceOf_32 : decode cX2_chanceOf 32 = .ok (.goto 11, 3) := by decide +kernel
theorem dX2_chanceOf_35 : decode cX2_chanceOf 35 = .ok (.bipush 10, 2) := by decide +kernel
theorem dX2_chanceOf_37 : decode cX2_chanceOf 37 = .ok (.aload_n 2, 1) := by decide +kernel
theorem dX2_chanceOf_38 : decode cX2_chanceOf 38 = .ok (.iload 5, 2) := by decide +kernel
theorem dX2_chanceOf_40 : decode cX2_chanceOf 40 = .ok (.iaload, 1) := by decide +kernel
theorem dX2_chanceOf_41 : decode cX2_chanceOf 41 = .ok (.isub, 1) := by decide +kernel
theorem dX2_chanceOf_42 : decode cX2_chanceOf 42 = .ok (.i2l, 1) := by decide +kernel
theorem dX2_chanceOf_43 : decode cX2_chanceOf 43 = .ok (.lmul, 1) := by decide +kernel
theorem dX2_chanceOf_44 : decode cX2_chanceOf 44 = .ok (.lstore_n 3, 1) := by decide +kernel
theorem dX2_chanceOf_45 : decode cX2_chanceOf 45 = .ok (.iinc 5 1, 3) := by decide +kernel
theorem dX2_chanceOf_48 : decode cX2_chanceOf 48 = .ok (.goto (-43), 3) := by decide +kernel
theorem dX2_chanceOf_51 : decode cX2_chanceOf 51 = .ok (.lload_n 3, 1) := by decide +kernel
theorem dX2_chanceOf_52 : decode cX2_chanceOf 52 = .ok (.lreturn, 1) := by decide +kernel
theorem dX2_reduce_0 : decode cX2_reduce 0 = .ok (.iconst 0, 1) := by decide +kernel
theorem dX2_reduce_1 : decode cX2_reduce 1 = .ok (.istore_n 1, 1) := by decide +kernel
theorem dX2_reduce_2 : decode cX2_reduce 2 = .ok (.iload_n 1, 1) := by decide +kernel
theorem dX2_reduce_3 : decode cX2_reduce 3 = .ok (.aload_n 0, 1) := by decide +kernel
theorem dX2_reduce_4 : decode cX2_reduce 4 = .ok (.getfield 18, 3) := by decide +kernel
theorem dX2_reduce_7 : decode cX2_reduce 7 = .ok (.getfield 32, 3) := by decide +kernel
theorem dX2_reduce_10 : decode cX2_reduce 10 = .ok (.if_icmp .ge 19, 3) := by decide +kernel
theorem dX2_reduce_13 : decode cX2_reduce 13 = .ok (.aload_n 0, 1) := by decide +kernel
theorem dX2_reduce_14 : decode cX2_reduce 14 = .ok (.iconst 2, 1) := by decide +kernel
theorem dX2_reduce_15 : decode cX2_reduce 15 = .ok (.invokevirtual 58, 3) := by decide +kernel
theorem dX2_reduce_18 : decode cX2_reduce 18 = .ok (.aload_n 0, 1) := by decide +kernel
theorem dX2_reduce_19 : decode cX2_reduce 19 = .ok (.iconst 5, 1) := by decide +kernel
theorem dX2_reduce_20 : decode cX2_reduce 20 = .ok (.invokevirtual 58, 3) := by decide +kernel
theorem dX2_reduce_23 : decode cX2_reduce 23 = .ok (.iinc 1 1, 3) := by decide +kernel
theorem dX2_reduce_26 : decode cX2_reduce 26 = .ok (.goto (-24), 3) := by decide +kernel
theorem dX2_reduce_29 : decode cX2_reduce 29 = .ok (.return_, 1) := by decide +kernel
theorem dX2_divideBoth_0 : decode cX2_divideBoth 0 = .ok (.iload_n 1, 1) := by decide +kernel
theorem dX2_divideBoth_1 : decode cX2_divideBoth 1 = .ok (.iconst 1, 1) := by decide +kernel
theorem dX2_divideBoth_2 : decode cX2_divideBoth 2 = .ok (.if_icmp .le 49, 3) := by decide +kernel
theorem dX2_divideBoth_5 : decode cX2_divideBoth 5 = .ok (.aload_n 0, 1) := by decide +kernel
theorem dX2_divideBoth_6 : decode cX2_divideBoth 6 = .ok (.getfield 9, 3) := by decide +kernel
theorem dX2_divideBoth_9 : decode cX2_divideBoth 9 = .ok (.iload_n 1, 1) := by decide +kernel
theorem dX2_divideBoth_10 : decode cX2_divideBoth 10 = .ok (.i2l, 1) := by decide +kernel
theorem dX2_divideBoth_11 : decode cX2_divideBoth 11 = .ok (.lrem, 1) := by decide +kernel
theorem dX2_divideBoth_12 : decode cX2_divideBoth 12 = .ok (.lconst 0, 1) := by decide +kernel
theorem dX2_divideBoth_13 : decode cX2_divideBoth 13 = .ok (.lcmp, 1) := by decide +kernel
theorem dX2_divideBoth_14 : decode cX2_divideBoth 14 = .ok (.ifCond .ne 37, 3) := by decide +kernel
theorem dX2_divideBoth_17 : decode cX2_divideBoth 17 = .ok (.aload_n 0, 1) := by decide +kernel
theorem dX2_divideBoth_18 : decode cX2_divideBoth 18 = .ok (.getfield 15, 3) := by decide +kernel
theorem dX2_divideBoth_21 : decode cX2_divideBoth 21 = .ok (.iload_n 1, 1) := by decide +kernel
theorem dX2_divideBoth_22 : decode cX2_divideBoth 22 = .ok (.i2l, 1) := by decide +kernel
theorem dX2_divideBoth_23 : decode cX2_divideBoth 23 = .ok (.lrem, 1) := by decide +kernel
theorem dX2_divideBoth_24 : decode cX2_divideBoth 24 = .ok (.lconst 0, 1) := by decide +kernel
theorem dX2_divideBoth_25 : decode cX2_divideBoth 25 = .ok (.lcmp, 1) := by decide +kernel
theorem dX2_divideBoth_26 : decode cX2_divideBoth 26 = .ok (.ifCond .ne 25, 3) := by decide +kernel
theorem dX2_divideBoth_29 : decode cX2_divideBoth 29 = .ok (.aload_n 0, 1) := by decide +kernel
theorem dX2_divideBoth_30 : decode cX2_divideBoth 30 = .ok (.dup, 1) := by decide +kernel
theorem dX2_divideBoth_31 : decode cX2_divideBoth 31 = .ok (.getfield 9, 3) := by decide +kernel
theorem dX2_divideBoth_34 : decode cX2_divideBoth 34 = .ok (.iload_n 1, 1) := by decide +kernel
theorem dX2_divideBoth_35 : decode cX2_divideBoth 35 = .ok (.i2l, 1) := by decide +kernel
theorem dX2_divideBoth_36 : decode cX2_divideBoth 36 = .ok (.ldiv, 1) := by decide +kernel
theorem dX2_divideBoth_37 : decode cX2_divideBoth 37 = .ok (.putfield 9, 3) := by decide +kernel
theorem dX2_divideBoth_40 : decode cX2_divideBoth 40 = .ok (.aload_n 0, 1) := by decide +kernel
theorem dX2_divideBoth_41 : decode cX2_divideBoth 41 = .ok (.dup, 1) := by decide +kernel
theorem dX2_divideBoth_42 : decode cX2_divideBoth 42 = .ok (.getfield 15, 3) := by decide +kernel
theorem dX2_divideBoth_45 : decode cX2_divideBoth 45 = .ok (.iload_n 1, 1) := by decide +kernel
theorem dX2_divideBoth_46 : decode cX2_divideBoth 46 = .ok (.i2l, 1) := by decide +kernel
theorem dX2_divideBoth_47 : decode cX2_divideBoth 47 = .ok (.ldiv, 1) := by decide +kernel
theorem dX2_divideBoth_48 : decode cX2_divideBoth 48 = .ok (.putfield 15, 3) := by decide +kernel
theorem dX2_divideBoth_51 : decode cX2_divideBoth 51 = .ok (.return_, 1) := by decide +kernel
theorem dX3_init_0 : decode cX3_init 0 = .ok (.aload_n 0, 1) := by decide +kernel
theorem dX3_init_1 : decode cX3_init 1 = .ok (.invokespecial 3, 3) := by decide +kernel
theorem dX3_init_4 : decode cX3_init 4 = .ok (.aload_n 0, 1) := by decide +kernel
theorem dX3_init_5 : decode cX3_init 5 = .ok (.bipush 8, 2) := by decide +kernel
theorem dX3_init_7 : decode cX3_init 7 = .ok (.newarray .int, 2) := by decide +kernel
theorem dX3_init_9 : decode cX3_init 9 = .ok (.putfield 9, 3) := by decide +kernel
theorem dX3_init_12 : decode cX3_init 12 = .ok (.aload_n 0, 1) := by decide +kernel
theorem dX3_init_13 : decode cX3_init 13 = .ok (.bipush 8, 2) := by decide +kernel
theorem dX3_init_15 : decode cX3_init 15 = .ok (.newarray .int, 2) := by decide +kernel
theorem dX3_init_17 : decode cX3_init 17 = .ok (.putfield 15, 3) := by decide +kernel
theorem dX3_init_20 : decode cX3_init 20 = .ok (.aload_n 0, 1) := by decide +kernel
theorem dX3_init_21 : decode cX3_init 21 = .ok (.iconst 0, 1) := by decide +kernel
theorem dX3_init_22 : decode cX3_init 22 = .ok (.putfield 18, 3) := by decide +kernel
theorem dX3_init_25 : decode cX3_init 25 = .ok (.aload_n 0, 1) := by decide +kernel
theorem dX3_init_26 : decode cX3_init 26 = .ok (.iconst 0, 1) := by decide +kernel
theorem dX3_init_27 : decode cX3_init 27 = .ok (.putfield 22, 3) := by decide +kernel
theorem dX3_init_30 : decode cX3_init 30 = .ok (.aload_n 0, 1) := by decide +kernel
theorem dX3_init_31 : decode cX3_init 31 = .ok (.iconst 4, 1) := by decide +kernel
theorem dX3_init_32 : decode cX3_init 32 = .ok (.newarray .int, 2) := by decide +kernel
theorem dX3_init_34 : decode cX3_init 34 = .ok (.putfield 25, 3) := by decide +kernel
theorem dX3_init_37 : decode cX3_init 37 = .ok (.aload_n 0, 1) := by decide +kernel
theorem dX3_init_38 : decode cX3_init 38 = .ok (.getfield 9, 3) := by decide +kernel
theorem dX3_init_41 : decode cX3_init 41 = .ok (.bipush (-9), 2) := by decide +kernel
theorem dX3_init_43 : decode cX3_init 43 = .ok (.invokestatic 28, 3) := by decide +kernel
theorem dX3_init_46 : decode cX3_init 46 = .ok (.return_, 1) := by decide +kernel
theorem dX3_empty_0 : decode cX3_empty 0 = .ok (.aload_n 0, 1) := by decide +kernel
theorem dX3_empty_1 : decode cX3_empty 1 = .ok (.getfield 9, 3) := by decide +kernel
theorem dX3_empty_4 : decode cX3_empty 4 = .ok (.bipush (-9), 2) := by decide +kernel
theorem dX3_empty_6 : decode cX3_empty 6 = .ok (.invokestatic 28, 3) := by decide +kernel
theorem dX3_empty_9 : decode cX3_empty 9 = .ok (.aload_n 0, 1) := by decide +kernel
theorem dX3_empty_10 : decode cX3_empty 10 = .ok (.getfield 15, 3) := by decide +kernel
theorem dX3_empty_13 : decode cX3_empty 13 = .ok (.iconst 0, 1) := by decide +kernel
theorem dX3_empty_14 : decode cX3_empty 14 = .ok (.invokestatic 28, 3) := by decide +kernel
theorem dX3_empty_17 : decode cX3_empty 17 = .ok (.aload_n 0, 1) := by decide +kernel
theorem dX3_empty_18 : decode cX3_empty 18 = .ok (.iconst 0, 1) := by decide +kernel
theorem dX3_empty_19 : decode cX3_empty 19 = .ok (.putfield 18, 3) := by decide +kernel
theorem dX3_empty_22 : decode cX3_empty 22 = .ok (.aload_n 0, 1) := by decide +kernel
theorem dX3_empty_23 : decode cX3_empty 23 = .ok (.invokevirtual 34, 3) := by decide +kernel
theorem dX3_empty_26 : decode cX3_empty 26 = .ok (.return_, 1) := by decide +kernel
theorem dX3_become_0 : decode cX3_become 0 = .ok (.aload_n 1, 1) := by decide +kernel
theorem dX3_become_1 : decode cX3_become 1 = .ok (.getfield 9, 3) := by decide +kernel
theorem dX3_become_4 : decode cX3_become 4 = .ok (.iconst 0, 1) := by decide +kernel
theorem dX3_become_5 : decode cX3_become 5 = .ok (.aload_n 0, 1) := by decide +kernel
theorem dX3_become_6 : decode cX3_become 6 = .ok (.getfield 9, 3) := by decide +kernel
theorem dX3_become_9 : decode cX3_become 9 = .ok (.iconst 0, 1) := by decide +kernel
theorem dX3_become_10 : decode cX3_become 10 = .ok (.bipush 8, 2) := by decide +kernel
theorem dX3_become_12 : decode cX3_become 12 = .ok (.invokestatic 37, 3) := by decide +kernel
theorem dX3_become_15 : decode cX3_become 15 = .ok (.aload_n 1, 1) := by decide +kernel
theorem dX3_become_16 : decode cX3_become 16 = .ok (.getfield 15, 3) := by decide +kernel
theorem dX3_become_19 : decode cX3_become 19 = .ok (.iconst 0, 1) := by decide +kernel
theorem dX3_become_20 : decode cX3_become 20 = .ok (.aload_n 0, 1) := by decide +kernel
theorem dX3_become_21 : decode cX3_become 21 = .ok (.getfield 15, 3) := by decide +kernel
theorem dX3_become_24 : decode cX3_become 24 = .ok (.iconst 0, 1) := by decide +kernel
theorem dX3_become_25 : decode cX3_become 25 = .ok (.bipush 8, 2) := by decide +kernel
theorem dX3_become_27 : decode cX3_become 27 = .ok (.invokestatic 37, 3) := by decide +kernel
theorem dX3_become_30 : decode cX3_become 30 = .ok (.aload_n 0, 1) := by decide +kernel
theorem dX3_become_31 : decode cX3_become 31 = .ok (.aload_n 1, 1) := by decide +kernel
theorem dX3_become_32 : decode cX3_become 32 = .ok (.getfield 18, 3) := by decide +kernel
theorem dX3_become_35 : decode cX3_become 35 = .ok (.putfield 18, 3) := by decide +kernel
theorem dX3_become_38 : decode cX3_become 38 = .ok (.aload_n 0, 1) := by decide +kernel
theorem dX3_become_39 : decode cX3_become 39 = .ok (.aload_n 1, 1) := by decide +kernel
theorem dX3_become_40 : decode cX3_become 40 = .ok (.getfield 22, 3) := by decide +kernel
theorem dX3_become_43 : decode cX3_become 43 = .ok (.putfield 22, 3) := by decide +kernel
theorem dX3_become_46 : decode cX3_become 46 = .ok (.aload_n 1, 1) := by decide +kernel
theorem dX3_become_47 : decode cX3_become 47 = .ok (.getfield 25, 3) := by decide +kernel
theorem dX3_become_50 : decode cX3_become 50 = .ok (.iconst 0, 1) := by decide +kernel
theorem dX3_become_51 : decode cX3_become 51 = .ok (.aload_n 0, 1) := by decide +kernel
theorem dX3_become_52 : decode cX3_become 52 = .ok (.getfield 25, 3) := by decide +kernel
theorem dX3_become_55 : decode cX3_become 55 = .ok (.iconst 0, 1) := by decide +kernel
theorem dX3_become_56 : decode cX3_become 56 = .ok (.iconst 4, 1) := by decide +kernel
theorem dX3_become_57 : decode cX3_become 57 = .ok (.invokestatic 37, 3) := by decide +kernel
theorem dX3_become_60 : decode cX3_become 60 = .ok (.return_, 1) := by decide +kernel
theorem dX3_unsee_0 : decode cX3_unsee 0 = .ok (.aload_n 0, 1) := by decide +kernel
theorem dX3_unsee_1 : decode cX3_unsee 1 = .ok (.iconst 0, 1) := by decide +kernel
theorem dX3_unsee_2 : decode cX3_unsee 2 = .ok (.putfield 22, 3) := by decide +kernel
theorem dX3_unsee_5 : decode cX3_unsee 5 = .ok (.aload_n 0, 1) := by decide +kernel
theorem dX3_unsee_6 : decode cX3_unsee 6 = .ok (.getfield 25, 3) := by decide +kernel
theorem dX3_unsee_9 : decode cX3_unsee 9 = .ok (.iconst 0, 1) := by decide +kernel
theorem dX3_unsee_10 : decode cX3_unsee 10 = .ok (.invokestatic 28, 3) := by decide +kernel
theorem dX3_unsee_13 : decode cX3_unsee 13 = .ok (.return_, 1) := by decide +kernel
theorem dX3_isStone_0 : decode cX3_isStone 0 = .ok (.aload_n 0, 1) := by decide +kernel
theorem dX3_isStone_1 : decode cX3_isStone 1 = .ok (.getfield 18, 3) := by decide +kernel
theorem dX3_isStone_4 : decode cX3_isStone 4 = .ok (.iload_n 1, 1) := by decide +kernel
theorem dX3_isStone_5 : decode cX3_isStone 5 = .ok (.ishr, 1) := by decide +kernel
theorem dX3_isStone_6 : decode cX3_isStone 6 = .ok (.iconst 1, 1) := by decide +kernel
theorem dX3_isStone_7 : decode cX3_isStone 7 = .ok (.iand, 1) := by decide +kernel
theorem dX3_isStone_8 : decode cX3_isStone 8 = .ok (.ifCond .eq 7, 3) := by decide +kernel
theorem dX3_isStone_11 : decode cX3_isStone 11 = .ok (.iconst 1, 1) := by decide +kernel
theorem dX3_isStone_12 : decode cX3_isStone 12 = .ok (.goto 4, 3) := by decide +kernel
theorem dX3_isStone_15 : decode cX3_isStone 15 = .ok (.iconst 0, 1) := by decide +kernel
theorem dX3_isStone_16 : decode cX3_isStone 16 = .ok (.ireturn, 1) := by decide +kernel
theorem dX3_makeStone_0 : decode cX3_makeStone 0 = .ok (.aload_n 0, 1) := by decide +kernel
theorem dX3_makeStone_1 : decode cX3_makeStone 1 = .ok (.getfield 9, 3) := by decide +kernel
theorem dX3_makeStone_4 : decode cX3_makeStone 4 = .ok (.iload_n 1, 1) := by decide +kernel
theorem dX3_makeStone_5 : decode cX3_makeStone 5 = .ok (.bipush (-9), 2) := by decide +kernel
theorem dX3_makeStone_7 : decode cX3_makeStone 7 = .ok (.iastore, 1) := by decide +kernel
theorem dX3_makeStone_8 : decode cX3_makeStone 8 = .ok (.aload_n 0, 1) := by decide +kernel
theorem dX3_makeStone_9 : decode cX3_makeStone 9 = .ok (.dup, 1) := by decide +kernel
theorem dX3_makeStone_10 : decode cX3_makeStone 10 = .ok (.getfield 18, 3) := by decide +kernel
theorem dX3_makeStone_13 : decode cX3_makeStone 13 = .ok (.iconst 1, 1) := by decide +kernel
theorem dX3_makeStone_14 : decode cX3_makeStone 14 = .ok (.iload_n 1, 1) := by decide +kernel
theorem dX3_makeStone_15 : decode cX3_makeStone 15 = .ok (.ishl, 1) := by decide +kernel
theorem dX3_makeStone_16 : decode cX3_makeStone 16 = .ok (.ior, 1) := by decide +kernel
theorem dX3_makeStone_17 : decode cX3_makeStone 17 = .ok (.putfield 18, 3) := by decide +kernel
theorem dX3_makeStone_20 : decode cX3_makeStone 20 = .ok (.return_, 1) := by decide +kernel
theorem dX3_makeNoStone_0 : decode cX3_makeNoStone 0 = .ok (.aload_n 0, 1) := by decide +kernel
theorem dX3_makeNoStone_1 : decode cX3_makeNoStone 1 = .ok (.dup, 1) := by decide +kernel
theorem dX3_makeNoStone_2 : decode cX3_makeNoStone 2 = .ok (.getfield 18, 3) := by decide +kernel
theorem dX3_makeNoStone_5 : decode cX3_makeNoStone 5 = .ok (.iconst 1, 1) := by decide +kernel
theorem dX3_makeNoStone_6 : decode cX3_makeNoStone 6 = .ok (.iload_n 1, 1) := by decide +kernel
theorem dX3_makeNoStone_7 : decode cX3_makeNoStone 7 = .ok (.ishl, 1) := by decide +kernel
theorem dX3_makeNoStone_8 : decode cX3_makeNoStone 8 = .ok (.iconst (-1), 1) := by decide +kernel
theorem dX3_makeNoStone_9 : decode cX3_makeNoStone 9 = .ok (.ixor, 1) := by decide +kernel
theorem dX3_makeNoStone_10 : decode cX3_makeNoStone 10 = .ok (.iand, 1) := by decide +kernel
theorem dX3_makeNoStone_11 : decode cX3_makeNoStone 11 = .ok (.putfield 18, 3) := by decide +kernel
theorem dX3_makeNoStone_14 : decode cX3_makeNoStone 14 = .ok (.return_, 1) := by decide +kernel
theorem dX3_ownedBy_0 : decode cX3_ownedBy 0 = .ok (.aload_n 0, 1) := by decide +kernel
theorem dX3_ownedBy_1 : decode cX3_ownedBy 1 = .ok (.getfield 9, 3) := by decide +kernel
theorem dX3_ownedBy_4 : decode cX3_ownedBy 4 = .ok (.iload_n 1, 1) := by decide +kernel
theorem dX3_ownedBy_5 : decode cX3_ownedBy 5 = .ok (.invokestatic 43, 3) := by decide +kernel
theorem dX3_ownedBy_8 : decode cX3_ownedBy 8 = .ok (.ireturn, 1) := by decide +kernel
theorem dX3_ownedPieces_0 : decode cX3_ownedPieces 0 = .ok (.iconst 0, 1) := by decide +kernel
theorem dX3_ownedPieces_1 : decode cX3_ownedPieces 1 = .ok (.istore_n 1, 1) := by decide +kernel
theorem dX3_ownedPieces_2 : decode cX3_ownedPieces 2 = .ok (.iconst 0, 1) := by decide +kernel
theorem dX3_ownedPieces_3 : decode cX3_ownedPieces 3 = .ok (.istore_n 2, 1) := by decide +kernel
theorem dX3_ownedPieces_4 : decode cX3_ownedPieces 4 = .ok (.iload_n 2, 1) := by decide +kernel
theorem dX3_ownedPieces_5 : decode cX3_ownedPieces 5 = .ok (.bipush 8, 2) := by decide +kernel
theorem dX3_ownedPieces_7 : decode cX3_ownedPieces 7 = .ok (.if_icmp .ge 28, 3) := by decide +kernel
theorem dX3_ownedPieces_10 : decode cX3_ownedPieces 10 = .ok (.iload_n 1, 1) := by decide +kernel
theorem dX3_ownedPieces_11 : decode cX3_ownedPieces 11 = .ok (.aload_n 0, 1) := by decide +kernel
theorem dX3_ownedPieces_12 : decode cX3_ownedPieces 12 = .ok (.getfield 9, 3) := by decide +kernel
theorem dX3_ownedPieces_15 : decode cX3_ownedPieces 15 = .ok (.iload_n 2, 1) := by decide +kernel
theorem dX3_ownedPieces_16 : decode cX3_ownedPieces 16 = .ok (.iaload, 1) := by decide +kernel
theorem dX3_ownedPieces_17 : decode cX3_ownedPieces 17 = .ok (.bipush (-9), 2) := by decide +kernel
theorem dX3_ownedPieces_19 : decode cX3_ownedPieces 19 = .ok (.if_icmp .ne 7, 3) := by decide +kernel
theorem dX3_ownedPieces_22 : decode cX3_ownedPieces 22 = .ok (.iconst 0, 1) := by decide +kernel
theorem dX3_ownedPieces_23 : decode cX3_ownedPieces 23 = .ok (.goto 4, 3) := by decide +kernel
theorem dX3_ownedPieces_26 : decode cX3_ownedPieces 26 = .ok (.iconst 1, 1) := by decide +kernel
theorem dX3_ownedPieces_27 : decode cX3_ownedPieces 27 = .ok (.iadd, 1) := by decide +kernel
theorem dX3_ownedPieces_28 : decode cX3_ownedPieces 28 = .ok (.istore_n 1, 1) := by decide +kernel
theorem dX3_ownedPieces_29 : decode cX3_ownedPieces 29 = .ok (.iinc 2 1, 3) := by decide +kernel
theorem dX3_ownedPieces_32 : decode cX3_ownedPieces 32 = .ok (.goto (-28), 3) := by decide +kernel
theorem dX3_ownedPieces_35 : decode cX3_ownedPieces 35 = .ok (.iload_n 1, 1) := by decide +kernel
theorem dX3_ownedPieces_36 : decode cX3_ownedPieces 36 = .ok (.ireturn, 1) := by decide +kernel
theorem dX3_ownedIn_0 : decode cX3_ownedIn 0 = .ok (.iconst 0, 1) := by decide +kernel
theorem dX3_ownedIn_1 : decode cX3_ownedIn 1 = .ok (.istore_n 2, 1) := by decide +kernel
theorem dX3_ownedIn_2 : decode cX3_ownedIn 2 = .ok (.iconst 0, 1) := by decide +kernel
theorem dX3_ownedIn_3 : decode cX3_ownedIn 3 = .ok (.istore_n 3, 1) := by decide +kernel
theorem dX3_ownedIn_4 : decode cX3_ownedIn 4 = .ok (.iload_n 3, 1) := by decide +kernel
theorem dX3_ownedIn_5 : decode cX3_ownedIn 5 = .ok (.aload_n 0, 1) := by decide +kernel
theorem dX3_ownedIn_6 : decode cX3_ownedIn 6 = .ok (.arraylength, 1) := by decide +kernel
theorem dX3_ownedIn_7 : decode cX3_ownedIn 7 = .ok (.if_icmp .ge 26, 3) := by decide +kernel
theorem dX3_ownedIn_10 : decode cX3_ownedIn 10 = .ok (.iload_n 2, 1) := by decide +kernel
theorem dX3_ownedIn_11 : decode cX3_ownedIn 11 = .ok (.aload_n 0, 1) := by decide +kernel
theorem dX3_ownedIn_12 : decode cX3_ownedIn 12 = .ok (.iload_n 3, 1) := by decide +kernel
theorem dX3_ownedIn_13 : decode cX3_ownedIn 13 = .ok (.iaload, 1) := by decide +kernel
theorem dX3_ownedIn_14 : decode cX3_ownedIn 14 = .ok (.iload_n 1, 1) := by decide +kernel
theorem dX3_ownedIn_15 : decode cX3_ownedIn 15 = .ok (.if_icmp .ne 9, 3) := by decide +kernel
theorem dX3_ownedIn_18 : decode cX3_ownedIn 18 = .ok (.iconst 1, 1) := by decide +kernel
theorem dX3_ownedIn_19 : decode cX3_ownedIn 19 = .ok (.iload_n 3, 1) := by decide +kernel
theorem dX3_ownedIn_20 : decode cX3_ownedIn 20 = .ok (.ishl, 1) := by decide +kernel
theorem dX3_ownedIn_21 : decode cX3_ownedIn 21 = .ok (.goto 4, 3) := by decide +kernel
theorem dX3_ownedIn_24 : decode cX3_ownedIn 24 = .ok (.iconst 0, 1) := by decide +kernel
theorem dX3_ownedIn_25 : decode cX3_ownedIn 25 = .ok (.ior, 1) := by decide +kernel
theorem dX3_ownedIn_26 : decode cX3_ownedIn 26 = .ok (.istore_n 2, 1) := by decide +kernel
theorem dX3_ownedIn_27 : decode cX3_ownedIn 27 = .ok (.iinc 3 1, 3) := by decide +kernel
theorem dX3_ownedIn_30 : decode cX3_ownedIn 30 = .ok (.goto (-26), 3) := by decide +kernel
theorem dX3_ownedIn_33 : decode cX3_ownedIn 33 = .ok (.iload_n 2, 1) := by decide +kernel
theorem dX3_ownedIn_34 : decode cX3_ownedIn 34 = .ok (.ireturn, 1) := by decide +kernel
theorem dX5_init_0 : decode cX5_init 0 = .ok (.aload_n 0, 1) := by decide +kernel
theorem dX5_init_1 : decode cX5_init 1 = .ok (.invokespecial 3, 3) := by decide +kernel
theorem dX5_init_4 : decode cX5_init 4 = .ok (.aload_n 0, 1) := by decide +kernel
theorem dX5_init_5 : decode cX5_init 5 = .ok (.iconst 0, 1) := by decide +kernel
theorem dX5_init_6 : decode cX5_init 6 = .ok (.putfield 9, 3) := by decide +kernel
theorem dX5_init_9 : decode cX5_init 9 = .ok (.aload_n 0, 1) := by decide +kernel
theorem dX5_init_10 : decode cX5_init 10 = .ok (.bipush 8, 2) := by decide +kernel
theorem dX5_init_12 : decode cX5_init 12 = .ok (.newarray .int, 2) := by decide +kernel
theorem dX5_init_14 : decode cX5_init 14 = .ok (.putfield 15, 3) := by decide +kernel
theorem dX5_init_17 : decode cX5_init 17 = .ok (.aload_n 0, 1) := by decide +kernel
theorem dX5_init_18 : decode cX5_init 18 = .ok (.bipush 8, 2) := by decide +kernel
theorem dX5_init_20 : decode cX5_init 20 = .ok (.newarray .int, 2) := by decide +kernel
theorem dX5_init_22 : decode cX5_init 22 = .ok (.putfield 19, 3) := by decide +kernel
theorem dX5_init_25 : decode cX5_init 25 = .ok (.aload_n 0, 1) := by decide +kernel
theorem dX5_init_26 : decode cX5_init 26 = .ok (.bipush 8, 2) := by decide +kernel
theorem dX5_init_28 : decode cX5_init 28 = .ok (.newarray .int, 2) := by decide +kernel
theorem dX5_init_30 : decode cX5_init 30 = .ok (.putfield 22, 3) := by decide +kernel
theorem dX5_init_33 : decode cX5_init 33 = .ok (.aload_n 0, 1) := by decide +kernel
theorem dX5_init_34 : decode cX5_init 34 = .ok (.iconst 0, 1) := by decide +kernel
theorem dX5_init_35 : decode cX5_init 35 = .ok (.putfield 25, 3) := by decide +kernel
theorem dX5_init_38 : decode cX5_init 38 = .ok (.aload_n 0, 1) := by decide +kernel
theorem dX5_init_39 : decode cX5_init 39 = .ok (.iconst 4, 1) := by decide +kernel
theorem dX5_init_40 : decode cX5_init 40 = .ok (.newarray .int, 2) := by decide +kernel
theorem dX5_init_42 : decode cX5_init 42 = .ok (.putfield 28, 3) := by decide +kernel
theorem dX5_init_45 : decode cX5_init 45 = .ok (.aload_n 0, 1) := by decide +kernel
theorem dX5_init_46 : decode cX5_init 46 = .ok (.iconst 4, 1) := by decide +kernel
theorem dX5_init_47 : decode cX5_init 47 = .ok (.newarray .int, 2) := by decide +kernel
theorem dX5_init_49 : decode cX5_init 49 = .ok (.putfield 31, 3) := by decide +kernel
theorem dX5_init_52 : decode cX5_init 52 = .ok (.aload_n 0, 1) := by decide +kernel
theorem dX5_init_53 : decode cX5_init 53 = .ok (.iconst 4, 1) := by decide +kernel
theorem dX5_init_54 : decode cX5_init 54 = .ok (.newarray .int, 2) := by decide +kernel
theorem dX5_init_56 : decode cX5_init 56 = .ok (.putfield 34, 3) := by decide +kernel
theorem dX5_init_59 : decode cX5_init 59 = .ok (.return_, 1) := by decide +kernel
theorem dX5_empty_0 : decode cX5_empty 0 = .ok (.aload_n 0, 1) := by decide +kernel
theorem dX5_empty_1 : decode cX5_empty 1 = .ok (.iconst 0, 1) := by decide +kernel
theorem dX5_empty_2 : decode cX5_empty 2 = .ok (.putfield 9, 3) := by decide +kernel
theorem dX5_empty_5 : decode cX5_empty 5 = .ok (.aload_n 0, 1) := by decide +kernel
theorem dX5_empty_6 : decode cX5_empty 6 = .ok (.iconst 0, 1) := by decide +kernel
theorem dX5_empty_7 : decode cX5_empty 7 = .ok (.putfield 25, 3) := by decide +kernel
theorem dX5_empty_10 : decode cX5_empty 10 = .ok (.return_, 1) := by decide +kernel
theorem dX5_become_0 : decode cX5_become 0 = .ok (.aload_n 0, 1) := by decide +kernel
theorem dX5_become_1 : decode cX5_become 1 = .ok (.aload_n 1, 1) := by decide +kernel
theorem dX5_become_2 : decode cX5_become 2 = .ok (.getfield 9, 3) := by decide +kernel
theorem dX5_become_5 : decode cX5_become 5 = .ok (.putfield 9, 3) := by decide +kernel
theorem dX5_become_8 : decode cX5_become 8 = .ok (.aload_n 1, 1) := by decide +kernel
theorem dX5_become_9 : decode cX5_become 9 = .ok (.getfield 15, 3) := by decide +kernel
theorem dX5_become_12 : decode cX5_become 12 = .ok (.iconst 0, 1) := by decide +kernel
theorem dX5_become_13 : decode cX5_become 13 = .ok (.aload_n 0, 1) := by decide +kernel
theorem dX5_become_14 : decode cX5_become 14 = .ok (.getfield 15, 3) := by decide +kernel
theorem dX5_become_17 : decode cX5_become 17 = .ok (.iconst 0, 1) := by decide +kernel
theorem dX5_become_18 : decode cX5_become 18 = .ok (.bipush 8, 2) := by decide +kernel
theorem dX5_become_20 : decode cX5_become 20 = .ok (.invokestatic 37, 3) := by decide +kernel
theorem dX5_become_23 : decode cX5_become 23 = .ok (.aload_n 1, 1) := by decide +kernel
theorem dX5_become_24 : decode cX5_become 24 = .ok (.getfield 19, 3) := by decide +kernel
theorem dX5_become_27 : decode cX5_become 27 = .ok (.iconst 0, 1) := by decide +kernel
theorem dX5_become_28 : decode cX5_become 28 = .ok (.aload_n 0, 1) := by decide +kernel
theorem dX5_become_29 : decode cX5_become 29 = .ok (.getfield 19, 3) := by decide +kernel
theorem dX5_become_32 : decode cX5_become 32 = .ok (.iconst 0, 1) := by decide +kernel
theorem dX5_become_33 : decode cX5_become 33 = .ok (.bipush 8, 2) := by decide +kernel
theorem dX5_become_35 : decode cX5_become 35 = .ok (.invokestatic 37, 3) := by decide +kernel
theorem dX5_become_38 : decode cX5_become 38 = .ok (.aload_n 1, 1) := by decide +kernel
theorem dX5_become_39 : decode cX5_become 39 = .ok (.getfield 22, 3) := by decide +kernel
theorem dX5_become_42 : decode cX5_become 42 = .ok (.iconst 0, 1) := by decide +kernel
theorem dX5_become_43 : decode cX5_become 43 = .ok (.aload_n 0, 1) := by decide +kernel
theorem dX5_become_44 : decode cX5_become 44 = .ok (.getfield 22, 3) := by decide +kernel
theorem dX5_become_47 : decode cX5_become 47 = .ok (.iconst 0, 1) := by decide +kernel
theorem dX5_become_48 : decode cX5_become 48 = .ok (.bipush 8, 2) := by decide +kernel
theorem dX5_become_50 : decode cX5_become 50 = .ok (.invokestatic 37, 3) := by decide +kernel
theorem dX5_become_53 : decode cX5_become 53 = .ok (.aload_n 0, 1) := by decide +kernel
theorem dX5_become_54 : decode cX5_become 54 = .ok (.aload_n 1, 1) := by decide +kernel
theorem dX5_become_55 : decode cX5_become 55 = .ok (.getfield 25, 3) := by decide +kernel
theorem dX5_become_58 : decode cX5_become 58 = .ok (.putfield 25, 3) := by decide +kernel
theorem dX5_become_61 : decode cX5_become 61 = .ok (.aload_n 1, 1) := by decide +kernel
theorem dX5_become_62 : decode cX5_become 62 = .ok (.getfield 28, 3) := by decide +kernel
theorem dX5_become_65 : decode cX5_become 65 = .ok (.iconst 0, 1) := by decide +kernel
theorem dX5_become_66 : decode cX5_become 66 = .ok (.aload_n 0, 1) := by decide +kernel
theorem dX5_become_67 : decode cX5_become 67 = .ok (.getfield 28, 3) := by decide +kernel
theorem dX5_become_70 : decode cX5_become 70 = .ok (.iconst 0, 1) := by decide +kernel
theorem dX5_become_71 : decode cX5_become 71 = .ok (.iconst 4, 1) := by decide +kernel
theorem dX5_become_72 : decode cX5_become 72 = .ok (.invokestatic 37, 3) := by decide +kernel
theorem dX5_become_75 : decode cX5_become 75 = .ok (.aload_n 1, 1) := by decide +kernel
theorem dX5_become_76 : decode cX5_become 76 = .ok (.getfield 31, 3) := by decide +kernel
theorem dX5_become_79 : decode cX5_become 79 = .ok (.iconst 0, 1) := by decide +kernel
theorem dX5_become_80 : decode cX5_become 80 = .ok (.aload_n 0, 1) := by decide +kernel
theorem dX5_become_81 : decode cX5_become 81 = .ok (.getfield 31, 3) := by decide +kernel
theorem dX5_become_84 : decode cX5_become 84 = .ok (.iconst 0, 1) := by decide +kernel
theorem dX5_become_85 : decode cX5_become 85 = .ok (.iconst 4, 1) := by decide +kernel
theorem dX5_become_86 : decode cX5_become 86 = .ok (.invokestatic 37, 3) := by decide +kernel
theorem dX5_become_89 : decode cX5_become 89 = .ok (.aload_n 1, 1) := by decide +kernel
theorem dX5_become_90 : decode cX5_become 90 = .ok (.getfield 34, 3) := by decide +kernel
theorem dX5_become_93 : decode cX5_become 93 = .ok (.iconst 0, 1) := by decide +kernel
theorem dX5_become_94 : decode cX5_become 94 = .ok (.aload_n 0, 1) := by decide +kernel
theorem dX5_become_95 : decode cX5_become 95 = .ok (.getfield 34, 3) := by decide +kernel
theorem dX5_become_98 : decode cX5_become 98 = .ok (.iconst 0, 1) := by decide +kernel
theorem dX5_become_99 : decode cX5_become 99 = .ok (.iconst 4, 1) := by decide +kernel
theorem dX5_become_100 : decode cX5_become 100 = .ok (.invokestatic 37, 3) := by decide +kernel
theorem dX5_become_103 : decode cX5_become 103 = .ok (.return_, 1) := by decide +kernel
theorem dX5_addPiece_0 : decode cX5_addPiece 0 = .ok (.aload_n 0, 1) := by decide +kernel
theorem dX5_addPiece_1 : decode cX5_addPiece 1 = .ok (.getfield 15, 3) := by decide +kernel
theorem dX5_addPiece_4 : decode cX5_addPiece 4 = .ok (.aload_n 0, 1) := by decide +kernel
theorem dX5_addPiece_5 : decode cX5_addPiece 5 = .ok (.getfield 9, 3) := by decide +kernel
theorem dX5_addPiece_8 : decode cX5_addPiece 8 = .ok (.iload_n 1, 1) := by decide +kernel
theorem dX5_addPiece_9 : decode cX5_addPiece 9 = .ok (.iastore, 1) := by decide +kernel
theorem dX5_addPiece_10 : decode cX5_addPiece 10 = .ok (.aload_n 0, 1) := by decide +kernel
theorem dX5_addPiece_11 : decode cX5_addPiece 11 = .ok (.getfield 19, 3) := by decide +kernel
theorem dX5_addPiece_14 : decode cX5_addPiece 14 = .ok (.aload_n 0, 1) := by decide +kernel
theorem dX5_addPiece_15 : decode cX5_addPiece 15 = .ok (.getfield 9, 3) := by decide +kernel
theorem dX5_addPiece_18 : decode cX5_addPiece 18 = .ok (.iload_n 2, 1) := by decide +kernel
theorem dX5_addPiece_19 : decode cX5_addPiece 19 = .ok (.iastore, 1) := by decide +kernel
theorem dX5_addPiece_20 : decode cX5_addPiece 20 = .ok (.aload_n 0, 1) := by decide +kernel
theorem dX5_addPiece_21 : decode cX5_addPiece 21 = .ok (.getfield 22, 3) := by decide +kernel
theorem dX5_addPiece_24 : decode cX5_addPiece 24 = .ok (.aload_n 0, 1) := by decide +kernel
theorem dX5_addPiece_25 : decode cX5_addPiece 25 = .ok (.getfield 9, 3) := by decide +kernel
theorem dX5_addPiece_28 : decode cX5_addPiece 28 = .ok (.iload_n 3, 1) := by decide +kernel
theorem dX5_addPiece_29 : decode cX5_addPiece 29 = .ok (.iastore, 1) := by decide +kernel
theorem dX5_addPiece_30 : decode cX5_addPiece 30 = .ok (.aload_n 0, 1) := by decide +kernel
theorem dX5_addPiece_31 : decode cX5_addPiece 31 = .ok (.dup, 1) := by decide +kernel
theorem dX5_addPiece_32 : decode cX5_addPiece 32 = .ok (.getfield 9, 3) := by decide +kernel
theorem dX5_addPiece_35 : decode cX5_addPiece 35 = .ok (.iconst 1, 1) := by decide +kernel
theorem dX5_addPiece_36 : decode cX5_addPiece 36 = .ok (.iadd, 1) := by decide +kernel
theorem dX5_addPiece_37 : decode cX5_addPiece 37 = .ok (.putfield 9, 3) := by decide +kernel
theorem dX5_addPiece_40 : decode cX5_addPiece 40 = .ok (.return_, 1) := by decide +kernel
theorem dX5_addFamily_0 : decode cX5_addFamily 0 = .ok (.aload_n 0, 1) := by decide +kernel
theorem dX5_addFamily_1 : decode cX5_addFamily 1 = .ok (.getfield 28, 3) := by decide +kernel
theorem dX5_addFamily_4 : decode cX5_addFamily 4 = .ok (.aload_n 0, 1) := by decide +kernel
theorem dX5_addFamily_5 : decode cX5_addFamily 5 = .ok (.getfield 25, 3) := by decide +kernel
theorem dX5_addFamily_8 : decode cX5_addFamily 8 = .ok (.iload_n 1, 1) := by decide +kernel
theorem dX5_addFamily_9 : decode cX5_addFamily 9 = .ok (.iastore, 1) := by decide +kernel
theorem dX5_addFamily_10 : decode cX5_addFamily 10 = .ok (.aload_n 0, 1) := by decide +kernel
theorem dX5_addFamily_11 : decode cX5_addFamily 11 = .ok (.getfield 31, 3) := by decide +kernel
theorem dX5_addFamily_14 : decode cX5_addFamily 14 = .ok (.aload_n 0, 1) := by decide +kernel
theorem dX5_addFamily_15 : decode cX5_addFamily 15 = .ok (.getfield 25, 3) := by decide +kernel
theorem dX5_addFamily_18 : decode cX5_addFamily 18 = .ok (.iload_n 2, 1) := by decide +kernel
theorem dX5_addFamily_19 : decode cX5_addFamily 19 = .ok (.iastore, 1) := by decide +kernel
theorem dX5_addFamily_20 : decode cX5_addFamily 20 = .ok (.aload_n 0, 1) := by decide +kernel
theorem dX5_addFamily_21 : decode cX5_addFamily 21 = .ok (.getfield 34, 3) := by decide +kernel
theorem dX5_addFamily_24 : decode cX5_addFamily 24 = .ok (.aload_n 0, 1) := by decide +kernel
theorem dX5_addFamily_25 : decode cX5_addFamily 25 = .ok (.getfield 25, 3) := by decide +kernel
theorem dX5_addFamily_28 : decode cX5_addFamily 28 = .ok (.iload_n 3, 1) := by decide +kernel
theorem dX5_addFamily_29 : decode cX5_addFamily 29 = .ok (.iastore, 1) := by decide +kernel
theorem dX5_addFamily_30 : decode cX5_addFamily 30 = .ok (.aload_n 0, 1) := by decide +kernel
theorem dX5_addFamily_31 : decode cX5_addFamily 31 = .ok (.dup, 1) := by decide +kernel
theorem dX5_addFamily_32 : decode cX5_addFamily 32 = .ok (.getfield 25, 3) := by decide +kernel
theorem dX5_addFamily_35 : decode cX5_addFamily 35 = .ok (.iconst 1, 1) := by decide +kernel
theorem dX5_addFamily_36 : decode cX5_addFamily 36 = .ok (.iadd, 1) := by decide +kernel
theorem dX5_addFamily_37 : decode cX5_addFamily 37 = .ok (.putfield 25, 3) := by decide +kernel
theorem dX5_addFamily_40 : decode cX5_addFamily 40 = .ok (.return_, 1) := by decide +kernel
theorem dX5_widerThan_0 : decode cX5_widerThan 0 = .ok (.iconst 0, 1) := by decide +kernel
theorem dX5_widerThan_1 : decode cX5_widerThan 1 = .ok (.istore_n 2, 1) := by decide +kernel
theorem dX5_widerThan_2 : decode cX5_widerThan 2 = .ok (.iconst 0, 1) := by decide +kernel
theorem dX5_widerThan_3 : decode cX5_widerThan 3 = .ok (.istore_n 3, 1) := by decide +kernel
theorem dX5_widerThan_4 : decode cX5_widerThan 4 = .ok (.iload_n 3, 1) := by decide +kernel
theorem dX5_widerThan_5 : decode cX5_widerThan 5 = .ok (.aload_n 0, 1) := by decide +kernel
theorem dX5_widerThan_6 : decode cX5_widerThan 6 = .ok (.getfield 9, 3) := by decide +kernel
theorem dX5_widerThan_9 : decode cX5_widerThan 9 = .ok (.if_icmp .ge 29, 3) := by decide +kernel
theorem dX5_widerThan_12 : decode cX5_widerThan 12 = .ok (.iload_n 2, 1) := by decide +kernel
theorem dX5_widerThan_13 : decode cX5_widerThan 13 = .ok (.aload_n 0, 1) := by decide +kernel
theorem dX5_widerThan_14 : decode cX5_widerThan 14 = .ok (.getfield 22, 3) := by decide +kernel
theorem dX5_widerThan_17 : decode cX5_widerThan 17 = .ok (.iload_n 3, 1) := by decide +kernel
theorem dX5_widerThan_18 : decode cX5_widerThan 18 = .ok (.iaload, 1) := by decide +kernel
theorem dX5_widerThan_19 : decode cX5_widerThan 19 = .ok (.iload_n 1, 1) := by decide +kernel
theorem dX5_widerThan_20 : decode cX5_widerThan 20 = .ok (.if_icmp .le 9, 3) := by decide +kernel
theorem dX5_widerThan_23 : decode cX5_widerThan 23 = .ok (.iconst 1, 1) := by decide +kernel
theorem dX5_widerThan_24 : decode cX5_widerThan 24 = .ok (.iload_n 3, 1) := by decide +kernel
theorem dX5_widerThan_25 : decode cX5_widerThan 25 = .ok (.ishl, 1) := by decide +kernel
theorem dX5_widerThan_26 : decode cX5_widerThan 26 = .ok (.goto 4, 3) := by decide +kernel
theorem dX5_widerThan_29 : decode cX5_widerThan 29 = .ok (.iconst 0, 1) := by decide +kernel
theorem dX5_widerThan_30 : decode cX5_widerThan 30 = .ok (.ior, 1) := by decide +kernel
theorem dX5_widerThan_31 : decode cX5_widerThan 31 = .ok (.istore_n 2, 1) := by decide +kernel
theorem dX5_widerThan_32 : decode cX5_widerThan 32 = .ok (.iinc 3 1, 3) := by decide +kernel
theorem dX5_widerThan_35 : decode cX5_widerThan 35 = .ok (.goto (-31), 3) := by decide +kernel
theorem dX5_widerThan_38 : decode cX5_widerThan 38 = .ok (.iload_n 2, 1) := by decide +kernel
theorem dX5_widerThan_39 : decode cX5_widerThan 39 = .ok (.ireturn, 1) := by decide +kernel
theorem dX5_yardsOf_0 : decode cX5_yardsOf 0 = .ok (.iconst 0, 1) := by decide +kernel
theorem dX5_yardsOf_1 : decode cX5_yardsOf 1 = .ok (.istore_n 2, 1) := by decide +kernel
theorem dX5_yardsOf_2 : decode cX5_yardsOf 2 = .ok (.iconst 0, 1) := by decide +kernel
theorem dX5_yardsOf_3 : decode cX5_yardsOf 3 = .ok (.istore_n 3, 1) := by decide +kernel
theorem dX5_yardsOf_4 : decode cX5_yardsOf 4 = .ok (.iload_n 3, 1) := by decide +kernel
theorem dX5_yardsOf_5 : decode cX5_yardsOf 5 = .ok (.aload_n 0, 1) := by decide +kernel
theorem dX5_yardsOf_6 : decode cX5_yardsOf 6 = .ok (.getfield 9, 3) := by decide +kernel
theorem dX5_yardsOf_9 : decode cX5_yardsOf 9 = .ok (.if_icmp .ge 24, 3) := by decide +kernel
theorem dX5_yardsOf_12 : decode cX5_yardsOf 12 = .ok (.iload_n 2, 1) := by decide +kernel
theorem dX5_yardsOf_13 : decode cX5_yardsOf 13 = .ok (.iload_n 1, 1) := by decide +kernel
theorem dX5_yardsOf_14 : decode cX5_yardsOf 14 = .ok (.iload_n 3, 1) := by decide +kernel
theorem dX5_yardsOf_15 : decode cX5_yardsOf 15 = .ok (.ishr, 1) := by decide +kernel
theorem dX5_yardsOf_16 : decode cX5_yardsOf 16 = .ok (.iconst 1, 1) := by decide +kernel
theorem dX5_yardsOf_17 : decode cX5_yardsOf 17 = .ok (.iand, 1) := by decide +kernel
theorem dX5_yardsOf_18 : decode cX5_yardsOf 18 = .ok (.aload_n 0, 1) := by decide +kernel
theorem dX5_yardsOf_19 : decode cX5_yardsOf 19 = .ok (.getfield 22, 3) := by decide +kernel
theorem dX5_yardsOf_22 : decode cX5_yardsOf 22 = .ok (.iload_n 3, 1) := by decide +kernel
theorem dX5_yardsOf_23 : decode cX5_yardsOf 23 = .ok (.iaload, 1) := by decide +kernel
theorem dX5_yardsOf_24 : decode cX5_yardsOf 24 = .ok (.imul, 1) := by decide +kernel
theorem dX5_yardsOf_25 : decode cX5_yardsOf 25 = .ok (.iadd, 1) := by decide +kernel
theorem dX5_yardsOf_26 : decode cX5_yardsOf 26 = .ok (.istore_n 2, 1) := by decide +kernel
theorem dX5_yardsOf_27 : decode cX5_yardsOf 27 = .ok (.iinc 3 1, 3) := by decide +kernel
theorem dX5_yardsOf_30 : decode cX5_yardsOf 30 = .ok (.goto (-26), 3) := by decide +kernel
theorem dX5_yardsOf_33 : decode cX5_yardsOf 33 = .ok (.iload_n 2, 1) := by decide +kernel
theorem dX5_yardsOf_34 : decode cX5_yardsOf 34 = .ok (.ireturn, 1) := by decide +kernel
theorem dX6_init_0 : decode cX6_init 0 = .ok (.aload_n 0, 1) := by decide +kernel
theorem dX6_init_1 : decode cX6_init 1 = .ok (.invokespecial 3, 3) := by decide +kernel
theorem dX6_init_4 : decode cX6_init 4 = .ok (.aload_n 0, 1) := by decide +kernel
theorem dX6_init_5 : decode cX6_init 5 = .ok (.bipush 16, 2) := by decide +kernel
theorem dX6_init_7 : decode cX6_init 7 = .ok (.newarray .int, 2) := by decide +kernel
theorem dX6_init_9 : decode cX6_init 9 = .ok (.putfield 9, 3) := by decide +kernel
theorem dX6_init_12 : decode cX6_init 12 = .ok (.aload_n 0, 1) := by decide +kernel
theorem dX6_init_13 : decode cX6_init 13 = .ok (.bipush 16, 2) := by decide +kernel
theorem dX6_init_15 : decode cX6_init 15 = .ok (.newarray .int, 2) := by decide +kernel
theorem dX6_init_17 : decode cX6_init 17 = .ok (.putfield 15, 3) := by decide +kernel
theorem dX6_init_20 : decode cX6_init 20 = .ok (.aload_n 0, 1) := by decide +kernel
theorem dX6_init_21 : decode cX6_init 21 = .ok (.aload_n 1, 1) := by decide +kernel
theorem dX6_init_22 : decode cX6_init 22 = .ok (.putfield 18, 3) := by decide +kernel
theorem dX6_init_25 : decode cX6_init 25 = .ok (.return_, 1) := by decide +kernel
theorem dX6_waysOf_0 : decode cX6_waysOf 0 = .ok (.aload_n 0, 1) := by decide +kernel
theorem dX6_waysOf_1 : decode cX6_waysOf 1 = .ok (.getfield 9, 3) := by decide +kernel
theorem dX6_waysOf_4 : decode cX6_waysOf 4 = .ok (.iconst 0, 1) := by decide +kernel
theorem dX6_waysOf_5 : decode cX6_waysOf 5 = .ok (.invokestatic 22, 3) := by decide +kernel
theorem dX6_waysOf_8 : decode cX6_waysOf 8 = .ok (.aload_n 0, 1) := by decide +kernel
theorem dX6_waysOf_9 : decode cX6_waysOf 9 = .ok (.getfield 9, 3) := by decide +kernel
theorem dX6_waysOf_12 : decode cX6_waysOf 12 = .ok (.iconst 0, 1) := by decide +kernel
theorem dX6_waysOf_13 : decode cX6_waysOf 13 = .ok (.iconst 1, 1) := by decide +kernel
theorem dX6_waysOf_14 : decode cX6_waysOf 14 = .ok (.iastore, 1) := by decide +kernel
theorem dX6_waysOf_15 : decode cX6_waysOf 15 = .ok (.iconst 0, 1) := by decide +kernel
theorem dX6_waysOf_16 : decode cX6_waysOf 16 = .ok (.istore 4, 2) := by decide +kernel
theorem dX6_waysOf_18 : decode cX6_waysOf 18 = .ok (.iload 4, 2) := by decide +kernel
theorem dX6_waysOf_20 : decode cX6_waysOf 20 = .ok (.aload_n 0, 1) := by decide +kernel
theorem dX6_waysOf_21 : decode cX6_waysOf 21 = .ok (.getfield 18, 3) := by decide +kernel
theorem dX6_waysOf_24 : decode cX6_waysOf 24 = .ok (.getfield 28, 3) := by decide +kernel
theorem dX6_waysOf_27 : decode cX6_waysOf 27 = .ok (.if_icmp .ge 36, 3) := by decide +kernel
theorem dX6_waysOf_30 : decode cX6_waysOf 30 = .ok (.aload_n 1, 1) := by decide +kernel
theorem dX6_waysOf_31 : decode cX6_waysOf 31 = .ok (.iload 4, 2) := by decide +kernel
theorem dX6_waysOf_33 : decode cX6_waysOf 33 = .ok (.invokevirtual 34, 3) := by decide +kernel
theorem dX6_waysOf_36 : decode cX6_waysOf 36 = .ok (.ifCond .ne 21, 3) := by decide +kernel
theorem dX6_waysOf_39 : decode cX6_waysOf 39 = .ok (.aload_n 0, 1) := by decide +kernel
theorem dX6_waysOf_40 : decode cX6_waysOf 40 = .ok (.aload_n 1, 1) := by decide +kernel
theorem dX6_waysOf_41 : decode cX6_waysOf 41 = .ok (.iload 4, 2) := by decide +kernel
theorem dX6_waysOf_43 : decode cX6_waysOf 43 = .ok (.iload 4, 2) := by decide +kernel
theorem dX6_waysOf_45 : decode cX6_waysOf 45 = .ok (.iload_n 2, 1) := by decide +kernel
theorem dX6_waysOf_46 : decode cX6_waysOf 46 = .ok (.if_icmp .ne 7, 3) := by decide +kernel
theorem dX6_waysOf_49 : decode cX6_waysOf 49 = .ok (.iload_n 3, 1) := by decide +kernel
theorem dX6_waysOf_50 : decode cX6_waysOf 50 = .ok (.goto 4, 3) := by decide +kernel
theorem dX6_waysOf_53 : decode cX6_waysOf 53 = .ok (.iconst (-1), 1) := by decide +kernel
theorem dX6_waysOf_54 : decode cX6_waysOf 54 = .ok (.invokevirtual 40, 3) := by decide +kernel
theorem dX6_waysOf_57 : decode cX6_waysOf 57 = .ok (.iinc 4 1, 3) := by decide +kernel
theorem dX6_waysOf_60 : decode cX6_waysOf 60 = .ok (.goto (-42), 3) := by decide +kernel
theorem dX6_waysOf_63 : decode cX6_waysOf 63 = .ok (.aload_n 0, 1) := by decide +kernel
theorem dX6_waysOf_64 : decode cX6_waysOf 64 = .ok (.getfield 9, 3) := by decide +kernel
theorem dX6_waysOf_67 : decode cX6_waysOf 67 = .ok (.iconst 1, 1) := by decide +kernel
theorem dX6_waysOf_68 : decode cX6_waysOf 68 = .ok (.aload_n 0, 1) := by decide +kernel
theorem dX6_waysOf_69 : decode cX6_waysOf 69 = .ok (.getfield 18, 3) := by decide +kernel
theorem dX6_waysOf_72 : decode cX6_waysOf 72 = .ok (.getfield 44, 3) := by decide +kernel
theorem dX6_waysOf_75 : decode cX6_waysOf 75 = .ok (.ishl, 1) := by decide +kernel
theorem dX6_waysOf_76 : decode cX6_waysOf 76 = .ok (.iconst 1, 1) := by decide +kernel
theorem dX6_waysOf_77 : decode cX6_waysOf 77 = .ok (.isub, 1) := by decide +kernel
theorem dX6_waysOf_78 : decode cX6_waysOf 78 = .ok (.iaload, 1) := by decide +kernel
theorem dX6_waysOf_79 : decode cX6_waysOf 79 = .ok (.ireturn, 1) := by decide +kernel
theorem dX6_onlyOwner_0 : decode cX6_onlyOwner 0 = .ok (.bipush (-9), 2) := by decide +kernel
theorem dX6_onlyOwner_2 : decode cX6_onlyOwner 2 = .ok (.istore_n 3, 1) := by decide +kernel
theorem dX6_onlyOwner_3 : decode cX6_onlyOwner 3 = .ok (.iconst 0, 1) := by decide +kernel
theorem dX6_onlyOwner_4 : decode cX6_onlyOwner 4 = .ok (.istore 4, 2) := by decide +kernel
theorem dX6_onlyOwner_6 : decode cX6_onlyOwner 6 = .ok (.iload 4, 2) := by decide +kernel
theorem dX6_onlyOwner_8 : decode cX6_onlyOwner 8 = .ok (.aload_n 0, 1) := by decide +kernel
theorem dX6_onlyOwner_9 : decode cX6_onlyOwner 9 = .ok (.getfield 18, 3) := by decide +kernel
theorem dX6_onlyOwner_12 : decode cX6_onlyOwner 12 = .ok (.getfield 44, 3) := by decide +kernel
theorem dX6_onlyOwner_15 : decode cX6_onlyOwner 15 = .ok (.if_icmp .ge 32, 3) := by decide +kernel
theorem dX6_onlyOwner_18 : decode cX6_onlyOwner 18 = .ok (.aload_n 0, 1) := by decide +kernel
theorem dX6_onlyOwner_19 : decode cX6_onlyOwner 19 = .ok (.aload_n 1, 1) := by decide +kernel
theorem dX6_onlyOwner_20 : decode cX6_onlyOwner 20 = .ok (.iload_n 2, 1) := by decide +kernel
theorem dX6_onlyOwner_21 : decode cX6_onlyOwner 21 = .ok (.iload 4, 2) := by decide +kernel
theorem dX6_onlyOwner_23 : decode cX6_onlyOwner 23 = .ok (.invokevirtual 47, 3) := by decide +kernel
theorem dX6_onlyOwner_26 : decode cX6_onlyOwner 26 = .ok (.ifCond .le 15, 3) := by decide +kernel
theorem dX6_onlyOwner_29 : decode cX6_onlyOwner 29 = .ok (.iload_n 3, 1) := by decide +kernel
theorem dX6_onlyOwner_30 : decode cX6_onlyOwner 30 = .ok (.bipush (-9), 2) := by decide +kernel
theorem dX6_onlyOwner_32 : decode cX6_onlyOwner 32 = .ok (.if_icmp .eq 6, 3) := by decide +kernel
theorem dX6_onlyOwner_35 : decode cX6_onlyOwner 35 = .ok (.bipush (-9), 2) := by decide +kernel
theorem dX6_onlyOwner_37 : decode cX6_onlyOwner 37 = .ok (.ireturn, 1) := by decide +kernel
theorem dX6_onlyOwner_38 : decode cX6_onlyOwner 38 = .ok (.iload 4, 2) := by decide +kernel
theorem dX6_onlyOwner_40 : decode cX6_onlyOwner 40 = .ok (.istore_n 3, 1) := by decide +kernel
theorem dX6_onlyOwner_41 : decode cX6_onlyOwner 41 = .ok (.iinc 4 1, 3) := by decide +kernel
theorem dX6_onlyOwner_44 : decode cX6_onlyOwner 44 = .ok (.goto (-38), 3) := by decide +kernel
theorem dX6_onlyOwner_47 : decode cX6_onlyOwner 47 = .ok (.iload_n 3, 1) := by decide +kernel
theorem dX6_onlyOwner_48 : decode cX6_onlyOwner 48 = .ok (.ireturn, 1) := by decide +kernel
theorem dX6_addPiece_0 : decode cX6_addPiece 0 = .ok (.aload_n 0, 1) := by decide +kernel
theorem dX6_addPiece_1 : decode cX6_addPiece 1 = .ok (.getfield 15, 3) := by decide +kernel
theorem dX6_addPiece_4 : decode cX6_addPiece 4 = .ok (.iconst 0, 1) := by decide +kernel
theorem dX6_addPiece_5 : decode cX6_addPiece 5 = .ok (.invokestatic 22, 3) := by decide +kernel
theorem dX6_addPiece_8 : decode cX6_addPiece 8 = .ok (.iconst 0, 1) := by decide +kernel
theorem dX6_addPiece_9 : decode cX6_addPiece 9 = .ok (.istore 4, 2) := by decide +kernel
theorem dX6_addPiece_11 : decode cX6_addPiece 11 = .ok (.iload 4, 2) := by decide +kernel
theorem dX6_addPiece_13 : decode cX6_addPiece 13 = .ok (.aload_n 0, 1) := by decide +kernel
theorem dX6_addPiece_14 : decode cX6_addPiece 14 = .ok (.getfield 18, 3) := by decide +kernel
theorem dX6_addPiece_17 : decode cX6_addPiece 17 = .ok (.getfield 44, 3) := by decide +kernel
theorem dX6_addPiece_20 : decode cX6_addPiece 20 = .ok (.if_icmp .ge 91, 3) := by decide +kernel
theorem dX6_addPiece_23 : decode cX6_addPiece 23 = .ok (.aload_n 1, 1) := by decide +kernel
theorem dX6_addPiece_24 : decode cX6_addPiece 24 = .ok (.getfield 51, 3) := by decide +kernel
theorem dX6_addPiece_27 : decode cX6_addPiece 27 = .ok (.iload 4, 2) := by decide +kernel
theorem dX6_addPiece_29 : decode cX6_addPiece 29 = .ok (.iaload, 1) := by decide +kernel
theorem dX6_addPiece_30 : decode cX6_addPiece 30 = .ok (.iload_n 2, 1) := by decide +kernel
theorem dX6_addPiece_31 : decode cX6_addPiece 31 = .ok (.ishr, 1) := by decide +kernel
theorem dX6_addPiece_32 : decode cX6_addPiece 32 = .ok (.iconst 1, 1) := by decide +kernel
theorem dX6_addPiece_33 : decode cX6_addPiece 33 = .ok (.iand, 1) := by decide +kernel
theorem dX6_addPiece_34 : decode cX6_addPiece 34 = .ok (.ifCond .ne 18, 3) := by decide +kernel
theorem dX6_addPiece_37 : decode cX6_addPiece 37 = .ok (.iload_n 3, 1) := by decide +kernel
theorem dX6_addPiece_38 : decode cX6_addPiece 38 = .ok (.iconst (-1), 1) := by decide +kernel
theorem dX6_addPiece_39 : decode cX6_addPiece 39 = .ok (.if_icmp .eq 9, 3) := by decide +kernel
theorem dX6_addPiece_42 : decode cX6_addPiece 42 = .ok (.iload_n 3, 1) := by decide +kernel
theorem dX6_addPiece_43 : decode cX6_addPiece 43 = .ok (.iload 4, 2) := by decide +kernel
theorem dX6_addPiece_45 : decode cX6_addPiece 45 = .ok (.if_icmp .ne 7, 3) := by decide +kernel
theorem dX6_addPiece_48 : decode cX6_addPiece 48 = .ok (.iconst 1, 1) := by decide +kernel
theorem dX6_addPiece_49 : decode cX6_addPiece 49 = .ok (.goto 4, 3) := by decide +kernel
theorem dX6_addPiece_52 : decode cX6_addPiece 52 = .ok (.iconst 0, 1) := by decide +kernel
theorem dX6_addPiece_53 : decode cX6_addPiece 53 = .ok (.istore 5, 2) := by decide +kernel
theorem dX6_addPiece_55 : decode cX6_addPiece 55 = .ok (.iconst 0, 1) := by decide +kernel
theorem dX6_addPiece_56 : decode cX6_addPiece 56 = .ok (.istore 6, 2) := by decide +kernel
theorem dX6_addPiece_58 : decode cX6_addPiece 58 = .ok (.iload 5, 2) := by decide +kernel
theorem dX6_addPiece_60 : decode cX6_addPiece 60 = .ok (.ifCond .eq 45, 3) := by decide +kernel
theorem dX6_addPiece_63 : decode cX6_addPiece 63 = .ok (.iload 6, 2) := by decide +kernel
theorem dX6_addPiece_65 : decode cX6_addPiece 65 = .ok (.iconst 1, 1) := by decide +kernel
theorem dX6_addPiece_66 : decode cX6_addPiece 66 = .ok (.aload_n 0, 1) := by decide +kernel
theorem dX6_addPiece_67 : decode cX6_addPiece 67 = .ok (.getfield 18, 3) := by decide +kernel
theorem dX6_addPiece_70 : decode cX6_addPiece 70 = .ok (.getfield 44, 3) := by decide +kernel
theorem dX6_addPiece_73 : decode cX6_addPiece 73 = .ok (.ishl, 1) := by decide +kernel
theorem dX6_addPiece_74 : decode cX6_addPiece 74 = .ok (.if_icmp .ge 31, 3) := by decide +kernel
theorem dX6_addPiece_77 : decode cX6_addPiece 77 = .ok (.aload_n 0, 1) := by decide +kernel
theorem dX6_addPiece_78 : decode cX6_addPiece 78 = .ok (.getfield 15, 3) := by decide +kernel
theorem dX6_addPiece_81 : decode cX6_addPiece 81 = .ok (.iload 6, 2) := by decide +kernel
theorem dX6_addPiece_83 : decode cX6_addPiece 83 = .ok (.iconst 1, 1) := by decide +kernel
theorem dX6_addPiece_84 : decode cX6_addPiece 84 = .ok (.iload 4, 2) := by decide +kernel
theorem dX6_addPiece_86 : decode cX6_addPiece 86 = .ok (.ishl, 1) := by decide +kernel
theorem dX6_addPiece_87 : decode cX6_addPiece 87 = .ok (.ior, 1) := by decide +kernel
theorem dX6_addPiece_88 : decode cX6_addPiece 88 = .ok (.dup2, 1) := by decide +kernel
theorem dX6_addPiece_89 : decode cX6_addPiece 89 = .ok (.iaload, 1) := by decide +kernel
theorem dX6_addPiece_90 : decode cX6_addPiece 90 = .ok (.aload_n 0, 1) := by decide +kernel
theorem dX6_addPiece_91 : decode cX6_addPiece 91 = .ok (.getfield 9, 3) := by decide +kernel
theorem dX6_addPiece_94 : decode cX6_addPiece 94 = .ok (.iload 6, 2) := by decide +kernel
theorem dX6_addPiece_96 : decode cX6_addPiece 96 = .ok (.iaload, 1) := by decide +kernel
theorem dX6_addPiece_97 : decode cX6_addPiece 97 = .ok (.iadd, 1) := by decide +kernel
theorem dX6_addPiece_98 : decode cX6_addPiece 98 = .ok (.iastore, 1) := by decide +kernel
theorem dX6_addPiece_99 : decode cX6_addPiece 99 = .ok (.iinc 6 1, 3) := by decide +kernel
theorem dX6_addPiece_102 : decode cX6_addPiece 102 = .ok (.goto (-44), 3) := by decide +kernel
theorem dX6_addPiece_105 : decode cX6_addPiece 105 = .ok (.iinc 4 1, 3) := by decide +kernel
theorem dX6_addPiece_108 : decode cX6_addPiece 108 = .ok (.goto (-97), 3) := by decide +kernel
theorem dX6_addPiece_111 : decode cX6_addPiece 111 = .ok (.aload_n 0, 1) := by decide +kernel
theorem dX6_addPiece_112 : decode cX6_addPiece 112 = .ok (.getfield 15, 3) := by decide +kernel
theorem dX6_addPiece_115 : decode cX6_addPiece 115 = .ok (.iconst 0, 1) := by decide +kernel
theorem dX6_addPiece_116 : decode cX6_addPiece 116 = .ok (.aload_n 0, 1) := by decide +kernel
theorem dX6_addPiece_117 : decode cX6_addPiece 117 = .ok (.getfield 9, 3) := by decide +kernel
theorem dX6_addPiece_120 : decode cX6_addPiece 120 = .ok (.iconst 0, 1) := by decide +kernel
theorem dX6_addPiece_121 : decode cX6_addPiece 121 = .ok (.aload_n 0, 1) := by decide +kernel
theorem dX6_addPiece_122 : decode cX6_addPiece 122 = .ok (.getfield 9, 3) := by decide +kernel
theorem dX6_addPiece_125 : decode cX6_addPiece 125 = .ok (.arraylength, 1) := by decide +kernel
theorem dX6_addPiece_126 : decode cX6_addPiece 126 = .ok (.invokestatic 54, 3) := by decide +kernel
theorem dX6_addPiece_129 : decode cX6_addPiece 129 = .ok (.return_, 1) := by decide +kernel
theorem dX7_init_0 : decode cX7_init 0 = .ok (.aload_n 0, 1) := by decide +kernel
theorem dX7_init_1 : decode cX7_init 1 = .ok (.invokespecial 3, 3) := by decide +kernel
theorem dX7_init_4 : decode cX7_init 4 = .ok (.aload_n 0, 1) := by decide +kernel
theorem dX7_init_5 : decode cX7_init 5 = .ok (.sipush 300, 3) := by decide +kernel
theorem dX7_init_8 : decode cX7_init 8 = .ok (.newarray .byte, 2) := by decide +kernel
theorem dX7_init_10 : decode cX7_init 10 = .ok (.putfield 9, 3) := by decide +kernel
theorem dX7_init_13 : decode cX7_init 13 = .ok (.aload_n 0, 1) := by decide +kernel
theorem dX7_init_14 : decode cX7_init 14 = .ok (.iconst 0, 1) := by decide +kernel
theorem dX7_init_15 : decode cX7_init 15 = .ok (.putfield 15, 3) := by decide +kernel
theorem dX7_init_18 : decode cX7_init 18 = .ok (.return_, 1) := by decide +kernel
theorem dX7_append_0 : decode cX7_append 0 = .ok (.iload_n 3, 1) := by decide +kernel
theorem dX7_append_1 : decode cX7_append 1 = .ok (.iconst 1, 1) := by decide +kernel
theorem dX7_append_2 : decode cX7_append 2 = .ok (.isub, 1) := by decide +kernel
theorem dX7_append_3 : decode cX7_append 3 = .ok (.istore 4, 2) := by decide +kernel
theorem dX7_append_5 : decode cX7_append 5 = .ok (.iload 4, 2) := by decide +kernel
theorem dX7_append_7 : decode cX7_append 7 = .ok (.ifCond .lt 47, 3) := by decide +kernel
theorem dX7_append_10 : decode cX7_append 10 = .ok (.aload_n 0, 1) := by decide +kernel
theorem dX7_append_11 : decode cX7_append 11 = .ok (.getfield 15, 3) := by decide +kernel
theorem dX7_append_14 : decode cX7_append 14 = .ok (.sipush 300, 3) := by decide +kernel
theorem dX7_append_17 : decode cX7_append 17 = .ok (.if_icmp .ge 37, 3) := by decide +kernel
theorem dX7_append_20 : decode cX7_append 20 = .ok (.aload_n 0, 1) := by decide +kernel
theorem dX7_append_21 : decode cX7_append 21 = .ok (.getfield 9, 3) := by decide +kernel
theorem dX7_append_24 : decode cX7_append 24 = .ok (.aload_n 0, 1) := by decide +kernel
theorem dX7_append_25 : decode cX7_append 25 = .ok (.getfield 15, 3) := by decide +kernel
theorem dX7_append_28 : decode cX7_append 28 = .ok (.lload_n 1, 1) := by decide +kernel
theorem dX7_append_29 : decode cX7_append 29 = .ok (.bipush 8, 2) := by decide +kernel
theorem dX7_append_31 : decode cX7_append 31 = .ok (.iload 4, 2) := by decide +kernel
theorem dX7_append_33 : decode cX7_append 33 = .ok (.imul, 1) := by decide +kernel
theorem dX7_append_34 : decode cX7_append 34 = .ok (.lshr, 1) := by decide +kernel
theorem dX7_append_35 : decode cX7_append 35 = .ok (.l2i, 1) := by decide +kernel
theorem dX7_append_36 : decode cX7_append 36 = .ok (.i2b, 1) := by decide +kernel
theorem dX7_append_37 : decode cX7_append 37 = .ok (.bastore, 1) := by decide +kernel
theorem dX7_append_38 : decode cX7_append 38 = .ok (.aload_n 0, 1) := by decide +kernel
theorem dX7_append_39 : decode cX7_append 39 = .ok (.dup, 1) := by decide +kernel
theorem dX7_append_40 : decode cX7_append 40 = .ok (.getfield 15, 3) := by decide +kernel
theorem dX7_append_43 : decode cX7_append 43 = .ok (.iconst 1, 1) := by decide +kernel
theorem dX7_append_44 : decode cX7_append 44 = .ok (.iadd, 1) := by decide +kernel
theorem dX7_append_45 : decode cX7_append 45 = .ok (.putfield 15, 3) := by decide +kernel
theorem dX7_append_48 : decode cX7_append 48 = .ok (.iinc 4 (-1), 3) := by decide +kernel
theorem dX7_append_51 : decode cX7_append 51 = .ok (.goto (-46), 3) := by decide +kernel
theorem dX7_append_54 : decode cX7_append 54 = .ok (.return_, 1) := by decide +kernel
theorem dX8_init_0 : decode cX8_init 0 = .ok (.aload_n 0, 1) := by decide +kernel
theorem dX8_init_1 : decode cX8_init 1 = .ok (.invokespecial 3, 3) := by decide +kernel
theorem dX8_init_4 : decode cX8_init 4 = .ok (.aload_n 0, 1) := by decide +kernel
theorem dX8_init_5 : decode cX8_init 5 = .ok (.sipush 1024, 3) := by decide +kernel
theorem dX8_init_8 : decode cX8_init 8 = .ok (.newarray .int, 2) := by decide +kernel
theorem dX8_init_10 : decode cX8_init 10 = .ok (.putfield 9, 3) := by decide +kernel
theorem dX8_init_13 : decode cX8_init 13 = .ok (.aload_n 0, 1) := by decide +kernel
theorem dX8_init_14 : decode cX8_init 14 = .ok (.bipush 6, 2) := by decide +kernel
theorem dX8_init_16 : decode cX8_init 16 = .ok (.newarray .int, 2) := by decide +kernel
theorem dX8_init_18 : decode cX8_init 18 = .ok (.putfield 15, 3) := by decide +kernel
theorem dX8_init_21 : decode cX8_init 21 = .ok (.aload_n 0, 1) := by decide +kernel
theorem dX8_init_22 : decode cX8_init 22 = .ok (.aload_n 1, 1) := by decide +kernel
theorem dX8_init_23 : decode cX8_init 23 = .ok (.putfield 18, 3) := by decide +kernel
theorem dX8_init_26 : decode cX8_init 26 = .ok (.return_, 1) := by decide +kernel
theorem dX8_startAnew_0 : decode cX8_startAnew 0 = .ok (.aload_n 0, 1) := by decide +kernel
theorem dX8_startAnew_1 : decode cX8_startAnew 1 = .ok (.getfield 9, 3) := by decide +kernel
theorem dX8_startAnew_4 : decode cX8_startAnew 4 = .ok (.iconst 0, 1) := by decide +kernel
theorem dX8_startAnew_5 : decode cX8_startAnew 5 = .ok (.invokestatic 22, 3) := by decide +kernel
theorem dX8_startAnew_8 : decode cX8_startAnew 8 = .ok (.return_, 1) := by decide +kernel
theorem dX8_yards_0 : decode cX8_yards 0 = .ok (.iload_n 1, 1) := by decide +kernel
theorem dX8_yards_1 : decode cX8_yards 1 = .ok (.bipush 8, 2) := by decide +kernel
theorem dX8_yards_3 : decode cX8_yards 3 = .ok (.ishl, 1) := by decide +kernel
theorem dX8_yards_4 : decode cX8_yards 4 = .ok (.iload_n 2, 1) := by decide +kernel
theorem dX8_yards_5 : decode cX8_yards 5 = .ok (.iadd, 1) := by decide +kernel
theorem dX8_yards_6 : decode cX8_yards 6 = .ok (.istore_n 3, 1) := by decide +kernel
theorem dX8_yards_7 : decode cX8_yards 7 = .ok (.aload_n 0, 1) := by decide +kernel
theorem dX8_yards_8 : decode cX8_yards 8 = .ok (.getfield 9, 3) := by decide +kernel
theorem dX8_yards_11 : decode cX8_yards 11 = .ok (.iload_n 3, 1) := by decide +kernel
theorem dX8_yards_12 : decode cX8_yards 12 = .ok (.iaload, 1) := by decide +kernel
theorem dX8_yards_13 : decode cX8_yards 13 = .ok (.ifCond .ne 34, 3) := by decide +kernel
theorem dX8_yards_16 : decode cX8_yards 16 = .ok (.aload_n 0, 1) := by decide +kernel
theorem dX8_yards_17 : decode cX8_yards 17 = .ok (.iload_n 1, 1) := by decide +kernel
theorem dX8_yards_18 : decode cX8_yards 18 = .ok (.iload_n 2, 1) := by decide +kernel
theorem dX8_yards_19 : decode cX8_yards 19 = .ok (.invokevirtual 28, 3) := by decide +kernel
theorem dX8_yards_22 : decode cX8_yards 22 = .ok (.aload_n 0, 1) := by decide +kernel
theorem dX8_yards_23 : decode cX8_yards 23 = .ok (.getfield 9, 3) := by decide +kernel
theorem dX8_yards_26 : decode cX8_yards 26 = .ok (.iload_n 3, 1) := by decide +kernel
theorem dX8_yards_27 : decode cX8_yards 27 = .ok (.aload_n 0, 1) := by decide +kernel
theorem dX8_yards_28 : decode cX8_yards 28 = .ok (.getfield 15, 3) := by decide +kernel
theorem dX8_yards_31 : decode cX8_yards 31 = .ok (.aload_n 0, 1) := by decide +kernel
theorem dX8_yards_32 : decode cX8_yards 32 = .ok (.getfield 18, 3) := by decide +kernel
theorem dX8_yards_35 : decode cX8_yards 35 = .ok (.getfield 32, 3) := by decide +kernel
theorem dX8_yards_38 : decode cX8_yards 38 = .ok (.iload_n 1, 1) := by decide +kernel
theorem dX8_yards_39 : decode cX8_yards 39 = .ok (.iaload, 1) := by decide +kernel
theorem dX8_yards_40 : decode cX8_yards 40 = .ok (.iaload, 1) := by decide +kernel
theorem dX8_yards_41 : decode cX8_yards 41 = .ok (.bipush 16, 2) := by decide +kernel
theorem dX8_yards_43 : decode cX8_yards 43 = .ok (.idiv, 1) := by decide +kernel
theorem dX8_yards_44 : decode cX8_yards 44 = .ok (.iconst 1, 1) := by decide +kernel
theorem dX8_yards_45 : decode cX8_yards 45 = .ok (.iadd, 1) := by decide +kernel
theorem dX8_yards_46 : decode cX8_yards 46 = .ok (.iastore, 1) := by decide +kernel
theorem dX8_yards_47 : decode cX8_yards 47 = .ok (.aload_n 0, 1) := by decide +kernel
theorem dX8_yards_48 : decode cX8_yards 48 = .ok (.getfield 9, 3) := by decide +kernel
theorem dX8_yards_51 : decode cX8_yards 51 = .ok (.iload_n 3, 1) := by decide +kernel
theorem dX8_yards_52 : decode cX8_yards 52 = .ok (.iaload, 1) := by decide +kernel
theorem dX8_yards_53 : decode cX8_yards 53 = .ok (.iconst 1, 1) := by decide +kernel
theorem dX8_yards_54 : decode cX8_yards 54 = .ok (.isub, 1) := by decide +kernel
theorem dX8_yards_55 : decode cX8_yards 55 = .ok (.ireturn, 1) := by decide +kernel
theorem dX8_cost_0 : decode cX8_cost 0 = .ok (.aload_n 0, 1) := by decide +kernel
theorem dX8_cost_1 : decode cX8_cost 1 = .ok (.iload_n 1, 1) := by decide +kernel
theorem dX8_cost_2 : decode cX8_cost 2 = .ok (.iload_n 2, 1) := by decide +kernel
theorem dX8_cost_3 : decode cX8_cost 3 = .ok (.invokevirtual 37, 3) := by decide +kernel
theorem dX8_cost_6 : decode cX8_cost 6 = .ok (.aload_n 0, 1) := by decide +kernel
theorem dX8_cost_7 : decode cX8_cost 7 = .ok (.getfield 18, 3) := by decide +kernel
theorem dX8_cost_10 : decode cX8_cost 10 = .ok (.getfield 41, 3) := by decide +kernel
theorem dX8_cost_13 : decode cX8_cost 13 = .ok (.iload_n 1, 1) := by decide +kernel
theorem dX8_cost_14 : decode cX8_cost 14 = .ok (.iaload, 1) := by decide +kernel
theorem dX8_cost_15 : decode cX8_cost 15 = .ok (.imul, 1) := by decide +kernel
theorem dX8_cost_16 : decode cX8_cost 16 = .ok (.ireturn, 1) := by decide +kernel
theorem dX8_neededBy_0 : decode cX8_neededBy 0 = .ok (.iconst 0, 1) := by decide +kernel
theorem dX8_neededBy_1 : decode cX8_neededBy 1 = .ok (.istore_n 2, 1) := by decide +kernel
theorem dX8_neededBy_2 : decode cX8_neededBy 2 = .ok (.iconst 0, 1) := by decide +kernel
theorem dX8_neededBy_3 : decode cX8_neededBy 3 = .ok (.istore_n 3, 1) := by decide +kernel
theorem dX8_neededBy_4 : decode cX8_neededBy 4 = .ok (.iload_n 3, 1) := by decide +kernel
theorem dX8_neededBy_5 : decode cX8_neededBy 5 = .ok (.aload_n 0, 1) := by decide +kernel
theorem dX8_neededBy_6 : decode cX8_neededBy 6 = .ok (.getfield 18, 3) := by decide +kernel
theorem dX8_neededBy_9 : decode cX8_neededBy 9 = .ok (.getfield 44, 3) := by decide +kernel
theorem dX8_neededBy_12 : decode cX8_neededBy 12 = .ok (.if_icmp .ge 32, 3) := by decide +kernel
theorem dX8_neededBy_15 : decode cX8_neededBy 15 = .ok (.iload_n 2, 1) := by decide +kernel
theorem dX8_neededBy_16 : decode cX8_neededBy 16 = .ok (.aload_n 0, 1) := by decide +kernel
theorem dX8_neededBy_17 : decode cX8_neededBy 17 = .ok (.iload_n 1, 1) := by decide +kernel
theorem dX8_neededBy_18 : decode cX8_neededBy 18 = .ok (.iconst 1, 1) := by decide +kernel
theorem dX8_neededBy_19 : decode cX8_neededBy 19 = .ok (.iload_n 3, 1) := by decide +kernel
theorem dX8_neededBy_20 : decode cX8_neededBy 20 = .ok (.ishl, 1) := by decide +kernel
theorem dX8_neededBy_21 : decode cX8_neededBy 21 = .ok (.invokevirtual 37, 3) := by decide +kernel
theorem dX8_neededBy_24 : decode cX8_neededBy 24 = .ok (.ldc 48, 2) := by decide +kernel
theorem dX8_neededBy_26 : decode cX8_neededBy 26 = .ok (.if_icmp .lt 9, 3) := by decide +kernel
theorem dX8_neededBy_29 : decode cX8_neededBy 29 = .ok (.iconst 1, 1) := by decide +kernel
theorem dX8_neededBy_30 : decode cX8_neededBy 30 = .ok (.iload_n 3, 1) := by decide +kernel
theorem dX8_neededBy_31 : decode cX8_neededBy 31 = .ok (.ishl, 1) := by decide +kernel
theorem dX8_neededBy_32 : decode cX8_neededBy 32 = .ok (.goto 4, 3) := by decide +kernel
theorem dX8_neededBy_35 : decode cX8_neededBy 35 = .ok (.iconst 0, 1) := by decide +kernel
theorem dX8_neededBy_36 : decode cX8_neededBy 36 = .ok (.ior, 1) := by decide +kernel
theorem dX8_neededBy_37 : decode cX8_neededBy 37 = .ok (.istore_n 2, 1) := by decide +kernel
theorem dX8_neededBy_38 : decode cX8_neededBy 38 = .ok (.iinc 3 1, 3) := by decide +kernel
theorem dX8_neededBy_41 : decode cX8_neededBy 41 = .ok (.goto (-37), 3) := by decide +kernel
theorem dX8_neededBy_44 : decode cX8_neededBy 44 = .ok (.iload_n 2, 1) := by decide +kernel
theorem dX8_neededBy_45 : decode cX8_neededBy 45 = .ok (.ireturn, 1) := by decide +kernel
theorem dX8_placeOnWay_0 : decode cX8_placeOnWay 0 = .ok (.aload_n 0, 1) := by decide +kernel
theorem dX8_placeOnWay_1 : decode cX8_placeOnWay 1 = .ok (.iload_n 1, 1) := by decide +kernel
theorem dX8_placeOnWay_2 : decode cX8_placeOnWay 2 = .ok (.iload_n 2, 1) := by decide +kernel
theorem dX8_placeOnWay_3 : decode cX8_placeOnWay 3 = .ok (.invokevirtual 28, 3) := by decide +kernel
theorem dX8_placeOnWay_6 : decode cX8_placeOnWay 6 = .ok (.aload_n 0, 1) := by decide +kernel
theorem dX8_placeOnWay_7 : decode cX8_placeOnWay 7 = .ok (.getfield 18, 3) := by decide +kernel
theorem dX8_placeOnWay_10 : decode cX8_placeOnWay 10 = .ok (.getfield 32, 3) := by decide +kernel
theorem dX8_placeOnWay_13 : decode cX8_placeOnWay 13 = .ok (.iload_n 1, 1) := by decide +kernel
theorem dX8_placeOnWay_14 : decode cX8_placeOnWay 14 = .ok (.iaload, 1) := by decide +kernel
theorem dX8_placeOnWay_15 : decode cX8_placeOnWay 15 = .ok (.istore 4, 2) := by decide +kernel
theorem dX8_placeOnWay_17 : decode cX8_placeOnWay 17 = .ok (.aload_n 0, 1) := by decide +kernel
theorem dX8_placeOnWay_18 : decode cX8_placeOnWay 18 = .ok (.getfield 15, 3) := by decide +kernel
theorem dX8_placeOnWay_21 : decode cX8_placeOnWay 21 = .ok (.iload 4, 2) := by decide +kernel
theorem dX8_placeOnWay_23 : decode cX8_placeOnWay 23 = .ok (.iaload, 1) := by decide +kernel
theorem dX8_placeOnWay_24 : decode cX8_placeOnWay 24 = .ok (.ldc 49, 2) := by decide +kernel
theorem dX8_placeOnWay_26 : decode cX8_placeOnWay 26 = .ok (.if_icmp .lt 6, 3) := by decide +kernel
theorem dX8_placeOnWay_29 : decode cX8_placeOnWay 29 = .ok (.bipush (-9), 2) := by decide +kernel
theorem dX8_placeOnWay_31 : decode cX8_placeOnWay 31 = .ok (.ireturn, 1) := by decide +kernel
theorem dX8_placeOnWay_32 : decode cX8_placeOnWay 32 = .ok (.iload_n 3, 1) := by decide +kernel
theorem dX8_placeOnWay_33 : decode cX8_placeOnWay 33 = .ok (.aload_n 0, 1) := by decide +kernel
theorem dX8_placeOnWay_34 : decode cX8_placeOnWay 34 = .ok (.getfield 15, 3) := by decide +kernel
theorem dX8_placeOnWay_37 : decode cX8_placeOnWay 37 = .ok (.iload 4, 2) := by decide +kernel
theorem dX8_placeOnWay_39 : decode cX8_placeOnWay 39 = .ok (.iaload, 1) := by decide +kernel
theorem dX8_placeOnWay_40 : decode cX8_placeOnWay 40 = .ok (.bipush 16, 2) := by decide +kernel
theorem dX8_placeOnWay_42 : decode cX8_placeOnWay 42 = .ok (.irem, 1) := by decide +kernel
theorem dX8_placeOnWay_43 : decode cX8_placeOnWay 43 = .ok (.if_icmp .le 6, 3) := by decide +kernel
theorem dX8_placeOnWay_46 : decode cX8_placeOnWay 46 = .ok (.bipush (-5), 2) := by decide +kernel
theorem dX8_placeOnWay_48 : decode cX8_placeOnWay 48 = .ok (.ireturn, 1) := by decide +kernel
theorem dX8_placeOnWay_49 : decode cX8_placeOnWay 49 = .ok (.iconst 0, 1) := by decide +kernel
theorem dX8_placeOnWay_50 : decode cX8_placeOnWay 50 = .ok (.istore 5, 2) := by decide +kernel
theorem dX8_placeOnWay_52 : decode cX8_placeOnWay 52 = .ok (.iload 5, 2) := by decide +kernel
theorem dX8_placeOnWay_54 : decode cX8_placeOnWay 54 = .ok (.iload_n 3, 1) := by decide +kernel
theorem dX8_placeOnWay_55 : decode cX8_placeOnWay 55 = .ok (.if_icmp .ge 18, 3) := by decide +kernel
theorem dX8_placeOnWay_58 : decode cX8_placeOnWay 58 = .ok (.aload_n 0, 1) := by decide +kernel
theorem dX8_placeOnWay_59 : decode cX8_placeOnWay 59 = .ok (.iload 4, 2) := by decide +kernel
theorem dX8_placeOnWay_61 : decode cX8_placeOnWay 61 = .ok (.iload_n 2, 1) := by decide +kernel
theorem dX8_placeOnWay_62 : decode cX8_placeOnWay 62 = .ok (.invokevirtual 50, 3) := by decide +kernel
theorem dX8_placeOnWay_65 : decode cX8_placeOnWay 65 = .ok (.istore 4, 2) := by decide +kernel
theorem dX8_placeOnWay_67 : decode cX8_placeOnWay 67 = .ok (.iinc 5 1, 3) := by decide +kernel
theorem dX8_placeOnWay_70 : decode cX8_placeOnWay 70 = .ok (.goto (-18), 3) := by decide +kernel
theorem dX8_placeOnWay_73 : decode cX8_placeOnWay 73 = .ok (.iload 4, 2) := by decide +kernel
theorem dX8_placeOnWay_75 : decode cX8_placeOnWay 75 = .ok (.ireturn, 1) := by decide +kernel
theorem dX8_measure_0 : decode cX8_measure 0 = .ok (.aload_n 0, 1) := by decide +kernel
theorem dX8_measure_1 : decode cX8_measure 1 = .ok (.getfield 15, 3) := by decide +kernel
theorem dX8_measure_4 : decode cX8_measure 4 = .ok (.ldc 49, 2) := by decide +kernel
theorem dX8_measure_6 : decode cX8_measure 6 = .ok (.invokestatic 22, 3) := by decide +kernel
theorem dX8_measure_9 : decode cX8_measure 9 = .ok (.aload_n 0, 1) := by decide +kernel
theorem dX8_measure_10 : decode cX8_measure 10 = .ok (.getfield 15, 3) := by decide +kernel
theorem dX8_measure_13 : decode cX8_measure 13 = .ok (.aload_n 0, 1) := by decide +kernel
theorem dX8_measure_14 : decode cX8_measure 14 = .ok (.getfield 18, 3) := by decide +kernel
theorem dX8_measure_17 : decode cX8_measure 17 = .ok (.getfield 53, 3) := by decide +kernel
theorem dX8_measure_20 : decode cX8_measure 20 = .ok (.iload_n 1, 1) := by decide +kernel
theorem dX8_measure_21 : decode cX8_measure 21 = .ok (.iaload, 1) := by decide +kernel
theorem dX8_measure_22 : decode cX8_measure 22 = .ok (.iconst 0, 1) := by decide +kernel
theorem dX8_measure_23 : decode cX8_measure 23 = .ok (.iastore, 1) := by decide +kernel
theorem dX8_measure_24 : decode cX8_measure 24 = .ok (.iconst 1, 1) := by decide +kernel
theorem dX8_measure_25 : decode cX8_measure 25 = .ok (.istore_n 3, 1) := by decide +kernel
theorem dX8_measure_26 : decode cX8_measure 26 = .ok (.iconst 1, 1) := by decide +kernel
theorem dX8_measure_27 : decode cX8_measure 27 = .ok (.istore 4, 2) := by decide +kernel
theorem dX8_measure_29 : decode cX8_measure 29 = .ok (.iload_n 3, 1) := by decide +kernel
theorem dX8_measure_30 : decode cX8_measure 30 = .ok (.ifCond .eq 114, 3) := by decide +kernel
theorem dX8_measure_33 : decode cX8_measure 33 = .ok (.iload 4, 2) := by decide +kernel
theorem dX8_measure_35 : decode cX8_measure 35 = .ok (.bipush 6, 2) := by decide +kernel
theorem dX8_measure_37 : decode cX8_measure 37 = .ok (.if_icmp .ge 107, 3) := by decide +kernel
theorem dX8_measure_40 : decode cX8_measure 40 = .ok (.iconst 0, 1) := by decide +kernel
theorem dX8_measure_41 : decode cX8_measure 41 = .ok (.istore_n 3, 1) := by decide +kernel
theorem dX8_measure_42 : decode cX8_measure 42 = .ok (.iconst 0, 1) := by decide +kernel
theorem dX8_measure_43 : decode cX8_measure 43 = .ok (.istore 5, 2) := by decide +kernel
theorem dX8_measure_45 : decode cX8_measure 45 = .ok (.iload 5, 2) := by decide +kernel
theorem dX8_measure_47 : decode cX8_measure 47 = .ok (.aload_n 0, 1) := by decide +kernel
theorem dX8_measure_48 : decode cX8_measure 48 = .ok (.getfield 18, 3) := by decide +kernel
theorem dX8_measure_51 : decode cX8_measure 51 = .ok (.getfield 44, 3) := by decide +kernel
theorem dX8_measure_54 : decode cX8_measure 54 = .ok (.if_icmp .ge 84, 3) := by decide +kernel
theorem dX8_measure_57 : decode cX8_measure 57 = .ok (.iload_n 2, 1) := by decide +kernel
theorem dX8_measure_58 : decode cX8_measure 58 = .ok (.iload 5, 2) := by decide +kernel
theorem dX8_measure_60 : decode cX8_measure 60 = .ok (.ishr, 1) := by decide +kernel
theorem dX8_measure_61 : decode cX8_measure 61 = .ok (.iconst 1, 1) := by decide +kernel
theorem dX8_measure_62 : decode cX8_measure 62 = .ok (.iand, 1) := by decide +kernel
theorem dX8_measure_63 : decode cX8_measure 63 = .ok (.ifCond .ne 69, 3) := by decide +kernel
theorem dX8_measure_66 : decode cX8_measure 66 = .ok (.iload_n 3, 1) := by decide +kernel
theorem dX8_measure_67 : decode cX8_measure 67 = .ok (.aload_n 0, 1) := by decide +kernel
theorem dX8_measure_68 : decode cX8_measure 68 = .ok (.aload_n 0, 1) := by decide +kernel
theorem dX8_measure_69 : decode cX8_measure 69 = .ok (.getfield 18, 3) := by decide +kernel
theorem dX8_measure_72 : decode cX8_measure 72 = .ok (.getfield 56, 3) := by decide +kernel
theorem dX8_measure_75 : decode cX8_measure 75 = .ok (.iload 5, 2) := by decide +kernel
theorem dX8_measure_77 : decode cX8_measure 77 = .ok (.iaload, 1) := by decide +kernel
theorem dX8_measure_78 : decode cX8_measure 78 = .ok (.aload_n 0, 1) := by decide +kernel
theorem dX8_measure_79 : decode cX8_measure 79 = .ok (.getfield 18, 3) := by decide +kernel
theorem dX8_measure_82 : decode cX8_measure 82 = .ok (.getfield 59, 3) := by decide +kernel
theorem dX8_measure_85 : decode cX8_measure 85 = .ok (.iload 5, 2) := by decide +kernel
theorem dX8_measure_87 : decode cX8_measure 87 = .ok (.iaload, 1) := by decide +kernel
theorem dX8_measure_88 : decode cX8_measure 88 = .ok (.aload_n 0, 1) := by decide +kernel
theorem dX8_measure_89 : decode cX8_measure 89 = .ok (.iload 5, 2) := by decide +kernel
theorem dX8_measure_91 : decode cX8_measure 91 = .ok (.invokevirtual 62, 3) := by decide +kernel
theorem dX8_measure_94 : decode cX8_measure 94 = .ok (.invokevirtual 66, 3) := by decide +kernel
theorem dX8_measure_97 : decode cX8_measure 97 = .ok (.ior, 1) := by decide +kernel
theorem dX8_measure_98 : decode cX8_measure 98 = .ok (.istore_n 3, 1) := by decide +kernel
theorem dX8_measure_99 : decode cX8_measure 99 = .ok (.iload_n 3, 1) := by decide +kernel
theorem dX8_measure_100 : decode cX8_measure 100 = .ok (.aload_n 0, 1) := by decide +kernel
theorem dX8_measure_101 : decode cX8_measure 101 = .ok (.aload_n 0, 1) := by decide +kernel
theorem dX8_measure_102 : decode cX8_measure 102 = .ok (.getfield 18, 3) := by decide +kernel
theorem dX8_measure_105 : decode cX8_measure 105 = .ok (.getfield 59, 3) := by decide +kernel
theorem dX8_measure_108 : decode cX8_measure 108 = .ok (.iload 5, 2) := by decide +kernel
theorem dX8_measure_110 : decode cX8_measure 110 = .ok (.iaload, 1) := by decide +kernel
theorem dX8_measure_111 : decode cX8_measure 111 = .ok (.aload_n 0, 1) := by decide +kernel
theorem dX8_measure_112 : decode cX8_measure 112 = .ok (.getfield 18, 3) := by decide +kernel
theorem dX8_measure_115 : decode cX8_measure 115 = .ok (.getfield 56, 3) := by decide +kernel
theorem dX8_measure_118 : decode cX8_measure 118 = .ok (.iload 5, 2) := by decide +kernel
theorem dX8_measure_120 : decode cX8_measure 120 = .ok (.iaload, 1) := by decide +kernel
theorem dX8_measure_121 : decode cX8_measure 121 = .ok (.aload_n 0, 1) := by decide +kernel
theorem dX8_measure_122 : decode cX8_measure 122 = .ok (.iload 5, 2) := by decide +kernel
theorem dX8_measure_124 : decode cX8_measure 124 = .ok (.invokevirtual 62, 3) := by decide +kernel
theorem dX8_measure_127 : decode cX8_measure 127 = .ok (.invokevirtual 66, 3) := by decide +kernel
theorem dX8_measure_130 : decode cX8_measure 130 = .ok (.ior, 1) := by decide +kernel
theorem dX8_measure_131 : decode cX8_measure 131 = .ok (.istore_n 3, 1) := by decide +kernel
theorem dX8_measure_132 : decode cX8_measure 132 = .ok (.iinc 5 1, 3) := by decide +kernel
theorem dX8_measure_135 : decode cX8_measure 135 = .ok (.goto (-90), 3) := by decide +kernel
theorem dX8_measure_138 : decode cX8_measure 138 = .ok (.iinc 4 1, 3) := by decide +kernel
theorem dX8_measure_141 : decode cX8_measure 141 = .ok (.goto (-112), 3) := by decide +kernel
theorem dX8_measure_144 : decode cX8_measure 144 = .ok (.return_, 1) := by decide +kernel
theorem dX8_shorten_0 : decode cX8_shorten 0 = .ok (.aload_n 0, 1) := by decide +kernel
theorem dX8_shorten_1 : decode cX8_shorten 1 = .ok (.getfield 15, 3) := by decide +kernel
theorem dX8_shorten_4 : decode cX8_shorten 4 = .ok (.iload_n 2, 1) := by decide +kernel
theorem dX8_shorten_5 : decode cX8_shorten 5 = .ok (.iaload, 1) := by decide +kernel
theorem dX8_shorten_6 : decode cX8_shorten 6 = .ok (.iload_n 3, 1) := by decide +kernel
theorem dX8_shorten_7 : decode cX8_shorten 7 = .ok (.iadd, 1) := by decide +kernel
theorem dX8_shorten_8 : decode cX8_shorten 8 = .ok (.aload_n 0, 1) := by decide +kernel
theorem dX8_shorten_9 : decode cX8_shorten 9 = .ok (.getfield 15, 3) := by decide +kernel
theorem dX8_shorten_12 : decode cX8_shorten 12 = .ok (.iload_n 1, 1) := by decide +kernel
theorem dX8_shorten_13 : decode cX8_shorten 13 = .ok (.iaload, 1) := by decide +kernel
theorem dX8_shorten_14 : decode cX8_shorten 14 = .ok (.if_icmp .lt 5, 3) := by decide +kernel
theorem dX8_shorten_17 : decode cX8_shorten 17 = .ok (.iconst 0, 1) := by decide +kernel
theorem dX8_shorten_18 : decode cX8_shorten 18 = .ok (.ireturn, 1) := by decide +kernel
theorem dX8_shorten_19 : decode cX8_shorten 19 = .ok (.aload_n 0, 1) := by decide +kernel
theorem dX8_shorten_20 : decode cX8_shorten 20 = .ok (.getfield 15, 3) := by decide +kernel
theorem dX8_shorten_23 : decode cX8_shorten 23 = .ok (.iload_n 1, 1) := by decide +kernel
theorem dX8_shorten_24 : decode cX8_shorten 24 = .ok (.aload_n 0, 1) := by decide +kernel
theorem dX8_shorten_25 : decode cX8_shorten 25 = .ok (.getfield 15, 3) := by decide +kernel
theorem dX8_shorten_28 : decode cX8_shorten 28 = .ok (.iload_n 2, 1) := by decide +kernel
theorem dX8_shorten_29 : decode cX8_shorten 29 = .ok (.iaload, 1) := by decide +kernel
theorem dX8_shorten_30 : decode cX8_shorten 30 = .ok (.iload_n 3, 1) := by decide +kernel
theorem dX8_shorten_31 : decode cX8_shorten 31 = .ok (.iadd, 1) := by decide +kernel
theorem dX8_shorten_32 : decode cX8_shorten 32 = .ok (.iastore, 1) := by decide +kernel
theorem dX8_shorten_33 : decode cX8_shorten 33 = .ok (.iconst 1, 1) := by decide +kernel
theorem dX8_shorten_34 : decode cX8_shorten 34 = .ok (.ireturn, 1) := by decide +kernel
theorem dX8_leg_0 : decode cX8_leg 0 = .ok (.aload_n 0, 1) := by decide +kernel
theorem dX8_leg_1 : decode cX8_leg 1 = .ok (.getfield 18, 3) := by decide +kernel
theorem dX8_leg_4 : decode cX8_leg 4 = .ok (.getfield 70, 3) := by decide +kernel
theorem dX8_leg_7 : decode cX8_leg 7 = .ok (.iload_n 1, 1) := by decide +kernel
theorem dX8_leg_8 : decode cX8_leg 8 = .ok (.iaload, 1) := by decide +kernel
theorem dX8_leg_9 : decode cX8_leg 9 = .ok (.bipush 16, 2) := by decide +kernel
theorem dX8_leg_11 : decode cX8_leg 11 = .ok (.imul, 1) := by decide +kernel
theorem dX8_leg_12 : decode cX8_leg 12 = .ok (.iconst 1, 1) := by decide +kernel
theorem dX8_leg_13 : decode cX8_leg 13 = .ok (.iadd, 1) := by decide +kernel
theorem dX8_leg_14 : decode cX8_leg 14 = .ok (.ireturn, 1) := by decide +kernel
theorem dX8_nextPlace_0 : decode cX8_nextPlace 0 = .ok (.bipush 6, 2) := by decide +kernel
theorem dX8_nextPlace_2 : decode cX8_nextPlace 2 = .ok (.istore_n 3, 1) := by decide +kernel
theorem dX8_nextPlace_3 : decode cX8_nextPlace 3 = .ok (.iconst 0, 1) := by decide +kernel
theorem dX8_nextPlace_4 : decode cX8_nextPlace 4 = .ok (.istore 4, 2) := by decide +kernel
theorem dX8_nextPlace_6 : decode cX8_nextPlace 6 = .ok (.iload 4, 2) := by decide +kernel
theorem dX8_nextPlace_8 : decode cX8_nextPlace 8 = .ok (.aload_n 0, 1) := by decide +kernel
theorem dX8_nextPlace_9 : decode cX8_nextPlace 9 = .ok (.getfield 18, 3) := by decide +kernel
theorem dX8_nextPlace_12 : decode cX8_nextPlace 12 = .ok (.getfield 44, 3) := by decide +kernel
theorem dX8_nextPlace_15 : decode cX8_nextPlace 15 = .ok (.if_icmp .ge 62, 3) := by decide +kernel
theorem dX8_nextPlace_18 : decode cX8_nextPlace 18 = .ok (.iload_n 2, 1) := by decide +kernel
theorem dX8_nextPlace_19 : decode cX8_nextPlace 19 = .ok (.iload 4, 2) := by decide +kernel
theorem dX8_nextPlace_21 : decode cX8_nextPlace 21 = .ok (.ishr, 1) := by decide +kernel
theorem dX8_nextPlace_22 : decode cX8_nextPlace 22 = .ok (.iconst 1, 1) := by decide +kernel
theorem dX8_nextPlace_23 : decode cX8_nextPlace 23 = .ok (.iand, 1) := by decide +kernel
theorem dX8_nextPlace_24 : decode cX8_nextPlace 24 = .ok (.ifCond .ne 47, 3) := by decide +kernel
theorem dX8_nextPlace_27 : decode cX8_nextPlace 27 = .ok (.aload_n 0, 1) := by decide +kernel
theorem dX8_nextPlace_28 : decode cX8_nextPlace 28 = .ok (.iload 4, 2) := by decide +kernel
theorem dX8_nextPlace_30 : decode cX8_nextPlace 30 = .ok (.iload_n 1, 1) := by decide +kernel
theorem dX8_nextPlace_31 : decode cX8_nextPlace 31 = .ok (.invokevirtual 72, 3) := by decide +kernel
theorem dX8_nextPlace_34 : decode cX8_nextPlace 34 = .ok (.istore 5, 2) := by decide +kernel
theorem dX8_nextPlace_36 : decode cX8_nextPlace 36 = .ok (.iload 5, 2) := by decide +kernel
theorem dX8_nextPlace_38 : decode cX8_nextPlace 38 = .ok (.ifCond .lt 33, 3) := by decide +kernel
theorem dX8_nextPlace_41 : decode cX8_nextPlace 41 = .ok (.aload_n 0, 1) := by decide +kernel
theorem dX8_nextPlace_42 : decode cX8_nextPlace 42 = .ok (.getfield 15, 3) := by decide +kernel
theorem dX8_nextPlace_45 : decode cX8_nextPlace 45 = .ok (.iload 5, 2) := by decide +kernel
theorem dX8_nextPlace_47 : decode cX8_nextPlace 47 = .ok (.iaload, 1) := by decide +kernel
theorem dX8_nextPlace_48 : decode cX8_nextPlace 48 = .ok (.aload_n 0, 1) := by decide +kernel
theorem dX8_nextPlace_49 : decode cX8_nextPlace 49 = .ok (.iload 4, 2) := by decide +kernel
theorem dX8_nextPlace_51 : decode cX8_nextPlace 51 = .ok (.invokevirtual 62, 3) := by decide +kernel
theorem dX8_nextPlace_54 : decode cX8_nextPlace 54 = .ok (.iadd, 1) := by decide +kernel
theorem dX8_nextPlace_55 : decode cX8_nextPlace 55 = .ok (.aload_n 0, 1) := by decide +kernel
theorem dX8_nextPlace_56 : decode cX8_nextPlace 56 = .ok (.getfield 15, 3) := by decide +kernel
theorem dX8_nextPlace_59 : decode cX8_nextPlace 59 = .ok (.iload_n 1, 1) := by decide +kernel
theorem dX8_nextPlace_60 : decode cX8_nextPlace 60 = .ok (.iaload, 1) := by decide +kernel
theorem dX8_nextPlace_61 : decode cX8_nextPlace 61 = .ok (.if_icmp .ne 10, 3) := by decide +kernel
theorem dX8_nextPlace_64 : decode cX8_nextPlace 64 = .ok (.iload_n 3, 1) := by decide +kernel
theorem dX8_nextPlace_65 : decode cX8_nextPlace 65 = .ok (.iload 5, 2) := by decide +kernel
theorem dX8_nextPlace_67 : decode cX8_nextPlace 67 = .ok (.invokestatic 75, 3) := by decide +kernel
theorem dX8_nextPlace_70 : decode cX8_nextPlace 70 = .ok (.istore_n 3, 1) := by decide +kernel
theorem dX8_nextPlace_71 : decode cX8_nextPlace 71 = .ok (.iinc 4 1, 3) := by decide +kernel
theorem dX8_nextPlace_74 : decode cX8_nextPlace 74 = .ok (.goto (-68), 3) := by decide +kernel
theorem dX8_nextPlace_77 : decode cX8_nextPlace 77 = .ok (.iload_n 3, 1) := by decide +kernel
theorem dX8_nextPlace_78 : decode cX8_nextPlace 78 = .ok (.bipush 6, 2) := by decide +kernel
theorem dX8_nextPlace_80 : decode cX8_nextPlace 80 = .ok (.if_icmp .ge 7, 3) := by decide +kernel
theorem dX8_nextPlace_83 : decode cX8_nextPlace 83 = .ok (.iload_n 3, 1) := by decide +kernel
theorem dX8_nextPlace_84 : decode cX8_nextPlace 84 = .ok (.goto 4, 3) := by decide +kernel
theorem dX8_nextPlace_87 : decode cX8_nextPlace 87 = .ok (.iload_n 1, 1) := by decide +kernel
theorem dX8_nextPlace_88 : decode cX8_nextPlace 88 = .ok (.ireturn, 1) := by decide +kernel
theorem dX8_otherEnd_0 : decode cX8_otherEnd 0 = .ok (.aload_n 0, 1) := by decide +kernel
theorem dX8_otherEnd_1 : decode cX8_otherEnd 1 = .ok (.getfield 18, 3) := by decide +kernel
theorem dX8_otherEnd_4 : decode cX8_otherEnd 4 = .ok (.getfield 56, 3) := by decide +kernel
theorem dX8_otherEnd_7 : decode cX8_otherEnd 7 = .ok (.iload_n 1, 1) := by decide +kernel
theorem dX8_otherEnd_8 : decode cX8_otherEnd 8 = .ok (.iaload, 1) := by decide +kernel
theorem dX8_otherEnd_9 : decode cX8_otherEnd 9 = .ok (.iload_n 2, 1) := by decide +kernel
theorem dX8_otherEnd_10 : decode cX8_otherEnd 10 = .ok (.if_icmp .ne 13, 3) := by decide +kernel
theorem dX8_otherEnd_13 : decode cX8_otherEnd 13 = .ok (.aload_n 0, 1) := by decide +kernel
theorem dX8_otherEnd_14 : decode cX8_otherEnd 14 = .ok (.getfield 18, 3) := by decide +kernel
theorem dX8_otherEnd_17 : decode cX8_otherEnd 17 = .ok (.getfield 59, 3) := by decide +kernel
theorem dX8_otherEnd_20 : decode cX8_otherEnd 20 = .ok (.iload_n 1, 1) := by decide +kernel
theorem dX8_otherEnd_21 : decode cX8_otherEnd 21 = .ok (.iaload, 1) := by decide +kernel
theorem dX8_otherEnd_22 : decode cX8_otherEnd 22 = .ok (.ireturn, 1) := by decide +kernel
theorem dX8_otherEnd_23 : decode cX8_otherEnd 23 = .ok (.aload_n 0, 1) := by decide +kernel
theorem dX8_otherEnd_24 : decode cX8_otherEnd 24 = .ok (.getfield 18, 3) := by decide +kernel
theorem dX8_otherEnd_27 : decode cX8_otherEnd 27 = .ok (.getfield 59, 3) := by decide +kernel
theorem dX8_otherEnd_30 : decode cX8_otherEnd 30 = .ok (.iload_n 1, 1) := by decide +kernel
theorem dX8_otherEnd_31 : decode cX8_otherEnd 31 = .ok (.iaload, 1) := by decide +kernel
theorem dX8_otherEnd_32 : decode cX8_otherEnd 32 = .ok (.iload_n 2, 1) := by decide +kernel
theorem dX8_otherEnd_33 : decode cX8_otherEnd 33 = .ok (.if_icmp .ne 15, 3) := by decide +kernel
theorem dX8_otherEnd_36 : decode cX8_otherEnd 36 = .ok (.aload_n 0, 1) := by decide +kernel
theorem dX8_otherEnd_37 : decode cX8_otherEnd 37 = .ok (.getfield 18, 3) := by decide +kernel
theorem dX8_otherEnd_40 : decode cX8_otherEnd 40 = .ok (.getfield 56, 3) := by decide +kernel
theorem dX8_otherEnd_43 : decode cX8_otherEnd 43 = .ok (.iload_n 1, 1) := by decide +kernel
theorem dX8_otherEnd_44 : decode cX8_otherEnd 44 = .ok (.iaload, 1) := by decide +kernel
theorem dX8_otherEnd_45 : decode cX8_otherEnd 45 = .ok (.goto 4, 3) := by decide +kernel
theorem dX8_otherEnd_48 : decode cX8_otherEnd 48 = .ok (.iconst (-1), 1) := by decide +kernel
theorem dX8_otherEnd_49 : decode cX8_otherEnd 49 = .ok (.ireturn, 1) := by decide +kernel
end
section
theorem dX4_init_0 : decode cX4_init 0 = .ok (.aload_n 0, 1) := by decide +kernel
theorem dX4_init_1 : decode cX4_init 1 = .ok (.invokespecial 3, 3) := by decide +kernel
theorem dX4_init_4 : decode cX4_init 4 = .ok (.aload_n 0, 1) := by decide +kernel
theorem dX4_init_5 : decode cX4_init 5 = .ok (.iconst 0, 1) := by decide +kernel
theorem dX4_init_6 : decode cX4_init 6 = .ok (.putfield 9, 3) := by decide +kernel
theorem dX4_init_9 : decode cX4_init 9 = .ok (.aload_n 0, 1) := by decide +kernel
theorem dX4_init_10 : decode cX4_init 10 = .ok (.iconst 0, 1) := by decide +kernel
theorem dX4_init_11 : decode cX4_init 11 = .ok (.putfield 15, 3) := by decide +kernel
theorem dX4_init_14 : decode cX4_init 14 = .ok (.aload_n 0, 1) := by decide +kernel
theorem dX4_init_15 : decode cX4_init 15 = .ok (.iconst 0, 1) := by decide +kernel
theorem dX4_init_16 : decode cX4_init 16 = .ok (.putfield 18, 3) := by decide +kernel
theorem dX4_init_19 : decode cX4_init 19 = .ok (.aload_n 0, 1) := by decide +kernel
theorem dX4_init_20 : decode cX4_init 20 = .ok (.iconst 0, 1) := by decide +kernel
theorem dX4_init_21 : decode cX4_init 21 = .ok (.putfield 21, 3) := by decide +kernel
theorem dX4_init_24 : decode cX4_init 24 = .ok (.aload_n 0, 1) := by decide +kernel
theorem dX4_init_25 : decode cX4_init 25 = .ok (.aload_n 1, 1) := by decide +kernel
theorem dX4_init_26 : decode cX4_init 26 = .ok (.putfield 24, 3) := by decide +kernel
theorem dX4_init_29 : decode cX4_init 29 = .ok (.aload_n 0, 1) := by decide +kernel
theorem dX4_init_30 : decode cX4_init 30 = .ok (.aload_n 2, 1) := by decide +kernel
theorem dX4_init_31 : decode cX4_init 31 = .ok (.putfield 28, 3) := by decide +kernel
theorem dX4_init_34 : decode cX4_init 34 = .ok (.aload_n 0, 1) := by decide +kernel
theorem dX4_init_35 : decode cX4_init 35 = .ok (.aload_n 3, 1) := by decide +kernel
theorem dX4_init_36 : decode cX4_init 36 = .ok (.putfield 32, 3) := by decide +kernel
theorem dX4_init_39 : decode cX4_init 39 = .ok (.return_, 1) := by decide +kernel
theorem dX4_readAll_0 : decode cX4_readAll 0 = .ok (.aload_n 0, 1) := by decide +kernel
theorem dX4_readAll_1 : decode cX4_readAll 1 = .ok (.getfield 28, 3) := by decide +kernel
theorem dX4_readAll_4 : decode cX4_readAll 4 = .ok (.invokevirtual 36, 3) := by decide +kernel
theorem dX4_readAll_7 : decode cX4_readAll 7 = .ok (.aload_n 0, 1) := by decide +kernel
theorem dX4_readAll_8 : decode cX4_readAll 8 = .ok (.getfield 32, 3) := by decide +kernel
theorem dX4_readAll_11 : decode cX4_readAll 11 = .ok (.invokevirtual 41, 3) := by decide +kernel
theorem dX4_readAll_14 : decode cX4_readAll 14 = .ok (.aload_n 0, 1) := by decide +kernel
theorem dX4_readAll_15 : decode cX4_readAll 15 = .ok (.iconst 0, 1) := by decide +kernel
theorem dX4_readAll_16 : decode cX4_readAll 16 = .ok (.putfield 9, 3) := by decide +kernel
theorem dX4_readAll_19 : decode cX4_readAll 19 = .ok (.iconst 0, 1) := by decide +kernel
theorem dX4_readAll_20 : decode cX4_readAll 20 = .ok (.istore_n 1, 1) := by decide +kernel
theorem dX4_readAll_21 : decode cX4_readAll 21 = .ok (.iload_n 1, 1) := by decide +kernel
theorem dX4_readAll_22 : decode cX4_readAll 22 = .ok (.sipush 300, 3) := by decide +kernel
theorem dX4_readAll_25 : decode cX4_readAll 25 = .ok (.if_icmp .ge 108, 3) := by decide +kernel
theorem dX4_readAll_28 : decode cX4_readAll 28 = .ok (.aload_n 0, 1) := by decide +kernel
theorem dX4_readAll_29 : decode cX4_readAll 29 = .ok (.invokevirtual 44, 3) := by decide +kernel
theorem dX4_readAll_32 : decode cX4_readAll 32 = .ok (.aload_n 0, 1) := by decide +kernel
theorem dX4_readAll_33 : decode cX4_readAll 33 = .ok (.getfield 18, 3) := by decide +kernel
theorem dX4_readAll_36 : decode cX4_readAll 36 = .ok (.ifCond .ne 5, 3) := by decide +kernel
theorem dX4_readAll_39 : decode cX4_readAll 39 = .ok (.iload_n 1, 1) := by decide +kernel
theorem dX4_readAll_40 : decode cX4_readAll 40 = .ok (.ireturn, 1) := by decide +kernel
theorem dX4_readAll_41 : decode cX4_readAll 41 = .ok (.iconst 0, 1) := by decide +kernel
theorem dX4_readAll_42 : decode cX4_readAll 42 = .ok (.istore_n 2, 1) := by decide +kernel
theorem dX4_readAll_43 : decode cX4_readAll 43 = .ok (.aload_n 0, 1) := by decide +kernel
theorem dX4_readAll_44 : decode cX4_readAll 44 = .ok (.getfield 18, 3) := by decide +kernel
theorem dX4_readAll_47 : decode cX4_readAll 47 = .ok (.tableswitch 73 3 7 #[33, 41, 49, 57, 65], 33) := by decide +kernel
theorem dX4_readAll_80 : decode cX4_readAll 80 = .ok (.aload_n 0, 1) := by decide +kernel
theorem dX4_readAll_81 : decode cX4_readAll 81 = .ok (.invokevirtual 47, 3) := by decide +kernel
theorem dX4_readAll_84 : decode cX4_readAll 84 = .ok (.istore_n 2, 1) := by decide +kernel
theorem dX4_readAll_85 : decode cX4_readAll 85 = .ok (.goto 35, 3) := by decide +kernel
theorem dX4_readAll_88 : decode cX4_readAll 88 = .ok (.aload_n 0, 1) := by decide +kernel
theorem dX4_readAll_89 : decode cX4_readAll 89 = .ok (.invokevirtual 51, 3) := by decide +kernel
theorem dX4_readAll_92 : decode cX4_readAll 92 = .ok (.istore_n 2, 1) := by decide +kernel
theorem dX4_readAll_93 : decode cX4_readAll 93 = .ok (.goto 27, 3) := by decide +kernel
theorem dX4_readAll_96 : decode cX4_readAll 96 = .ok (.aload_n 0, 1) := by decide +kernel
theorem dX4_readAll_97 : decode cX4_readAll 97 = .ok (.invokevirtual 54, 3) := by decide +kernel
theorem dX4_readAll_100 : decode cX4_readAll 100 = .ok (.istore_n 2, 1) := by decide +kernel
theorem dX4_readAll_101 : decode cX4_readAll 101 = .ok (.goto 19, 3) := by decide +kernel
theorem dX4_readAll_104 : decode cX4_readAll 104 = .ok (.aload_n 0, 1) := by decide +kernel
theorem dX4_readAll_105 : decode cX4_readAll 105 = .ok (.invokevirtual 57, 3) := by decide +kernel
theorem dX4_readAll_108 : decode cX4_readAll 108 = .ok (.istore_n 2, 1) := by decide +kernel
theorem dX4_readAll_109 : decode cX4_readAll 109 = .ok (.goto 11, 3) := by decide +kernel
theorem dX4_readAll_112 : decode cX4_readAll 112 = .ok (.aload_n 0, 1) := by decide +kernel
theorem dX4_readAll_113 : decode cX4_readAll 113 = .ok (.invokevirtual 60, 3) := by decide +kernel
theorem dX4_readAll_116 : decode cX4_readAll 116 = .ok (.istore_n 2, 1) := by decide +kernel
theorem dX4_readAll_117 : decode cX4_readAll 117 = .ok (.goto 3, 3) := by decide +kernel
theorem dX4_readAll_120 : decode cX4_readAll 120 = .ok (.iload_n 2, 1) := by decide +kernel
theorem dX4_readAll_121 : decode cX4_readAll 121 = .ok (.ifCond .ne 6, 3) := by decide +kernel
theorem dX4_readAll_124 : decode cX4_readAll 124 = .ok (.goto 9, 3) := by decide +kernel
theorem dX4_readAll_127 : decode cX4_readAll 127 = .ok (.iinc 1 1, 3) := by decide +kernel
theorem dX4_readAll_130 : decode cX4_readAll 130 = .ok (.goto (-109), 3) := by decide +kernel
theorem dX4_readAll_133 : decode cX4_readAll 133 = .ok (.bipush (-10), 2) := by decide +kernel
theorem dX4_readAll_135 : decode cX4_readAll 135 = .ok (.aload_n 0, 1) := by decide +kernel
theorem dX4_readAll_136 : decode cX4_readAll 136 = .ok (.getfield 15, 3) := by decide +kernel
theorem dX4_readAll_139 : decode cX4_readAll 139 = .ok (.isub, 1) := by decide +kernel
theorem dX4_readAll_140 : decode cX4_readAll 140 = .ok (.ireturn, 1) := by decide +kernel
theorem dX4_readPiece_0 : decode cX4_readPiece 0 = .ok (.aload_n 0, 1) := by decide +kernel
theorem dX4_readPiece_1 : decode cX4_readPiece 1 = .ok (.getfield 28, 3) := by decide +kernel
theorem dX4_readPiece_4 : decode cX4_readPiece 4 = .ok (.getfield 63, 3) := by decide +kernel
theorem dX4_readPiece_7 : decode cX4_readPiece 7 = .ok (.bipush 8, 2) := by decide +kernel
theorem dX4_readPiece_9 : decode cX4_readPiece 9 = .ok (.if_icmp .lt 5, 3) := by decide +kernel
theorem dX4_readPiece_12 : decode cX4_readPiece 12 = .ok (.iconst 0, 1) := by decide +kernel
theorem dX4_readPiece_13 : decode cX4_readPiece 13 = .ok (.ireturn, 1) := by decide +kernel
theorem dX4_readPiece_14 : decode cX4_readPiece 14 = .ok (.aload_n 0, 1) := by decide +kernel
theorem dX4_readPiece_15 : decode cX4_readPiece 15 = .ok (.iconst 5, 1) := by decide +kernel
theorem dX4_readPiece_16 : decode cX4_readPiece 16 = .ok (.invokevirtual 66, 3) := by decide +kernel
theorem dX4_readPiece_19 : decode cX4_readPiece 19 = .ok (.istore_n 1, 1) := by decide +kernel
theorem dX4_readPiece_20 : decode cX4_readPiece 20 = .ok (.iload_n 1, 1) := by decide +kernel
theorem dX4_readPiece_21 : decode cX4_readPiece 21 = .ok (.iconst (-1), 1) := by decide +kernel
theorem dX4_readPiece_22 : decode cX4_readPiece 22 = .ok (.if_icmp .ne 5, 3) := by decide +kernel
theorem dX4_readPiece_25 : decode cX4_readPiece 25 = .ok (.iconst 0, 1) := by decide +kernel
theorem dX4_readPiece_26 : decode cX4_readPiece 26 = .ok (.ireturn, 1) := by decide +kernel
theorem dX4_readPiece_27 : decode cX4_readPiece 27 = .ok (.aload_n 0, 1) := by decide +kernel
theorem dX4_readPiece_28 : decode cX4_readPiece 28 = .ok (.iconst 5, 1) := by decide +kernel
theorem dX4_readPiece_29 : decode cX4_readPiece 29 = .ok (.invokevirtual 66, 3) := by decide +kernel
theorem dX4_readPiece_32 : decode cX4_readPiece 32 = .ok (.istore_n 2, 1) := by decide +kernel
theorem dX4_readPiece_33 : decode cX4_readPiece 33 = .ok (.iload_n 2, 1) := by decide +kernel
theorem dX4_readPiece_34 : decode cX4_readPiece 34 = .ok (.iconst (-1), 1) := by decide +kernel
theorem dX4_readPiece_35 : decode cX4_readPiece 35 = .ok (.if_icmp .eq 8, 3) := by decide +kernel
theorem dX4_readPiece_38 : decode cX4_readPiece 38 = .ok (.iload_n 2, 1) := by decide +kernel
theorem dX4_readPiece_39 : decode cX4_readPiece 39 = .ok (.iload_n 1, 1) := by decide +kernel
theorem dX4_readPiece_40 : decode cX4_readPiece 40 = .ok (.if_icmp .ne 5, 3) := by decide +kernel
theorem dX4_readPiece_43 : decode cX4_readPiece 43 = .ok (.iconst 0, 1) := by decide +kernel
theorem dX4_readPiece_44 : decode cX4_readPiece 44 = .ok (.ireturn, 1) := by decide +kernel
theorem dX4_readPiece_45 : decode cX4_readPiece 45 = .ok (.aload_n 0, 1) := by decide +kernel
theorem dX4_readPiece_46 : decode cX4_readPiece 46 = .ok (.bipush 30, 2) := by decide +kernel
theorem dX4_readPiece_48 : decode cX4_readPiece 48 = .ok (.invokevirtual 66, 3) := by decide +kernel
theorem dX4_readPiece_51 : decode cX4_readPiece 51 = .ok (.istore_n 3, 1) := by decide +kernel
theorem dX4_readPiece_52 : decode cX4_readPiece 52 = .ok (.iload_n 3, 1) := by decide +kernel
theorem dX4_readPiece_53 : decode cX4_readPiece 53 = .ok (.iconst 1, 1) := by decide +kernel
theorem dX4_readPiece_54 : decode cX4_readPiece 54 = .ok (.if_icmp .lt 10, 3) := by decide +kernel
theorem dX4_readPiece_57 : decode cX4_readPiece 57 = .ok (.aload_n 0, 1) := by decide +kernel
theorem dX4_readPiece_58 : decode cX4_readPiece 58 = .ok (.invokevirtual 70, 3) := by decide +kernel
theorem dX4_readPiece_61 : decode cX4_readPiece 61 = .ok (.ifCond .ne 5, 3) := by decide +kernel
theorem dX4_readPiece_64 : decode cX4_readPiece 64 = .ok (.iconst 0, 1) := by decide +kernel
theorem dX4_readPiece_65 : decode cX4_readPiece 65 = .ok (.ireturn, 1) := by decide +kernel
theorem dX4_readPiece_66 : decode cX4_readPiece 66 = .ok (.aload_n 0, 1) := by decide +kernel
theorem dX4_readPiece_67 : decode cX4_readPiece 67 = .ok (.getfield 28, 3) := by decide +kernel
theorem dX4_readPiece_70 : decode cX4_readPiece 70 = .ok (.iload_n 1, 1) := by decide +kernel
theorem dX4_readPiece_71 : decode cX4_readPiece 71 = .ok (.iload_n 2, 1) := by decide +kernel
theorem dX4_readPiece_72 : decode cX4_readPiece 72 = .ok (.iload_n 3, 1) := by decide +kernel
theorem dX4_readPiece_73 : decode cX4_readPiece 73 = .ok (.invokevirtual 73, 3) := by decide +kernel
theorem dX4_readPiece_76 : decode cX4_readPiece 76 = .ok (.iconst 1, 1) := by decide +kernel
theorem dX4_readPiece_77 : decode cX4_readPiece 77 = .ok (.ireturn, 1) := by decide +kernel
theorem dX4_readFamily_0 : decode cX4_readFamily 0 = .ok (.aload_n 0, 1) := by decide +kernel
theorem dX4_readFamily_1 : decode cX4_readFamily 1 = .ok (.getfield 28, 3) := by decide +kernel
theorem dX4_readFamily_4 : decode cX4_readFamily 4 = .ok (.getfield 77, 3) := by decide +kernel
theorem dX4_readFamily_7 : decode cX4_readFamily 7 = .ok (.iconst 4, 1) := by decide +kernel
theorem dX4_readFamily_8 : decode cX4_readFamily 8 = .ok (.if_icmp .lt 5, 3) := by decide +kernel
theorem dX4_readFamily_11 : decode cX4_readFamily 11 = .ok (.iconst 0, 1) := by decide +kernel
theorem dX4_readFamily_12 : decode cX4_readFamily 12 = .ok (.ireturn, 1) := by decide +kernel
theorem dX4_readFamily_13 : decode cX4_readFamily 13 = .ok (.aload_n 0, 1) := by decide +kernel
theorem dX4_readFamily_14 : decode cX4_readFamily 14 = .ok (.iconst 5, 1) := by decide +kernel
theorem dX4_readFamily_15 : decode cX4_readFamily 15 = .ok (.invokevirtual 66, 3) := by decide +kernel
theorem dX4_readFamily_18 : decode cX4_readFamily 18 = .ok (.istore_n 1, 1) := by decide +kernel
theorem dX4_readFamily_19 : decode cX4_readFamily 19 = .ok (.iload_n 1, 1) := by decide +kernel
theorem dX4_readFamily_20 : decode cX4_readFamily 20 = .ok (.iconst (-1), 1) := by decide +kernel
theorem dX4_readFamily_21 : decode cX4_readFamily 21 = .ok (.if_icmp .ne 5, 3) := by decide +kernel
theorem dX4_readFamily_24 : decode cX4_readFamily 24 = .ok (.iconst 0, 1) := by decide +kernel
theorem dX4_readFamily_25 : decode cX4_readFamily 25 = .ok (.ireturn, 1) := by decide +kernel
theorem dX4_readFamily_26 : decode cX4_readFamily 26 = .ok (.aload_n 0, 1) := by decide +kernel
theorem dX4_readFamily_27 : decode cX4_readFamily 27 = .ok (.iconst 5, 1) := by decide +kernel
theorem dX4_readFamily_28 : decode cX4_readFamily 28 = .ok (.invokevirtual 66, 3) := by decide +kernel
theorem dX4_readFamily_31 : decode cX4_readFamily 31 = .ok (.istore_n 2, 1) := by decide +kernel
theorem dX4_readFamily_32 : decode cX4_readFamily 32 = .ok (.iload_n 2, 1) := by decide +kernel
theorem dX4_readFamily_33 : decode cX4_readFamily 33 = .ok (.iconst (-1), 1) := by decide +kernel
theorem dX4_readFamily_34 : decode cX4_readFamily 34 = .ok (.if_icmp .ne 5, 3) := by decide +kernel
theorem dX4_readFamily_37 : decode cX4_readFamily 37 = .ok (.iconst 0, 1) := by decide +kernel
theorem dX4_readFamily_38 : decode cX4_readFamily 38 = .ok (.ireturn, 1) := by decide +kernel
theorem dX4_readFamily_39 : decode cX4_readFamily 39 = .ok (.aload_n 0, 1) := by decide +kernel
theorem dX4_readFamily_40 : decode cX4_readFamily 40 = .ok (.bipush 9, 2) := by decide +kernel
theorem dX4_readFamily_42 : decode cX4_readFamily 42 = .ok (.invokevirtual 66, 3) := by decide +kernel
theorem dX4_readFamily_45 : decode cX4_readFamily 45 = .ok (.istore_n 3, 1) := by decide +kernel
theorem dX4_readFamily_46 : decode cX4_readFamily 46 = .ok (.iload_n 3, 1) := by decide +kernel
theorem dX4_readFamily_47 : decode cX4_readFamily 47 = .ok (.iconst 1, 1) := by decide +kernel
theorem dX4_readFamily_48 : decode cX4_readFamily 48 = .ok (.if_icmp .lt 10, 3) := by decide +kernel
theorem dX4_readFamily_51 : decode cX4_readFamily 51 = .ok (.aload_n 0, 1) := by decide +kernel
theorem dX4_readFamily_52 : decode cX4_readFamily 52 = .ok (.invokevirtual 70, 3) := by decide +kernel
theorem dX4_readFamily_55 : decode cX4_readFamily 55 = .ok (.ifCond .ne 5, 3) := by decide +kernel
theorem dX4_readFamily_58 : decode cX4_readFamily 58 = .ok (.iconst 0, 1) := by decide +kernel
theorem dX4_readFamily_59 : decode cX4_readFamily 59 = .ok (.ireturn, 1) := by decide +kernel
theorem dX4_readFamily_60 : decode cX4_readFamily 60 = .ok (.aload_n 0, 1) := by decide +kernel
theorem dX4_readFamily_61 : decode cX4_readFamily 61 = .ok (.getfield 28, 3) := by decide +kernel
theorem dX4_readFamily_64 : decode cX4_readFamily 64 = .ok (.iload_n 1, 1) := by decide +kernel
theorem dX4_readFamily_65 : decode cX4_readFamily 65 = .ok (.iload_n 2, 1) := by decide +kernel
theorem dX4_readFamily_66 : decode cX4_readFamily 66 = .ok (.iload_n 3, 1) := by decide +kernel
theorem dX4_readFamily_67 : decode cX4_readFamily 67 = .ok (.invokevirtual 80, 3) := by decide +kernel
theorem dX4_readFamily_70 : decode cX4_readFamily 70 = .ok (.iconst 1, 1) := by decide +kernel
theorem dX4_readFamily_71 : decode cX4_readFamily 71 = .ok (.ireturn, 1) := by decide +kernel
theorem dX4_readPaved_0 : decode cX4_readPaved 0 = .ok (.aload_n 0, 1) := by decide +kernel
theorem dX4_readPaved_1 : decode cX4_readPaved 1 = .ok (.aload_n 0, 1) := by decide +kernel
theorem dX4_readPaved_2 : decode cX4_readPaved 2 = .ok (.getfield 28, 3) := by decide +kernel
theorem dX4_readPaved_5 : decode cX4_readPaved 5 = .ok (.getfield 63, 3) := by decide +kernel
theorem dX4_readPaved_8 : decode cX4_readPaved 8 = .ok (.iconst 1, 1) := by decide +kernel
theorem dX4_readPaved_9 : decode cX4_readPaved 9 = .ok (.isub, 1) := by decide +kernel
theorem dX4_readPaved_10 : decode cX4_readPaved 10 = .ok (.invokevirtual 66, 3) := by decide +kernel
theorem dX4_readPaved_13 : decode cX4_readPaved 13 = .ok (.istore_n 1, 1) := by decide +kernel
theorem dX4_readPaved_14 : decode cX4_readPaved 14 = .ok (.iload_n 1, 1) := by decide +kernel
theorem dX4_readPaved_15 : decode cX4_readPaved 15 = .ok (.iconst (-1), 1) := by decide +kernel
theorem dX4_readPaved_16 : decode cX4_readPaved 16 = .ok (.if_icmp .ne 5, 3) := by decide +kernel
theorem dX4_readPaved_19 : decode cX4_readPaved 19 = .ok (.iconst 0, 1) := by decide +kernel
theorem dX4_readPaved_20 : decode cX4_readPaved 20 = .ok (.ireturn, 1) := by decide +kernel
theorem dX4_readPaved_21 : decode cX4_readPaved 21 = .ok (.aload_n 0, 1) := by decide +kernel
theorem dX4_readPaved_22 : decode cX4_readPaved 22 = .ok (.aload_n 0, 1) := by decide +kernel
theorem dX4_readPaved_23 : decode cX4_readPaved 23 = .ok (.getfield 28, 3) := by decide +kernel
theorem dX4_readPaved_26 : decode cX4_readPaved 26 = .ok (.getfield 77, 3) := by decide +kernel
theorem dX4_readPaved_29 : decode cX4_readPaved 29 = .ok (.iconst 1, 1) := by decide +kernel
theorem dX4_readPaved_30 : decode cX4_readPaved 30 = .ok (.isub, 1) := by decide +kernel
theorem dX4_readPaved_31 : decode cX4_readPaved 31 = .ok (.invokevirtual 66, 3) := by decide +kernel
theorem dX4_readPaved_34 : decode cX4_readPaved 34 = .ok (.istore_n 2, 1) := by decide +kernel
theorem dX4_readPaved_35 : decode cX4_readPaved 35 = .ok (.iload_n 2, 1) := by decide +kernel
theorem dX4_readPaved_36 : decode cX4_readPaved 36 = .ok (.iconst (-1), 1) := by decide +kernel
theorem dX4_readPaved_37 : decode cX4_readPaved 37 = .ok (.if_icmp .eq 10, 3) := by decide +kernel
theorem dX4_readPaved_40 : decode cX4_readPaved 40 = .ok (.aload_n 0, 1) := by decide +kernel
theorem dX4_readPaved_41 : decode cX4_readPaved 41 = .ok (.invokevirtual 70, 3) := by decide +kernel
theorem dX4_readPaved_44 : decode cX4_readPaved 44 = .ok (.ifCond .ne 5, 3) := by decide +kernel
theorem dX4_readPaved_47 : decode cX4_readPaved 47 = .ok (.iconst 0, 1) := by decide +kernel
theorem dX4_readPaved_48 : decode cX4_readPaved 48 = .ok (.ireturn, 1) := by decide +kernel
theorem dX4_readPaved_49 : decode cX4_readPaved 49 = .ok (.aload_n 0, 1) := by decide +kernel
theorem dX4_readPaved_50 : decode cX4_readPaved 50 = .ok (.getfield 32, 3) := by decide +kernel
theorem dX4_readPaved_53 : decode cX4_readPaved 53 = .ok (.iload_n 1, 1) := by decide +kernel
theorem dX4_readPaved_54 : decode cX4_readPaved 54 = .ok (.invokevirtual 83, 3) := by decide +kernel
theorem dX4_readPaved_57 : decode cX4_readPaved 57 = .ok (.aload_n 0, 1) := by decide +kernel
theorem dX4_readPaved_58 : decode cX4_readPaved 58 = .ok (.getfield 32, 3) := by decide +kernel
theorem dX4_readPaved_61 : decode cX4_readPaved 61 = .ok (.getfield 87, 3) := by decide +kernel
theorem dX4_readPaved_64 : decode cX4_readPaved 64 = .ok (.iload_n 1, 1) := by decide +kernel
theorem dX4_readPaved_65 : decode cX4_readPaved 65 = .ok (.iload_n 2, 1) := by decide +kernel
theorem dX4_readPaved_66 : decode cX4_readPaved 66 = .ok (.iastore, 1) := by decide +kernel
theorem dX4_readPaved_67 : decode cX4_readPaved 67 = .ok (.iconst 1, 1) := by decide +kernel
theorem dX4_readPaved_68 : decode cX4_readPaved 68 = .ok (.ireturn, 1) := by decide +kernel
theorem dX4_readStone_0 : decode cX4_readStone 0 = .ok (.aload_n 0, 1) := by decide +kernel
theorem dX4_readStone_1 : decode cX4_readStone 1 = .ok (.aload_n 0, 1) := by decide +kernel
theorem dX4_readStone_2 : decode cX4_readStone 2 = .ok (.getfield 28, 3) := by decide +kernel
theorem dX4_readStone_5 : decode cX4_readStone 5 = .ok (.getfield 63, 3) := by decide +kernel
theorem dX4_readStone_8 : decode cX4_readStone 8 = .ok (.iconst 1, 1) := by decide +kernel
theorem dX4_readStone_9 : decode cX4_readStone 9 = .ok (.isub, 1) := by decide +kernel
theorem dX4_readStone_10 : decode cX4_readStone 10 = .ok (.invokevirtual 66, 3) := by decide +kernel
theorem dX4_readStone_13 : decode cX4_readStone 13 = .ok (.istore_n 1, 1) := by decide +kernel
theorem dX4_readStone_14 : decode cX4_readStone 14 = .ok (.iload_n 1, 1) := by decide +kernel
theorem dX4_readStone_15 : decode cX4_readStone 15 = .ok (.iconst (-1), 1) := by decide +kernel
theorem dX4_readStone_16 : decode cX4_readStone 16 = .ok (.if_icmp .eq 10, 3) := by decide +kernel
theorem dX4_readStone_19 : decode cX4_readStone 19 = .ok (.aload_n 0, 1) := by decide +kernel
theorem dX4_readStone_20 : decode cX4_readStone 20 = .ok (.invokevirtual 70, 3) := by decide +kernel
theorem dX4_readStone_23 : decode cX4_readStone 23 = .ok (.ifCond .ne 5, 3) := by decide +kernel
theorem dX4_readStone_26 : decode cX4_readStone 26 = .ok (.iconst 0, 1) := by decide +kernel
theorem dX4_readStone_27 : decode cX4_readStone 27 = .ok (.ireturn, 1) := by decide +kernel
theorem dX4_readStone_28 : decode cX4_readStone 28 = .ok (.aload_n 0, 1) := by decide +kernel
theorem dX4_readStone_29 : decode cX4_readStone 29 = .ok (.getfield 32, 3) := by decide +kernel
theorem dX4_readStone_32 : decode cX4_readStone 32 = .ok (.iload_n 1, 1) := by decide +kernel
theorem dX4_readStone_33 : decode cX4_readStone 33 = .ok (.invokevirtual 91, 3) := by decide +kernel
theorem dX4_readStone_36 : decode cX4_readStone 36 = .ok (.iconst 1, 1) := by decide +kernel
theorem dX4_readStone_37 : decode cX4_readStone 37 = .ok (.ireturn, 1) := by decide +kernel
theorem dX4_readFlood_0 : decode cX4_readFlood 0 = .ok (.aload_n 0, 1) := by decide +kernel
theorem dX4_readFlood_1 : decode cX4_readFlood 1 = .ok (.aload_n 0, 1) := by decide +kernel
theorem dX4_readFlood_2 : decode cX4_readFlood 2 = .ok (.getfield 28, 3) := by decide +kernel
theorem dX4_readFlood_5 : decode cX4_readFlood 5 = .ok (.getfield 63, 3) := by decide +kernel
theorem dX4_readFlood_8 : decode cX4_readFlood 8 = .ok (.iconst 1, 1) := by decide +kernel
theorem dX4_readFlood_9 : decode cX4_readFlood 9 = .ok (.isub, 1) := by decide +kernel
theorem dX4_readFlood_10 : decode cX4_readFlood 10 = .ok (.invokevirtual 66, 3) := by decide +kernel
theorem dX4_readFlood_13 : decode cX4_readFlood 13 = .ok (.istore_n 1, 1) := by decide +kernel
theorem dX4_readFlood_14 : decode cX4_readFlood 14 = .ok (.iload_n 1, 1) := by decide +kernel
theorem dX4_readFlood_15 : decode cX4_readFlood 15 = .ok (.iconst (-1), 1) := by decide +kernel
theorem dX4_readFlood_16 : decode cX4_readFlood 16 = .ok (.if_icmp .ne 5, 3) := by decide +kernel
theorem dX4_readFlood_19 : decode cX4_readFlood 19 = .ok (.iconst 0, 1) := by decide +kernel
theorem dX4_readFlood_20 : decode cX4_readFlood 20 = .ok (.ireturn, 1) := by decide +kernel
theorem dX4_readFlood_21 : decode cX4_readFlood 21 = .ok (.aload_n 0, 1) := by decide +kernel
theorem dX4_readFlood_22 : decode cX4_readFlood 22 = .ok (.bipush 9, 2) := by decide +kernel
theorem dX4_readFlood_24 : decode cX4_readFlood 24 = .ok (.invokevirtual 66, 3) := by decide +kernel
theorem dX4_readFlood_27 : decode cX4_readFlood 27 = .ok (.istore_n 2, 1) := by decide +kernel
theorem dX4_readFlood_28 : decode cX4_readFlood 28 = .ok (.iload_n 2, 1) := by decide +kernel
theorem dX4_readFlood_29 : decode cX4_readFlood 29 = .ok (.iconst (-1), 1) := by decide +kernel
theorem dX4_readFlood_30 : decode cX4_readFlood 30 = .ok (.if_icmp .eq 10, 3) := by decide +kernel
theorem dX4_readFlood_33 : decode cX4_readFlood 33 = .ok (.aload_n 0, 1) := by decide +kernel
theorem dX4_readFlood_34 : decode cX4_readFlood 34 = .ok (.invokevirtual 70, 3) := by decide +kernel
theorem dX4_readFlood_37 : decode cX4_readFlood 37 = .ok (.ifCond .ne 5, 3) := by decide +kernel
theorem dX4_readFlood_40 : decode cX4_readFlood 40 = .ok (.iconst 0, 1) := by decide +kernel
theorem dX4_readFlood_41 : decode cX4_readFlood 41 = .ok (.ireturn, 1) := by decide +kernel
theorem dX4_readFlood_42 : decode cX4_readFlood 42 = .ok (.aload_n 0, 1) := by decide +kernel
theorem dX4_readFlood_43 : decode cX4_readFlood 43 = .ok (.getfield 32, 3) := by decide +kernel
theorem dX4_readFlood_46 : decode cX4_readFlood 46 = .ok (.getfield 94, 3) := by decide +kernel
theorem dX4_readFlood_49 : decode cX4_readFlood 49 = .ok (.iload_n 1, 1) := by decide +kernel
theorem dX4_readFlood_50 : decode cX4_readFlood 50 = .ok (.iload_n 2, 1) := by decide +kernel
theorem dX4_readFlood_51 : decode cX4_readFlood 51 = .ok (.iastore, 1) := by decide +kernel
theorem dX4_readFlood_52 : decode cX4_readFlood 52 = .ok (.iconst 1, 1) := by decide +kernel
theorem dX4_readFlood_53 : decode cX4_readFlood 53 = .ok (.ireturn, 1) := by decide +kernel
theorem dX4_number_0 : decode cX4_number 0 = .ok (.aload_n 0, 1) := by decide +kernel
theorem dX4_number_1 : decode cX4_number 1 = .ok (.invokevirtual 44, 3) := by decide +kernel
theorem dX4_number_4 : decode cX4_number 4 = .ok (.aload_n 0, 1) := by decide +kernel
theorem dX4_number_5 : decode cX4_number 5 = .ok (.getfield 18, 3) := by decide +kernel
theorem dX4_number_8 : decode cX4_number 8 = .ok (.iconst 1, 1) := by decide +kernel
theorem dX4_number_9 : decode cX4_number 9 = .ok (.if_icmp .ne 18, 3) := by decide +kernel
theorem dX4_number_12 : decode cX4_number 12 = .ok (.aload_n 0, 1) := by decide +kernel
theorem dX4_number_13 : decode cX4_number 13 = .ok (.getfield 21, 3) := by decide +kernel
theorem dX4_number_16 : decode cX4_number 16 = .ok (.iload_n 1, 1) := by decide +kernel
theorem dX4_number_17 : decode cX4_number 17 = .ok (.if_icmp .gt 10, 3) := by decide +kernel
theorem dX4_number_20 : decode cX4_number 20 = .ok (.aload_n 0, 1) := by decide +kernel
theorem dX4_number_21 : decode cX4_number 21 = .ok (.getfield 21, 3) := by decide +kernel
theorem dX4_number_24 : decode cX4_number 24 = .ok (.goto 4, 3) := by decide +kernel
theorem dX4_number_27 : decode cX4_number 27 = .ok (.iconst (-1), 1) := by decide +kernel
theorem dX4_number_28 : decode cX4_number 28 = .ok (.ireturn, 1) := by decide +kernel
theorem dX4_stops_0 : decode cX4_stops 0 = .ok (.aload_n 0, 1) := by decide +kernel
theorem dX4_stops_1 : decode cX4_stops 1 = .ok (.invokevirtual 44, 3) := by decide +kernel
theorem dX4_stops_4 : decode cX4_stops 4 = .ok (.aload_n 0, 1) := by decide +kernel
theorem dX4_stops_5 : decode cX4_stops 5 = .ok (.getfield 18, 3) := by decide +kernel
theorem dX4_stops_8 : decode cX4_stops 8 = .ok (.iconst 2, 1) := by decide +kernel
theorem dX4_stops_9 : decode cX4_stops 9 = .ok (.if_icmp .ne 7, 3) := by decide +kernel
theorem dX4_stops_12 : decode cX4_stops 12 = .ok (.iconst 1, 1) := by decide +kernel
theorem dX4_stops_13 : decode cX4_stops 13 = .ok (.goto 4, 3) := by decide +kernel
theorem dX4_stops_16 : decode cX4_stops 16 = .ok (.iconst 0, 1) := by decide +kernel
theorem dX4_stops_17 : decode cX4_stops 17 = .ok (.ireturn, 1) := by decide +kernel
theorem dX4_nextToken_0 : decode cX4_nextToken 0 = .ok (.aload_n 0, 1) := by decide +kernel
theorem dX4_nextToken_1 : decode cX4_nextToken 1 = .ok (.getfield 9, 3) := by decide +kernel
theorem dX4_nextToken_4 : decode cX4_nextToken 4 = .ok (.aload_n 0, 1) := by decide +kernel
theorem dX4_nextToken_5 : decode cX4_nextToken 5 = .ok (.getfield 24, 3) := by decide +kernel
theorem dX4_nextToken_8 : decode cX4_nextToken 8 = .ok (.getfield 97, 3) := by decide +kernel
theorem dX4_nextToken_11 : decode cX4_nextToken 11 = .ok (.if_icmp .ge 33, 3) := by decide +kernel
theorem dX4_nextToken_14 : decode cX4_nextToken 14 = .ok (.aload_n 0, 1) := by decide +kernel
theorem dX4_nextToken_15 : decode cX4_nextToken 15 = .ok (.getfield 24, 3) := by decide +kernel
theorem dX4_nextToken_18 : decode cX4_nextToken 18 = .ok (.getfield 102, 3) := by decide +kernel
theorem dX4_nextToken_21 : decode cX4_nextToken 21 = .ok (.aload_n 0, 1) := by decide +kernel
theorem dX4_nextToken_22 : decode cX4_nextToken 22 = .ok (.getfield 9, 3) := by decide +kernel
theorem dX4_nextToken_25 : decode cX4_nextToken 25 = .ok (.baload, 1) := by decide +kernel
theorem dX4_nextToken_26 : decode cX4_nextToken 26 = .ok (.bipush 32, 2) := by decide +kernel
theorem dX4_nextToken_28 : decode cX4_nextToken 28 = .ok (.if_icmp .ne 16, 3) := by decide +kernel
theorem dX4_nextToken_31 : decode cX4_nextToken 31 = .ok (.aload_n 0, 1) := by decide +kernel
theorem dX4_nextToken_32 : decode cX4_nextToken 32 = .ok (.dup, 1) := by decide +kernel
theorem dX4_nextToken_33 : decode cX4_nextToken 33 = .ok (.getfield 9, 3) := by decide +kernel
theorem dX4_nextToken_36 : decode cX4_nextToken 36 = .ok (.iconst 1, 1) := by decide +kernel
theorem dX4_nextToken_37 : decode cX4_nextToken 37 = .ok (.iadd, 1) := by decide +kernel
theorem dX4_nextToken_38 : decode cX4_nextToken 38 = .ok (.putfield 9, 3) := by decide +kernel
theorem dX4_nextToken_41 : decode cX4_nextToken 41 = .ok (.goto (-41), 3) := by decide +kernel
theorem dX4_nextToken_44 : decode cX4_nextToken 44 = .ok (.aload_n 0, 1) := by decide +kernel
theorem dX4_nextToken_45 : decode cX4_nextToken 45 = .ok (.aload_n 0, 1) := by decide +kernel
theorem dX4_nextToken_46 : decode cX4_nextToken 46 = .ok (.getfield 9, 3) := by decide +kernel
theorem dX4_nextToken_49 : decode cX4_nextToken 49 = .ok (.putfield 15, 3) := by decide +kernel
theorem dX4_nextToken_52 : decode cX4_nextToken 52 = .ok (.aload_n 0, 1) := by decide +kernel
theorem dX4_nextToken_53 : decode cX4_nextToken 53 = .ok (.getfield 9, 3) := by decide +kernel
theorem dX4_nextToken_56 : decode cX4_nextToken 56 = .ok (.aload_n 0, 1) := by decide +kernel
theorem dX4_nextToken_57 : decode cX4_nextToken 57 = .ok (.getfield 24, 3) := by decide +kernel
theorem dX4_nextToken_60 : decode cX4_nextToken 60 = .ok (.getfield 97, 3) := by decide +kernel
theorem dX4_nextToken_63 : decode cX4_nextToken 63 = .ok (.if_icmp .lt 11, 3) := by decide +kernel
theorem dX4_nextToken_66 : decode cX4_nextToken 66 = .ok (.aload_n 0, 1) := by decide +kernel
theorem dX4_nextToken_67 : decode cX4_nextToken 67 = .ok (.iconst 0, 1) := by decide +kernel
theorem dX4_nextToken_68 : decode cX4_nextToken 68 = .ok (.putfield 18, 3) := by decide +kernel
theorem dX4_nextToken_71 : decode cX4_nextToken 71 = .ok (.goto 90, 3) := by decide +kernel
theorem dX4_nextToken_74 : decode cX4_nextToken 74 = .ok (.aload_n 0, 1) := by decide +kernel
theorem dX4_nextToken_75 : decode cX4_nextToken 75 = .ok (.getfield 24, 3) := by decide +kernel
theorem dX4_nextToken_78 : decode cX4_nextToken 78 = .ok (.getfield 102, 3) := by decide +kernel
theorem dX4_nextToken_81 : decode cX4_nextToken 81 = .ok (.aload_n 0, 1) := by decide +kernel
theorem dX4_nextToken_82 : decode cX4_nextToken 82 = .ok (.getfield 9, 3) := by decide +kernel
theorem dX4_nextToken_85 : decode cX4_nextToken 85 = .ok (.baload, 1) := by decide +kernel
theorem dX4_nextToken_86 : decode cX4_nextToken 86 = .ok (.invokestatic 106, 3) := by decide +kernel
theorem dX4_nextToken_89 : decode cX4_nextToken 89 = .ok (.ifCond .eq 10, 3) := by decide +kernel
theorem dX4_nextToken_92 : decode cX4_nextToken 92 = .ok (.aload_n 0, 1) := by decide +kernel
theorem dX4_nextToken_93 : decode cX4_nextToken 93 = .ok (.invokevirtual 110, 3) := by decide +kernel
theorem dX4_nextToken_96 : decode cX4_nextToken 96 = .ok (.goto 65, 3) := by decide +kernel
theorem dX4_nextToken_99 : decode cX4_nextToken 99 = .ok (.aload_n 0, 1) := by decide +kernel
theorem dX4_nextToken_100 : decode cX4_nextToken 100 = .ok (.getfield 24, 3) := by decide +kernel
theorem dX4_nextToken_103 : decode cX4_nextToken 103 = .ok (.getfield 102, 3) := by decide +kernel
theorem dX4_nextToken_106 : decode cX4_nextToken 106 = .ok (.aload_n 0, 1) := by decide +kernel
theorem dX4_nextToken_107 : decode cX4_nextToken 107 = .ok (.getfield 9, 3) := by decide +kernel
theorem dX4_nextToken_110 : decode cX4_nextToken 110 = .ok (.baload, 1) := by decide +kernel
theorem dX4_nextToken_111 : decode cX4_nextToken 111 = .ok (.invokestatic 113, 3) := by decide +kernel
theorem dX4_nextToken_114 : decode cX4_nextToken 114 = .ok (.ifCond .eq 10, 3) := by decide +kernel
theorem dX4_nextToken_117 : decode cX4_nextToken 117 = .ok (.aload_n 0, 1) := by decide +kernel
theorem dX4_nextToken_118 : decode cX4_nextToken 118 = .ok (.invokevirtual 116, 3) := by decide +kernel
theorem dX4_nextToken_121 : decode cX4_nextToken 121 = .ok (.goto 40, 3) := by decide +kernel
theorem dX4_nextToken_124 : decode cX4_nextToken 124 = .ok (.aload_n 0, 1) := by decide +kernel
theorem dX4_nextToken_125 : decode cX4_nextToken 125 = .ok (.aload_n 0, 1) := by decide +kernel
theorem dX4_nextToken_126 : decode cX4_nextToken 126 = .ok (.getfield 24, 3) := by decide +kernel
theorem dX4_nextToken_129 : decode cX4_nextToken 129 = .ok (.getfield 102, 3) := by decide +kernel
theorem dX4_nextToken_132 : decode cX4_nextToken 132 = .ok (.aload_n 0, 1) := by decide +kernel
theorem dX4_nextToken_133 : decode cX4_nextToken 133 = .ok (.getfield 9, 3) := by decide +kernel
theorem dX4_nextToken_136 : decode cX4_nextToken 136 = .ok (.baload, 1) := by decide +kernel
theorem dX4_nextToken_137 : decode cX4_nextToken 137 = .ok (.bipush 59, 2) := by decide +kernel
theorem dX4_nextToken_139 : decode cX4_nextToken 139 = .ok (.if_icmp .ne 7, 3) := by decide +kernel
theorem dX4_nextToken_142 : decode cX4_nextToken 142 = .ok (.iconst 2, 1) := by decide +kernel
theorem dX4_nextToken_143 : decode cX4_nextToken 143 = .ok (.goto 5, 3) := by decide +kernel
theorem dX4_nextToken_146 : decode cX4_nextToken 146 = .ok (.bipush 8, 2) := by decide +kernel
theorem dX4_nextToken_148 : decode cX4_nextToken 148 = .ok (.putfield 18, 3) := by decide +kernel
theorem dX4_nextToken_151 : decode cX4_nextToken 151 = .ok (.aload_n 0, 1) := by decide +kernel
theorem dX4_nextToken_152 : decode cX4_nextToken 152 = .ok (.dup, 1) := by decide +kernel
theorem dX4_nextToken_153 : decode cX4_nextToken 153 = .ok (.getfield 9, 3) := by decide +kernel
theorem dX4_nextToken_156 : decode cX4_nextToken 156 = .ok (.iconst 1, 1) := by decide +kernel
theorem dX4_nextToken_157 : decode cX4_nextToken 157 = .ok (.iadd, 1) := by decide +kernel
theorem dX4_nextToken_158 : decode cX4_nextToken 158 = .ok (.putfield 9, 3) := by decide +kernel
theorem dX4_nextToken_161 : decode cX4_nextToken 161 = .ok (.return_, 1) := by decide +kernel
theorem dX4_takeWord_0 : decode cX4_takeWord 0 = .ok (.aload_n 0, 1) := by decide +kernel
theorem dX4_takeWord_1 : decode cX4_takeWord 1 = .ok (.getfield 9, 3) := by decide +kernel
theorem dX4_takeWord_4 : decode cX4_takeWord 4 = .ok (.aload_n 0, 1) := by decide +kernel
theorem dX4_takeWord_5 : decode cX4_takeWord 5 = .ok (.getfield 24, 3) := by decide +kernel
theorem dX4_takeWord_8 : decode cX4_takeWord 8 = .ok (.getfield 97, 3) := by decide +kernel
theorem dX4_takeWord_11 : decode cX4_takeWord 11 = .ok (.if_icmp .ge 34, 3) := by decide +kernel
theorem dX4_takeWord_14 : decode cX4_takeWord 14 = .ok (.aload_n 0, 1) := by decide +kernel
theorem dX4_takeWord_15 : decode cX4_takeWord 15 = .ok (.getfield 24, 3) := by decide +kernel
theorem dX4_takeWord_18 : decode cX4_takeWord 18 = .ok (.getfield 102, 3) := by decide +kernel
theorem dX4_takeWord_21 : decode cX4_takeWord 21 = .ok (.aload_n 0, 1) := by decide +kernel
theorem dX4_takeWord_22 : decode cX4_takeWord 22 = .ok (.getfield 9, 3) := by decide +kernel
theorem dX4_takeWord_25 : decode cX4_takeWord 25 = .ok (.baload, 1) := by decide +kernel
theorem dX4_takeWord_26 : decode cX4_takeWord 26 = .ok (.invokestatic 106, 3) := by decide +kernel
theorem dX4_takeWord_29 : decode cX4_takeWord 29 = .ok (.ifCond .eq 16, 3) := by decide +kernel
theorem dX4_takeWord_32 : decode cX4_takeWord 32 = .ok (.aload_n 0, 1) := by decide +kernel
theorem dX4_takeWord_33 : decode cX4_takeWord 33 = .ok (.dup, 1) := by decide +kernel
theorem dX4_takeWord_34 : decode cX4_takeWord 34 = .ok (.getfield 9, 3) := by decide +kernel
theorem dX4_takeWord_37 : decode cX4_takeWord 37 = .ok (.iconst 1, 1) := by decide +kernel
theorem dX4_takeWord_38 : decode cX4_takeWord 38 = .ok (.iadd, 1) := by decide +kernel
theorem dX4_takeWord_39 : decode cX4_takeWord 39 = .ok (.putfield 9, 3) := by decide +kernel
theorem dX4_takeWord_42 : decode cX4_takeWord 42 = .ok (.goto (-42), 3) := by decide +kernel
theorem dX4_takeWord_45 : decode cX4_takeWord 45 = .ok (.aload_n 0, 1) := by decide +kernel
theorem dX4_takeWord_46 : decode cX4_takeWord 46 = .ok (.ldc 119, 2) := by decide +kernel
theorem dX4_takeWord_48 : decode cX4_takeWord 48 = .ok (.invokevirtual 121, 3) := by decide +kernel
theorem dX4_takeWord_51 : decode cX4_takeWord 51 = .ok (.ifCond .eq 11, 3) := by decide +kernel
theorem dX4_takeWord_54 : decode cX4_takeWord 54 = .ok (.aload_n 0, 1) := by decide +kernel
theorem dX4_takeWord_55 : decode cX4_takeWord 55 = .ok (.iconst 3, 1) := by decide +kernel
theorem dX4_takeWord_56 : decode cX4_takeWord 56 = .ok (.putfield 18, 3) := by decide +kernel
theorem dX4_takeWord_59 : decode cX4_takeWord 59 = .ok (.goto 75, 3) := by decide +kernel
theorem dX4_takeWord_62 : decode cX4_takeWord 62 = .ok (.aload_n 0, 1) := by decide +kernel
theorem dX4_takeWord_63 : decode cX4_takeWord 63 = .ok (.ldc 125, 2) := by decide +kernel
theorem dX4_takeWord_65 : decode cX4_takeWord 65 = .ok (.invokevirtual 121, 3) := by decide +kernel
theorem dX4_takeWord_68 : decode cX4_takeWord 68 = .ok (.ifCond .eq 11, 3) := by decide +kernel
theorem dX4_takeWord_71 : decode cX4_takeWord 71 = .ok (.aload_n 0, 1) := by decide +kernel
theorem dX4_takeWord_72 : decode cX4_takeWord 72 = .ok (.iconst 4, 1) := by decide +kernel
theorem dX4_takeWord_73 : decode cX4_takeWord 73 = .ok (.putfield 18, 3) := by decide +kernel
theorem dX4_takeWord_76 : decode cX4_takeWord 76 = .ok (.goto 58, 3) := by decide +kernel
theorem dX4_takeWord_79 : decode cX4_takeWord 79 = .ok (.aload_n 0, 1) := by decide +kernel
theorem dX4_takeWord_80 : decode cX4_takeWord 80 = .ok (.ldc 127, 2) := by decide +kernel
theorem dX4_takeWord_82 : decode cX4_takeWord 82 = .ok (.invokevirtual 121, 3) := by decide +kernel
theorem dX4_takeWord_85 : decode cX4_takeWord 85 = .ok (.ifCond .eq 11, 3) := by decide +kernel
theorem dX4_takeWord_88 : decode cX4_takeWord 88 = .ok (.aload_n 0, 1) := by decide +kernel
theorem dX4_takeWord_89 : decode cX4_takeWord 89 = .ok (.iconst 5, 1) := by decide +kernel
theorem dX4_takeWord_90 : decode cX4_takeWord 90 = .ok (.putfield 18, 3) := by decide +kernel
theorem dX4_takeWord_93 : decode cX4_takeWord 93 = .ok (.goto 41, 3) := by decide +kernel
theorem dX4_takeWord_96 : decode cX4_takeWord 96 = .ok (.aload_n 0, 1) := by decide +kernel
theorem dX4_takeWord_97 : decode cX4_takeWord 97 = .ok (.ldc 129, 2) := by decide +kernel
theorem dX4_takeWord_99 : decode cX4_takeWord 99 = .ok (.invokevirtual 121, 3) := by decide +kernel
theorem dX4_takeWord_102 : decode cX4_takeWord 102 = .ok (.ifCond .eq 12, 3) := by decide +kernel
theorem dX4_takeWord_105 : decode cX4_takeWord 105 = .ok (.aload_n 0, 1) := by decide +kernel
theorem dX4_takeWord_106 : decode cX4_takeWord 106 = .ok (.bipush 6, 2) := by decide +kernel
theorem dX4_takeWord_108 : decode cX4_takeWord 108 = .ok (.putfield 18, 3) := by decide +kernel
theorem dX4_takeWord_111 : decode cX4_takeWord 111 = .ok (.goto 23, 3) := by decide +kernel
theorem dX4_takeWord_114 : decode cX4_takeWord 114 = .ok (.aload_n 0, 1) := by decide +kernel
theorem dX4_takeWord_115 : decode cX4_takeWord 115 = .ok (.aload_n 0, 1) := by decide +kernel
theorem dX4_takeWord_116 : decode cX4_takeWord 116 = .ok (.ldc 131, 2) := by decide +kernel
theorem dX4_takeWord_118 : decode cX4_takeWord 118 = .ok (.invokevirtual 121, 3) := by decide +kernel
theorem dX4_takeWord_121 : decode cX4_takeWord 121 = .ok (.ifCond .eq 8, 3) := by decide +kernel
theorem dX4_takeWord_124 : decode cX4_takeWord 124 = .ok (.bipush 7, 2) := by decide +kernel
theorem dX4_takeWord_126 : decode cX4_takeWord 126 = .ok (.goto 5, 3) := by decide +kernel
theorem dX4_takeWord_129 : decode cX4_takeWord 129 = .ok (.bipush 8, 2) := by decide +kernel
theorem dX4_takeWord_131 : decode cX4_takeWord 131 = .ok (.putfield 18, 3) := by decide +kernel
theorem dX4_takeWord_134 : decode cX4_takeWord 134 = .ok (.return_, 1) := by decide +kernel
theorem dX4_takeNumber_0 : decode cX4_takeNumber 0 = .ok (.aload_n 0, 1) := by decide +kernel
theorem dX4_takeNumber_1 : decode cX4_takeNumber 1 = .ok (.iconst 0, 1) := by decide +kernel
theorem dX4_takeNumber_2 : decode cX4_takeNumber 2 = .ok (.putfield 21, 3) := by decide +kernel
theorem dX4_takeNumber_5 : decode cX4_takeNumber 5 = .ok (.aload_n 0, 1) := by decide +kernel
theorem dX4_takeNumber_6 : decode cX4_takeNumber 6 = .ok (.getfield 9, 3) := by decide +kernel
theorem dX4_takeNumber_9 : decode cX4_takeNumber 9 = .ok (.aload_n 0, 1) := by decide +kernel
theorem dX4_takeNumber_10 : decode cX4_takeNumber 10 = .ok (.getfield 24, 3) := by decide +kernel
theorem dX4_takeNumber_13 : decode cX4_takeNumber 13 = .ok (.getfield 97, 3) := by decide +kernel
theorem dX4_takeNumber_16 : decode cX4_takeNumber 16 = .ok (.if_icmp .ge 66, 3) := by decide +kernel
theorem dX4_takeNumber_19 : decode cX4_takeNumber 19 = .ok (.aload_n 0, 1) := by decide +kernel
theorem dX4_takeNumber_20 : decode cX4_takeNumber 20 = .ok (.getfield 24, 3) := by decide +kernel
theorem dX4_takeNumber_23 : decode cX4_takeNumber 23 = .ok (.getfield 102, 3) := by decide +kernel
theorem dX4_takeNumber_26 : decode cX4_takeNumber 26 = .ok (.aload_n 0, 1) := by decide +kernel
theorem dX4_takeNumber_27 : decode cX4_takeNumber 27 = .ok (.getfield 9, 3) := by decide +kernel
theorem dX4_takeNumber_30 : decode cX4_takeNumber 30 = .ok (.baload, 1) := by decide +kernel
theorem dX4_takeNumber_31 : decode cX4_takeNumber 31 = .ok (.invokestatic 113, 3) := by decide +kernel
theorem dX4_takeNumber_34 : decode cX4_takeNumber 34 = .ok (.ifCond .eq 48, 3) := by decide +kernel
theorem dX4_takeNumber_37 : decode cX4_takeNumber 37 = .ok (.aload_n 0, 1) := by decide +kernel
theorem dX4_takeNumber_38 : decode cX4_takeNumber 38 = .ok (.aload_n 0, 1) := by decide +kernel
theorem dX4_takeNumber_39 : decode cX4_takeNumber 39 = .ok (.getfield 21, 3) := by decide +kernel
theorem dX4_takeNumber_42 : decode cX4_takeNumber 42 = .ok (.bipush 10, 2) := by decide +kernel
theorem dX4_takeNumber_44 : decode cX4_takeNumber 44 = .ok (.imul, 1) := by decide +kernel
theorem dX4_takeNumber_45 : decode cX4_takeNumber 45 = .ok (.aload_n 0, 1) := by decide +kernel
theorem dX4_takeNumber_46 : decode cX4_takeNumber 46 = .ok (.getfield 24, 3) := by decide +kernel
theorem dX4_takeNumber_49 : decode cX4_takeNumber 49 = .ok (.getfield 102, 3) := by decide +kernel
theorem dX4_takeNumber_52 : decode cX4_takeNumber 52 = .ok (.aload_n 0, 1) := by decide +kernel
theorem dX4_takeNumber_53 : decode cX4_takeNumber 53 = .ok (.getfield 9, 3) := by decide +kernel
theorem dX4_takeNumber_56 : decode cX4_takeNumber 56 = .ok (.baload, 1) := by decide +kernel
theorem dX4_takeNumber_57 : decode cX4_takeNumber 57 = .ok (.iadd, 1) := by decide +kernel
theorem dX4_takeNumber_58 : decode cX4_takeNumber 58 = .ok (.bipush 48, 2) := by decide +kernel
theorem dX4_takeNumber_60 : decode cX4_takeNumber 60 = .ok (.isub, 1) := by decide +kernel
theorem dX4_takeNumber_61 : decode cX4_takeNumber 61 = .ok (.bipush 100, 2) := by decide +kernel
theorem dX4_takeNumber_63 : decode cX4_takeNumber 63 = .ok (.invokestatic 133, 3) := by decide +kernel
theorem dX4_takeNumber_66 : decode cX4_takeNumber 66 = .ok (.putfield 21, 3) := by decide +kernel
theorem dX4_takeNumber_69 : decode cX4_takeNumber 69 = .ok (.aload_n 0, 1) := by decide +kernel
theorem dX4_takeNumber_70 : decode cX4_takeNumber 70 = .ok (.dup, 1) := by decide +kernel
theorem dX4_takeNumber_71 : decode cX4_takeNumber 71 = .ok (.getfield 9, 3) := by decide +kernel
theorem dX4_takeNumber_74 : decode cX4_takeNumber 74 = .ok (.iconst 1, 1) := by decide +kernel
theorem dX4_takeNumber_75 : decode cX4_takeNumber 75 = .ok (.iadd, 1) := by decide +kernel
theorem dX4_takeNumber_76 : decode cX4_takeNumber 76 = .ok (.putfield 9, 3) := by decide +kernel
theorem dX4_takeNumber_79 : decode cX4_takeNumber 79 = .ok (.goto (-74), 3) := by decide +kernel
theorem dX4_takeNumber_82 : decode cX4_takeNumber 82 = .ok (.aload_n 0, 1) := by decide +kernel
theorem dX4_takeNumber_83 : decode cX4_takeNumber 83 = .ok (.getfield 24, 3) := by decide +kernel
theorem dX4_takeNumber_86 : decode cX4_takeNumber 86 = .ok (.getfield 102, 3) := by decide +kernel
theorem dX4_takeNumber_89 : decode cX4_takeNumber 89 = .ok (.aload_n 0, 1) := by decide +kernel
theorem dX4_takeNumber_90 : decode cX4_takeNumber 90 = .ok (.getfield 15, 3) := by decide +kernel
theorem dX4_takeNumber_93 : decode cX4_takeNumber 93 = .ok (.baload, 1) := by decide +kernel
theorem dX4_takeNumber_94 : decode cX4_takeNumber 94 = .ok (.bipush 48, 2) := by decide +kernel
theorem dX4_takeNumber_96 : decode cX4_takeNumber 96 = .ok (.if_icmp .ne 20, 3) := by decide +kernel
theorem dX4_takeNumber_99 : decode cX4_takeNumber 99 = .ok (.aload_n 0, 1) := by decide +kernel
theorem dX4_takeNumber_100 : decode cX4_takeNumber 100 = .ok (.getfield 9, 3) := by decide +kernel
theorem dX4_takeNumber_103 : decode cX4_takeNumber 103 = .ok (.aload_n 0, 1) := by decide +kernel
theorem dX4_takeNumber_104 : decode cX4_takeNumber 104 = .ok (.getfield 15, 3) := by decide +kernel
theorem dX4_takeNumber_107 : decode cX4_takeNumber 107 = .ok (.isub, 1) := by decide +kernel
theorem dX4_takeNumber_108 : decode cX4_takeNumber 108 = .ok (.iconst 1, 1) := by decide +kernel
theorem dX4_takeNumber_109 : decode cX4_takeNumber 109 = .ok (.if_icmp .le 7, 3) := by decide +kernel
theorem dX4_takeNumber_112 : decode cX4_takeNumber 112 = .ok (.iconst 1, 1) := by decide +kernel
theorem dX4_takeNumber_113 : decode cX4_takeNumber 113 = .ok (.goto 4, 3) := by decide +kernel
theorem dX4_takeNumber_116 : decode cX4_takeNumber 116 = .ok (.iconst 0, 1) := by decide +kernel
theorem dX4_takeNumber_117 : decode cX4_takeNumber 117 = .ok (.istore_n 1, 1) := by decide +kernel
theorem dX4_takeNumber_118 : decode cX4_takeNumber 118 = .ok (.aload_n 0, 1) := by decide +kernel
theorem dX4_takeNumber_119 : decode cX4_takeNumber 119 = .ok (.iload_n 1, 1) := by decide +kernel
theorem dX4_takeNumber_120 : decode cX4_takeNumber 120 = .ok (.ifCond .ne 12, 3) := by decide +kernel
theorem dX4_takeNumber_123 : decode cX4_takeNumber 123 = .ok (.aload_n 0, 1) := by decide +kernel
theorem dX4_takeNumber_124 : decode cX4_takeNumber 124 = .ok (.getfield 21, 3) := by decide +kernel
theorem dX4_takeNumber_127 : decode cX4_takeNumber 127 = .ok (.bipush 99, 2) := by decide +kernel
theorem dX4_takeNumber_129 : decode cX4_takeNumber 129 = .ok (.if_icmp .le 8, 3) := by decide +kernel
theorem dX4_takeNumber_132 : decode cX4_takeNumber 132 = .ok (.bipush 8, 2) := by decide +kernel
theorem dX4_takeNumber_134 : decode cX4_takeNumber 134 = .ok (.goto 4, 3) := by decide +kernel
theorem dX4_takeNumber_137 : decode cX4_takeNumber 137 = .ok (.iconst 1, 1) := by decide +kernel
theorem dX4_takeNumber_138 : decode cX4_takeNumber 138 = .ok (.putfield 18, 3) := by decide +kernel
theorem dX4_takeNumber_141 : decode cX4_takeNumber 141 = .ok (.return_, 1) := by decide +kernel
theorem dX4_isLetter_0 : decode cX4_isLetter 0 = .ok (.iload_n 0, 1) := by decide +kernel
theorem dX4_isLetter_1 : decode cX4_isLetter 1 = .ok (.bipush 97, 2) := by decide +kernel
theorem dX4_isLetter_3 : decode cX4_isLetter 3 = .ok (.if_icmp .lt 13, 3) := by decide +kernel
theorem dX4_isLetter_6 : decode cX4_isLetter 6 = .ok (.iload_n 0, 1) := by decide +kernel
theorem dX4_isLetter_7 : decode cX4_isLetter 7 = .ok (.bipush 122, 2) := by decide +kernel
theorem dX4_isLetter_9 : decode cX4_isLetter 9 = .ok (.if_icmp .gt 7, 3) := by decide +kernel
theorem dX4_isLetter_12 : decode cX4_isLetter 12 = .ok (.iconst 1, 1) := by decide +kernel
theorem dX4_isLetter_13 : decode cX4_isLetter 13 = .ok (.goto 4, 3) := by decide +kernel
theorem dX4_isLetter_16 : decode cX4_isLetter 16 = .ok (.iconst 0, 1) := by decide +kernel
theorem dX4_isLetter_17 : decode cX4_isLetter 17 = .ok (.ireturn, 1) := by decide +kernel
theorem dX4_isDigit_0 : decode cX4_isDigit 0 = .ok (.iload_n 0, 1) := by decide +kernel
theorem dX4_isDigit_1 : decode cX4_isDigit 1 = .ok (.bipush 48, 2) := by decide +kernel
theorem dX4_isDigit_3 : decode cX4_isDigit 3 = .ok (.if_icmp .lt 13, 3) := by decide +kernel
theorem dX4_isDigit_6 : decode cX4_isDigit 6 = .ok (.iload_n 0, 1) := by decide +kernel
theorem dX4_isDigit_7 : decode cX4_isDigit 7 = .ok (.bipush 57, 2) := by decide +kernel
theorem dX4_isDigit_9 : decode cX4_isDigit 9 = .ok (.if_icmp .gt 7, 3) := by decide +kernel
theorem dX4_isDigit_12 : decode cX4_isDigit 12 = .ok (.iconst 1, 1) := by decide +kernel
theorem dX4_isDigit_13 : decode cX4_isDigit 13 = .ok (.goto 4, 3) := by decide +kernel
theorem dX4_isDigit_16 : decode cX4_isDigit 16 = .ok (.iconst 0, 1) := by decide +kernel
theorem dX4_isDigit_17 : decode cX4_isDigit 17 = .ok (.ireturn, 1) := by decide +kernel
theorem dX4_spells_0 : decode cX4_spells 0 = .ok (.aload_n 0, 1) := by decide +kernel
theorem dX4_spells_1 : decode cX4_spells 1 = .ok (.getfield 9, 3) := by decide +kernel
theorem dX4_spells_4 : decode cX4_spells 4 = .ok (.aload_n 0, 1) := by decide +kernel
theorem dX4_spells_5 : decode cX4_spells 5 = .ok (.getfield 15, 3) := by decide +kernel
theorem dX4_spells_8 : decode cX4_spells 8 = .ok (.isub, 1) := by decide +kernel
theorem dX4_spells_9 : decode cX4_spells 9 = .ok (.aload_n 1, 1) := by decide +kernel
theorem dX4_spells_10 : decode cX4_spells 10 = .ok (.invokevirtual 139, 3) := by decide +kernel
theorem dX4_spells_13 : decode cX4_spells 13 = .ok (.if_icmp .eq 5, 3) := by decide +kernel
theorem dX4_spells_16 : decode cX4_spells 16 = .ok (.iconst 0, 1) := by decide +kernel
theorem dX4_spells_17 : decode cX4_spells 17 = .ok (.ireturn, 1) := by decide +kernel
theorem dX4_spells_18 : decode cX4_spells 18 = .ok (.iconst 0, 1) := by decide +kernel
theorem dX4_spells_19 : decode cX4_spells 19 = .ok (.istore_n 2, 1) := by decide +kernel
theorem dX4_spells_20 : decode cX4_spells 20 = .ok (.iload_n 2, 1) := by decide +kernel
theorem dX4_spells_21 : decode cX4_spells 21 = .ok (.aload_n 1, 1) := by decide +kernel
theorem dX4_spells_22 : decode cX4_spells 22 = .ok (.invokevirtual 139, 3) := by decide +kernel
theorem dX4_spells_25 : decode cX4_spells 25 = .ok (.if_icmp .ge 33, 3) := by decide +kernel
theorem dX4_spells_28 : decode cX4_spells 28 = .ok (.aload_n 0, 1) := by decide +kernel
theorem dX4_spells_29 : decode cX4_spells 29 = .ok (.getfield 24, 3) := by decide +kernel
theorem dX4_spells_32 : decode cX4_spells 32 = .ok (.getfield 102, 3) := by decide +kernel
theorem dX4_spells_35 : decode cX4_spells 35 = .ok (.aload_n 0, 1) := by decide +kernel
theorem dX4_spells_36 : decode cX4_spells 36 = .ok (.getfield 15, 3) := by decide +kernel
theorem dX4_spells_39 : decode cX4_spells 39 = .ok (.iload_n 2, 1) := by decide +kernel
theorem dX4_spells_40 : decode cX4_spells 40 = .ok (.iadd, 1) := by decide +kernel
theorem dX4_spells_41 : decode cX4_spells 41 = .ok (.baload, 1) := by decide +kernel
theorem dX4_spells_42 : decode cX4_spells 42 = .ok (.aload_n 1, 1) := by decide +kernel
theorem dX4_spells_43 : decode cX4_spells 43 = .ok (.iload_n 2, 1) := by decide +kernel
theorem dX4_spells_44 : decode cX4_spells 44 = .ok (.invokevirtual 144, 3) := by decide +kernel
theorem dX4_spells_47 : decode cX4_spells 47 = .ok (.if_icmp .eq 5, 3) := by decide +kernel
theorem dX4_spells_50 : decode cX4_spells 50 = .ok (.iconst 0, 1) := by decide +kernel
theorem dX4_spells_51 : decode cX4_spells 51 = .ok (.ireturn, 1) := by decide +kernel
theorem dX4_spells_52 : decode cX4_spells 52 = .ok (.iinc 2 1, 3) := by decide +kernel
theorem dX4_spells_55 : decode cX4_spells 55 = .ok (.goto (-35), 3) := by decide +kernel
theorem dX4_spells_58 : decode cX4_spells 58 = .ok (.iconst 1, 1) := by decide +kernel
theorem dX4_spells_59 : decode cX4_spells 59 = .ok (.ireturn, 1) := by decide +kernel
theorem dX9_init_0 : decode cX9_init 0 = .ok (.aload_n 0, 1) := by decide +kernel
theorem dX9_init_1 : decode cX9_init 1 = .ok (.invokespecial 1, 3) := by decide +kernel
theorem dX9_init_4 : decode cX9_init 4 = .ok (.aload_n 0, 1) := by decide +kernel
theorem dX9_init_5 : decode cX9_init 5 = .ok (.new 7, 3) := by decide +kernel
theorem dX9_init_8 : decode cX9_init 8 = .ok (.dup, 1) := by decide +kernel
theorem dX9_init_9 : decode cX9_init 9 = .ok (.invokespecial 9, 3) := by decide +kernel
theorem dX9_init_12 : decode cX9_init 12 = .ok (.putfield 10, 3) := by decide +kernel
theorem dX9_init_15 : decode cX9_init 15 = .ok (.aload_n 0, 1) := by decide +kernel
theorem dX9_init_16 : decode cX9_init 16 = .ok (.new 16, 3) := by decide +kernel
theorem dX9_init_19 : decode cX9_init 19 = .ok (.dup, 1) := by decide +kernel
theorem dX9_init_20 : decode cX9_init 20 = .ok (.invokespecial 18, 3) := by decide +kernel
theorem dX9_init_23 : decode cX9_init 23 = .ok (.putfield 19, 3) := by decide +kernel
theorem dX9_init_26 : decode cX9_init 26 = .ok (.aload_n 0, 1) := by decide +kernel
theorem dX9_init_27 : decode cX9_init 27 = .ok (.new 16, 3) := by decide +kernel
theorem dX9_init_30 : decode cX9_init 30 = .ok (.dup, 1) := by decide +kernel
theorem dX9_init_31 : decode cX9_init 31 = .ok (.invokespecial 18, 3) := by decide +kernel
theorem dX9_init_34 : decode cX9_init 34 = .ok (.putfield 23, 3) := by decide +kernel
theorem dX9_init_37 : decode cX9_init 37 = .ok (.aload_n 0, 1) := by decide +kernel
theorem dX9_init_38 : decode cX9_init 38 = .ok (.new 26, 3) := by decide +kernel
theorem dX9_init_41 : decode cX9_init 41 = .ok (.dup, 1) := by decide +kernel
theorem dX9_init_42 : decode cX9_init 42 = .ok (.invokespecial 28, 3) := by decide +kernel
theorem dX9_init_45 : decode cX9_init 45 = .ok (.putfield 29, 3) := by decide +kernel
theorem dX9_init_48 : decode cX9_init 48 = .ok (.aload_n 0, 1) := by decide +kernel
theorem dX9_init_49 : decode cX9_init 49 = .ok (.new 26, 3) := by decide +kernel
theorem dX9_init_52 : decode cX9_init 52 = .ok (.dup, 1) := by decide +kernel
theorem dX9_init_53 : decode cX9_init 53 = .ok (.invokespecial 28, 3) := by decide +kernel
theorem dX9_init_56 : decode cX9_init 56 = .ok (.putfield 33, 3) := by decide +kernel
theorem dX9_init_59 : decode cX9_init 59 = .ok (.aload_n 0, 1) := by decide +kernel
theorem dX9_init_60 : decode cX9_init 60 = .ok (.new 36, 3) := by decide +kernel
theorem dX9_init_63 : decode cX9_init 63 = .ok (.dup, 1) := by decide +kernel
theorem dX9_init_64 : decode cX9_init 64 = .ok (.aload_n 0, 1) := by decide +kernel
theorem dX9_init_65 : decode cX9_init 65 = .ok (.getfield 10, 3) := by decide +kernel
theorem dX9_init_68 : decode cX9_init 68 = .ok (.aload_n 0, 1) := by decide +kernel
theorem dX9_init_69 : decode cX9_init 69 = .ok (.getfield 23, 3) := by decide +kernel
theorem dX9_init_72 : decode cX9_init 72 = .ok (.aload_n 0, 1) := by decide +kernel
theorem dX9_init_73 : decode cX9_init 73 = .ok (.getfield 33, 3) := by decide +kernel
theorem dX9_init_76 : decode cX9_init 76 = .ok (.invokespecial 38, 3) := by decide +kernel
theorem dX9_init_79 : decode cX9_init 79 = .ok (.putfield 41, 3) := by decide +kernel
theorem dX9_init_82 : decode cX9_init 82 = .ok (.aload_n 0, 1) := by decide +kernel
theorem dX9_init_83 : decode cX9_init 83 = .ok (.iconst 2, 1) := by decide +kernel
theorem dX9_init_84 : decode cX9_init 84 = .ok (.anewarray 26, 3) := by decide +kernel
theorem dX9_init_87 : decode cX9_init 87 = .ok (.putfield 45, 3) := by decide +kernel
theorem dX9_init_90 : decode cX9_init 90 = .ok (.iconst 0, 1) := by decide +kernel
theorem dX9_init_91 : decode cX9_init 91 = .ok (.istore_n 1, 1) := by decide +kernel
theorem dX9_init_92 : decode cX9_init 92 = .ok (.iload_n 1, 1) := by decide +kernel
theorem dX9_init_93 : decode cX9_init 93 = .ok (.iconst 2, 1) := by decide +kernel
theorem dX9_init_94 : decode cX9_init 94 = .ok (.if_icmp .ge 22, 3) := by decide +kernel
theorem dX9_init_97 : decode cX9_init 97 = .ok (.aload_n 0, 1) := by decide +kernel
theorem dX9_init_98 : decode cX9_init 98 = .ok (.getfield 45, 3) := by decide +kernel
theorem dX9_init_101 : decode cX9_init 101 = .ok (.iload_n 1, 1) := by decide +kernel
theorem dX9_init_102 : decode cX9_init 102 = .ok (.new 26, 3) := by decide +kernel
theorem dX9_init_105 : decode cX9_init 105 = .ok (.dup, 1) := by decide +kernel
theorem dX9_init_106 : decode cX9_init 106 = .ok (.invokespecial 28, 3) := by decide +kernel
theorem dX9_init_109 : decode cX9_init 109 = .ok (.aastore, 1) := by decide +kernel
theorem dX9_init_110 : decode cX9_init 110 = .ok (.iinc 1 1, 3) := by decide +kernel
theorem dX9_init_113 : decode cX9_init 113 = .ok (.goto (-21), 3) := by decide +kernel
theorem dX9_init_116 : decode cX9_init 116 = .ok (.aload_n 0, 1) := by decide +kernel
theorem dX9_init_117 : decode cX9_init 117 = .ok (.iconst 2, 1) := by decide +kernel
theorem dX9_init_118 : decode cX9_init 118 = .ok (.newarray .boolean, 2) := by decide +kernel
theorem dX9_init_120 : decode cX9_init 120 = .ok (.putfield 49, 3) := by decide +kernel
theorem dX9_init_123 : decode cX9_init 123 = .ok (.aload_n 0, 1) := by decide +kernel
theorem dX9_init_124 : decode cX9_init 124 = .ok (.new 53, 3) := by decide +kernel
theorem dX9_init_127 : decode cX9_init 127 = .ok (.dup, 1) := by decide +kernel
theorem dX9_init_128 : decode cX9_init 128 = .ok (.aload_n 0, 1) := by decide +kernel
theorem dX9_init_129 : decode cX9_init 129 = .ok (.getfield 19, 3) := by decide +kernel
theorem dX9_init_132 : decode cX9_init 132 = .ok (.invokespecial 55, 3) := by decide +kernel
theorem dX9_init_135 : decode cX9_init 135 = .ok (.putfield 58, 3) := by decide +kernel
theorem dX9_init_138 : decode cX9_init 138 = .ok (.aload_n 0, 1) := by decide +kernel
theorem dX9_init_139 : decode cX9_init 139 = .ok (.new 62, 3) := by decide +kernel
theorem dX9_init_142 : decode cX9_init 142 = .ok (.dup, 1) := by decide +kernel
theorem dX9_init_143 : decode cX9_init 143 = .ok (.aload_n 0, 1) := by decide +kernel
theorem dX9_init_144 : decode cX9_init 144 = .ok (.getfield 19, 3) := by decide +kernel
theorem dX9_init_147 : decode cX9_init 147 = .ok (.aload_n 0, 1) := by decide +kernel
theorem dX9_init_148 : decode cX9_init 148 = .ok (.getfield 58, 3) := by decide +kernel
theorem dX9_init_151 : decode cX9_init 151 = .ok (.invokespecial 64, 3) := by decide +kernel
theorem dX9_init_154 : decode cX9_init 154 = .ok (.putfield 67, 3) := by decide +kernel
theorem dX9_init_157 : decode cX9_init 157 = .ok (.aload_n 0, 1) := by decide +kernel
theorem dX9_init_158 : decode cX9_init 158 = .ok (.new 71, 3) := by decide +kernel
theorem dX9_init_161 : decode cX9_init 161 = .ok (.dup, 1) := by decide +kernel
theorem dX9_init_162 : decode cX9_init 162 = .ok (.aload_n 0, 1) := by decide +kernel
theorem dX9_init_163 : decode cX9_init 163 = .ok (.getfield 19, 3) := by decide +kernel
theorem dX9_init_166 : decode cX9_init 166 = .ok (.aload_n 0, 1) := by decide +kernel
theorem dX9_init_167 : decode cX9_init 167 = .ok (.getfield 58, 3) := by decide +kernel
theorem dX9_init_170 : decode cX9_init 170 = .ok (.invokespecial 73, 3) := by decide +kernel
theorem dX9_init_173 : decode cX9_init 173 = .ok (.putfield 74, 3) := by decide +kernel
theorem dX9_init_176 : decode cX9_init 176 = .ok (.aload_n 0, 1) := by decide +kernel
theorem dX9_init_177 : decode cX9_init 177 = .ok (.new 78, 3) := by decide +kernel
theorem dX9_init_180 : decode cX9_init 180 = .ok (.dup, 1) := by decide +kernel
theorem dX9_init_181 : decode cX9_init 181 = .ok (.aload_n 0, 1) := by decide +kernel
theorem dX9_init_182 : decode cX9_init 182 = .ok (.getfield 19, 3) := by decide +kernel
theorem dX9_init_185 : decode cX9_init 185 = .ok (.aload_n 0, 1) := by decide +kernel
theorem dX9_init_186 : decode cX9_init 186 = .ok (.getfield 58, 3) := by decide +kernel
theorem dX9_init_189 : decode cX9_init 189 = .ok (.invokespecial 80, 3) := by decide +kernel
theorem dX9_init_192 : decode cX9_init 192 = .ok (.putfield 81, 3) := by decide +kernel
theorem dX9_init_195 : decode cX9_init 195 = .ok (.aload_n 0, 1) := by decide +kernel
theorem dX9_init_196 : decode cX9_init 196 = .ok (.new 85, 3) := by decide +kernel
theorem dX9_init_199 : decode cX9_init 199 = .ok (.dup, 1) := by decide +kernel
theorem dX9_init_200 : decode cX9_init 200 = .ok (.aload_n 0, 1) := by decide +kernel
theorem dX9_init_201 : decode cX9_init 201 = .ok (.getfield 19, 3) := by decide +kernel
theorem dX9_init_204 : decode cX9_init 204 = .ok (.invokespecial 87, 3) := by decide +kernel
theorem dX9_init_207 : decode cX9_init 207 = .ok (.putfield 88, 3) := by decide +kernel
theorem dX9_init_210 : decode cX9_init 210 = .ok (.aload_n 0, 1) := by decide +kernel
theorem dX9_init_211 : decode cX9_init 211 = .ok (.lconst 0, 1) := by decide +kernel
theorem dX9_init_212 : decode cX9_init 212 = .ok (.putfield 92, 3) := by decide +kernel
theorem dX9_init_215 : decode cX9_init 215 = .ok (.return_, 1) := by decide +kernel
theorem dX9_type_0 : decode cX9_type 0 = .ok (.iload_n 3, 1) := by decide +kernel
theorem dX9_type_1 : decode cX9_type 1 = .ok (.iconst 1, 1) := by decide +kernel
theorem dX9_type_2 : decode cX9_type 2 = .ok (.if_icmp .lt 9, 3) := by decide +kernel
theorem dX9_type_5 : decode cX9_type 5 = .ok (.iload_n 3, 1) := by decide +kernel
theorem dX9_type_6 : decode cX9_type 6 = .ok (.bipush 8, 2) := by decide +kernel
theorem dX9_type_8 : decode cX9_type 8 = .ok (.if_icmp .le 5, 3) := by decide +kernel
theorem dX9_type_11 : decode cX9_type 11 = .ok (.iconst (-1), 1) := by decide +kernel
theorem dX9_type_12 : decode cX9_type 12 = .ok (.ireturn, 1) := by decide +kernel
theorem dX9_type_13 : decode cX9_type 13 = .ok (.aload_n 0, 1) := by decide +kernel
theorem dX9_type_14 : decode cX9_type 14 = .ok (.getfield 10, 3) := by decide +kernel
theorem dX9_type_17 : decode cX9_type 17 = .ok (.getfield 96, 3) := by decide +kernel
theorem dX9_type_20 : decode cX9_type 20 = .ok (.iload_n 3, 1) := by decide +kernel
theorem dX9_type_21 : decode cX9_type 21 = .ok (.iadd, 1) := by decide +kernel
theorem dX9_type_22 : decode cX9_type 22 = .ok (.sipush 300, 3) := by decide +kernel
theorem dX9_type_25 : decode cX9_type 25 = .ok (.if_icmp .le 6, 3) := by decide +kernel
theorem dX9_type_28 : decode cX9_type 28 = .ok (.bipush (-3), 2) := by decide +kernel
theorem dX9_type_30 : decode cX9_type 30 = .ok (.ireturn, 1) := by decide +kernel
theorem dX9_type_31 : decode cX9_type 31 = .ok (.aload_n 0, 1) := by decide +kernel
theorem dX9_type_32 : decode cX9_type 32 = .ok (.getfield 10, 3) := by decide +kernel
theorem dX9_type_35 : decode cX9_type 35 = .ok (.lload_n 1, 1) := by decide +kernel
theorem dX9_type_36 : decode cX9_type 36 = .ok (.iload_n 3, 1) := by decide +kernel
theorem dX9_type_37 : decode cX9_type 37 = .ok (.invokevirtual 100, 3) := by decide +kernel
theorem dX9_type_40 : decode cX9_type 40 = .ok (.aload_n 0, 1) := by decide +kernel
theorem dX9_type_41 : decode cX9_type 41 = .ok (.getfield 10, 3) := by decide +kernel
theorem dX9_type_44 : decode cX9_type 44 = .ok (.getfield 96, 3) := by decide +kernel
theorem dX9_type_47 : decode cX9_type 47 = .ok (.ireturn, 1) := by decide +kernel
theorem dX9_clear_0 : decode cX9_clear 0 = .ok (.aload_n 0, 1) := by decide +kernel
theorem dX9_clear_1 : decode cX9_clear 1 = .ok (.getfield 10, 3) := by decide +kernel
theorem dX9_clear_4 : decode cX9_clear 4 = .ok (.getfield 96, 3) := by decide +kernel
theorem dX9_clear_7 : decode cX9_clear 7 = .ok (.istore_n 1, 1) := by decide +kernel
theorem dX9_clear_8 : decode cX9_clear 8 = .ok (.aload_n 0, 1) := by decide +kernel
theorem dX9_clear_9 : decode cX9_clear 9 = .ok (.getfield 10, 3) := by decide +kernel
theorem dX9_clear_12 : decode cX9_clear 12 = .ok (.iconst 0, 1) := by decide +kernel
theorem dX9_clear_13 : decode cX9_clear 13 = .ok (.putfield 96, 3) := by decide +kernel
theorem dX9_clear_16 : decode cX9_clear 16 = .ok (.iload_n 1, 1) := by decide +kernel
theorem dX9_clear_17 : decode cX9_clear 17 = .ok (.ireturn, 1) := by decide +kernel
theorem dX9_town_0 : decode cX9_town 0 = .ok (.aload_n 0, 1) := by decide +kernel
theorem dX9_town_1 : decode cX9_town 1 = .ok (.getfield 41, 3) := by decide +kernel
theorem dX9_town_4 : decode cX9_town 4 = .ok (.invokevirtual 104, 3) := by decide +kernel
theorem dX9_town_7 : decode cX9_town 7 = .ok (.istore_n 1, 1) := by decide +kernel
theorem dX9_town_8 : decode cX9_town 8 = .ok (.iload_n 1, 1) := by decide +kernel
theorem dX9_town_9 : decode cX9_town 9 = .ok (.ifCond .ge 5, 3) := by decide +kernel
theorem dX9_town_12 : decode cX9_town 12 = .ok (.iload_n 1, 1) := by decide +kernel
theorem dX9_town_13 : decode cX9_town 13 = .ok (.ireturn, 1) := by decide +kernel
theorem dX9_town_14 : decode cX9_town 14 = .ok (.aload_n 0, 1) := by decide +kernel
theorem dX9_town_15 : decode cX9_town 15 = .ok (.getfield 19, 3) := by decide +kernel
theorem dX9_town_18 : decode cX9_town 18 = .ok (.aload_n 0, 1) := by decide +kernel
theorem dX9_town_19 : decode cX9_town 19 = .ok (.getfield 23, 3) := by decide +kernel
theorem dX9_town_22 : decode cX9_town 22 = .ok (.invokevirtual 108, 3) := by decide +kernel
theorem dX9_town_25 : decode cX9_town 25 = .ok (.aload_n 0, 1) := by decide +kernel
theorem dX9_town_26 : decode cX9_town 26 = .ok (.getfield 29, 3) := by decide +kernel
theorem dX9_town_29 : decode cX9_town 29 = .ok (.aload_n 0, 1) := by decide +kernel
theorem dX9_town_30 : decode cX9_town 30 = .ok (.getfield 33, 3) := by decide +kernel
theorem dX9_town_33 : decode cX9_town 33 = .ok (.invokevirtual 111, 3) := by decide +kernel
theorem dX9_town_36 : decode cX9_town 36 = .ok (.iconst 0, 1) := by decide +kernel
theorem dX9_town_37 : decode cX9_town 37 = .ok (.istore_n 2, 1) := by decide +kernel
theorem dX9_town_38 : decode cX9_town 38 = .ok (.iload_n 2, 1) := by decide +kernel
theorem dX9_town_39 : decode cX9_town 39 = .ok (.iconst 2, 1) := by decide +kernel
theorem dX9_town_40 : decode cX9_town 40 = .ok (.if_icmp .ge 16, 3) := by decide +kernel
theorem dX9_town_43 : decode cX9_town 43 = .ok (.aload_n 0, 1) := by decide +kernel
theorem dX9_town_44 : decode cX9_town 44 = .ok (.getfield 49, 3) := by decide +kernel
theorem dX9_town_47 : decode cX9_town 47 = .ok (.iload_n 2, 1) := by decide +kernel
theorem dX9_town_48 : decode cX9_town 48 = .ok (.iconst 0, 1) := by decide +kernel
theorem dX9_town_49 : decode cX9_town 49 = .ok (.bastore, 1) := by decide +kernel
theorem dX9_town_50 : decode cX9_town 50 = .ok (.iinc 2 1, 3) := by decide +kernel
theorem dX9_town_53 : decode cX9_town 53 = .ok (.goto (-15), 3) := by decide +kernel
theorem dX9_town_56 : decode cX9_town 56 = .ok (.aload_n 0, 1) := by decide +kernel
theorem dX9_town_57 : decode cX9_town 57 = .ok (.getfield 58, 3) := by decide +kernel
theorem dX9_town_60 : decode cX9_town 60 = .ok (.invokevirtual 114, 3) := by decide +kernel
theorem dX9_town_63 : decode cX9_town 63 = .ok (.aload_n 0, 1) := by decide +kernel
theorem dX9_town_64 : decode cX9_town 64 = .ok (.getfield 67, 3) := by decide +kernel
theorem dX9_town_67 : decode cX9_town 67 = .ok (.invokevirtual 117, 3) := by decide +kernel
theorem dX9_town_70 : decode cX9_town 70 = .ok (.aload_n 0, 1) := by decide +kernel
theorem dX9_town_71 : decode cX9_town 71 = .ok (.getfield 10, 3) := by decide +kernel
theorem dX9_town_74 : decode cX9_town 74 = .ok (.iconst 0, 1) := by decide +kernel
theorem dX9_town_75 : decode cX9_town 75 = .ok (.putfield 96, 3) := by decide +kernel
theorem dX9_town_78 : decode cX9_town 78 = .ok (.iload_n 1, 1) := by decide +kernel
theorem dX9_town_79 : decode cX9_town 79 = .ok (.ireturn, 1) := by decide +kernel
theorem dX9_piece_0 : decode cX9_piece 0 = .ok (.aload_n 0, 1) := by decide +kernel
theorem dX9_piece_1 : decode cX9_piece 1 = .ok (.iload_n 1, 1) := by decide +kernel
theorem dX9_piece_2 : decode cX9_piece 2 = .ok (.invokevirtual 118, 3) := by decide +kernel
theorem dX9_piece_5 : decode cX9_piece 5 = .ok (.ifCond .ne 5, 3) := by decide +kernel
theorem dX9_piece_8 : decode cX9_piece 8 = .ok (.iconst (-1), 1) := by decide +kernel
theorem dX9_piece_9 : decode cX9_piece 9 = .ok (.ireturn, 1) := by decide +kernel
theorem dX9_piece_10 : decode cX9_piece 10 = .ok (.iload_n 2, 1) := by decide +kernel
theorem dX9_piece_11 : decode cX9_piece 11 = .ok (.tableswitch 99 0 5 #[37, 47, 57, 67, 77, 89], 37) := by decide +kernel
theorem dX9_piece_48 : decode cX9_piece 48 = .ok (.aload_n 0, 1) := by decide +kernel
theorem dX9_piece_49 : decode cX9_piece 49 = .ok (.getfield 19, 3) := by decide +kernel
theorem dX9_piece_52 : decode cX9_piece 52 = .ok (.getfield 122, 3) := by decide +kernel
theorem dX9_piece_55 : decode cX9_piece 55 = .ok (.iload_n 1, 1) := by decide +kernel
theorem dX9_piece_56 : decode cX9_piece 56 = .ok (.iaload, 1) := by decide +kernel
theorem dX9_piece_57 : decode cX9_piece 57 = .ok (.ireturn, 1) := by decide +kernel
theorem dX9_piece_58 : decode cX9_piece 58 = .ok (.aload_n 0, 1) := by decide +kernel
theorem dX9_piece_59 : decode cX9_piece 59 = .ok (.getfield 19, 3) := by decide +kernel
theorem dX9_piece_62 : decode cX9_piece 62 = .ok (.getfield 126, 3) := by decide +kernel
theorem dX9_piece_65 : decode cX9_piece 65 = .ok (.iload_n 1, 1) := by decide +kernel
theorem dX9_piece_66 : decode cX9_piece 66 = .ok (.iaload, 1) := by decide +kernel
theorem dX9_piece_67 : decode cX9_piece 67 = .ok (.ireturn, 1) := by decide +kernel
theorem dX9_piece_68 : decode cX9_piece 68 = .ok (.aload_n 0, 1) := by decide +kernel
theorem dX9_piece_69 : decode cX9_piece 69 = .ok (.getfield 19, 3) := by decide +kernel
theorem dX9_piece_72 : decode cX9_piece 72 = .ok (.getfield 129, 3) := by decide +kernel
theorem dX9_piece_75 : decode cX9_piece 75 = .ok (.iload_n 1, 1) := by decide +kernel
theorem dX9_piece_76 : decode cX9_piece 76 = .ok (.iaload, 1) := by decide +kernel
theorem dX9_piece_77 : decode cX9_piece 77 = .ok (.ireturn, 1) := by decide +kernel
theorem dX9_piece_78 : decode cX9_piece 78 = .ok (.aload_n 0, 1) := by decide +kernel
theorem dX9_piece_79 : decode cX9_piece 79 = .ok (.getfield 29, 3) := by decide +kernel
theorem dX9_piece_82 : decode cX9_piece 82 = .ok (.getfield 132, 3) := by decide +kernel
theorem dX9_piece_85 : decode cX9_piece 85 = .ok (.iload_n 1, 1) := by decide +kernel
theorem dX9_piece_86 : decode cX9_piece 86 = .ok (.iaload, 1) := by decide +kernel
theorem dX9_piece_87 : decode cX9_piece 87 = .ok (.ireturn, 1) := by decide +kernel
theorem dX9_piece_88 : decode cX9_piece 88 = .ok (.aload_n 0, 1) := by decide +kernel
theorem dX9_piece_89 : decode cX9_piece 89 = .ok (.getfield 29, 3) := by decide +kernel
theorem dX9_piece_92 : decode cX9_piece 92 = .ok (.getfield 135, 3) := by decide +kernel
theorem dX9_piece_95 : decode cX9_piece 95 = .ok (.iload_n 1, 1) := by decide +kernel
theorem dX9_piece_96 : decode cX9_piece 96 = .ok (.ishr, 1) := by decide +kernel
theorem dX9_piece_97 : decode cX9_piece 97 = .ok (.iconst 1, 1) := by decide +kernel
theorem dX9_piece_98 : decode cX9_piece 98 = .ok (.iand, 1) := by decide +kernel
theorem dX9_piece_99 : decode cX9_piece 99 = .ok (.ireturn, 1) := by decide +kernel
theorem dX9_piece_100 : decode cX9_piece 100 = .ok (.aload_n 0, 1) := by decide +kernel
theorem dX9_piece_101 : decode cX9_piece 101 = .ok (.getfield 29, 3) := by decide +kernel
theorem dX9_piece_104 : decode cX9_piece 104 = .ok (.getfield 138, 3) := by decide +kernel
theorem dX9_piece_107 : decode cX9_piece 107 = .ok (.iload_n 1, 1) := by decide +kernel
theorem dX9_piece_108 : decode cX9_piece 108 = .ok (.iaload, 1) := by decide +kernel
theorem dX9_piece_109 : decode cX9_piece 109 = .ok (.ireturn, 1) := by decide +kernel
theorem dX9_piece_110 : decode cX9_piece 110 = .ok (.iconst (-1), 1) := by decide +kernel
theorem dX9_piece_111 : decode cX9_piece 111 = .ok (.ireturn, 1) := by decide +kernel
theorem dX9_family_0 : decode cX9_family 0 = .ok (.aload_n 0, 1) := by decide +kernel
theorem dX9_family_1 : decode cX9_family 1 = .ok (.iload_n 1, 1) := by decide +kernel
theorem dX9_family_2 : decode cX9_family 2 = .ok (.invokevirtual 141, 3) := by decide +kernel
theorem dX9_family_5 : decode cX9_family 5 = .ok (.ifCond .ne 5, 3) := by decide +kernel
theorem dX9_family_8 : decode cX9_family 8 = .ok (.iconst (-1), 1) := by decide +kernel
theorem dX9_family_9 : decode cX9_family 9 = .ok (.ireturn, 1) := by decide +kernel
theorem dX9_family_10 : decode cX9_family 10 = .ok (.iload_n 2, 1) := by decide +kernel
theorem dX9_family_11 : decode cX9_family 11 = .ok (.tableswitch 71 0 3 #[29, 39, 49, 59], 29) := by decide +kernel
theorem dX9_family_40 : decode cX9_family 40 = .ok (.aload_n 0, 1) := by decide +kernel
theorem dX9_family_41 : decode cX9_family 41 = .ok (.getfield 19, 3) := by decide +kernel
theorem dX9_family_44 : decode cX9_family 44 = .ok (.getfield 144, 3) := by decide +kernel
theorem dX9_family_47 : decode cX9_family 47 = .ok (.iload_n 1, 1) := by decide +kernel
theorem dX9_family_48 : decode cX9_family 48 = .ok (.iaload, 1) := by decide +kernel
theorem dX9_family_49 : decode cX9_family 49 = .ok (.ireturn, 1) := by decide +kernel
theorem dX9_family_50 : decode cX9_family 50 = .ok (.aload_n 0, 1) := by decide +kernel
theorem dX9_family_51 : decode cX9_family 51 = .ok (.getfield 19, 3) := by decide +kernel
theorem dX9_family_54 : decode cX9_family 54 = .ok (.getfield 147, 3) := by decide +kernel
theorem dX9_family_57 : decode cX9_family 57 = .ok (.iload_n 1, 1) := by decide +kernel
theorem dX9_family_58 : decode cX9_family 58 = .ok (.iaload, 1) := by decide +kernel
theorem dX9_family_59 : decode cX9_family 59 = .ok (.ireturn, 1) := by decide +kernel
theorem dX9_family_60 : decode cX9_family 60 = .ok (.aload_n 0, 1) := by decide +kernel
theorem dX9_family_61 : decode cX9_family 61 = .ok (.getfield 19, 3) := by decide +kernel
theorem dX9_family_64 : decode cX9_family 64 = .ok (.getfield 150, 3) := by decide +kernel
theorem dX9_family_67 : decode cX9_family 67 = .ok (.iload_n 1, 1) := by decide +kernel
theorem dX9_family_68 : decode cX9_family 68 = .ok (.iaload, 1) := by decide +kernel
theorem dX9_family_69 : decode cX9_family 69 = .ok (.ireturn, 1) := by decide +kernel
theorem dX9_family_70 : decode cX9_family 70 = .ok (.aload_n 0, 1) := by decide +kernel
theorem dX9_family_71 : decode cX9_family 71 = .ok (.getfield 29, 3) := by decide +kernel
theorem dX9_family_74 : decode cX9_family 74 = .ok (.iload_n 1, 1) := by decide +kernel
theorem dX9_family_75 : decode cX9_family 75 = .ok (.invokevirtual 153, 3) := by decide +kernel
theorem dX9_family_78 : decode cX9_family 78 = .ok (.invokestatic 157, 3) := by decide +kernel
theorem dX9_family_81 : decode cX9_family 81 = .ok (.ireturn, 1) := by decide +kernel
theorem dX9_family_82 : decode cX9_family 82 = .ok (.iconst (-1), 1) := by decide +kernel
theorem dX9_family_83 : decode cX9_family 83 = .ok (.ireturn, 1) := by decide +kernel
theorem dX9_pave_0 : decode cX9_pave 0 = .ok (.aload_n 0, 1) := by decide +kernel
theorem dX9_pave_1 : decode cX9_pave 1 = .ok (.iload_n 1, 1) := by decide +kernel
theorem dX9_pave_2 : decode cX9_pave 2 = .ok (.invokevirtual 118, 3) := by decide +kernel
theorem dX9_pave_5 : decode cX9_pave 5 = .ok (.ifCond .eq 11, 3) := by decide +kernel
theorem dX9_pave_8 : decode cX9_pave 8 = .ok (.aload_n 0, 1) := by decide +kernel
theorem dX9_pave_9 : decode cX9_pave 9 = .ok (.iload_n 2, 1) := by decide +kernel
theorem dX9_pave_10 : decode cX9_pave 10 = .ok (.invokevirtual 141, 3) := by decide +kernel
theorem dX9_pave_13 : decode cX9_pave 13 = .ok (.ifCond .ne 5, 3) := by decide +kernel
theorem dX9_pave_16 : decode cX9_pave 16 = .ok (.iconst (-1), 1) := by decide +kernel
theorem dX9_pave_17 : decode cX9_pave 17 = .ok (.ireturn, 1) := by decide +kernel
theorem dX9_pave_18 : decode cX9_pave 18 = .ok (.aload_n 0, 1) := by decide +kernel
theorem dX9_pave_19 : decode cX9_pave 19 = .ok (.getfield 29, 3) := by decide +kernel
theorem dX9_pave_22 : decode cX9_pave 22 = .ok (.iload_n 1, 1) := by decide +kernel
theorem dX9_pave_23 : decode cX9_pave 23 = .ok (.invokevirtual 162, 3) := by decide +kernel
theorem dX9_pave_26 : decode cX9_pave 26 = .ok (.ifCond .eq 6, 3) := by decide +kernel
theorem dX9_pave_29 : decode cX9_pave 29 = .ok (.bipush (-2), 2) := by decide +kernel
theorem dX9_pave_31 : decode cX9_pave 31 = .ok (.ireturn, 1) := by decide +kernel
theorem dX9_pave_32 : decode cX9_pave 32 = .ok (.aload_n 0, 1) := by decide +kernel
theorem dX9_pave_33 : decode cX9_pave 33 = .ok (.getfield 29, 3) := by decide +kernel
theorem dX9_pave_36 : decode cX9_pave 36 = .ok (.getfield 132, 3) := by decide +kernel
theorem dX9_pave_39 : decode cX9_pave 39 = .ok (.iload_n 1, 1) := by decide +kernel
theorem dX9_pave_40 : decode cX9_pave 40 = .ok (.iaload, 1) := by decide +kernel
theorem dX9_pave_41 : decode cX9_pave 41 = .ok (.istore_n 3, 1) := by decide +kernel
theorem dX9_pave_42 : decode cX9_pave 42 = .ok (.aload_n 0, 1) := by decide +kernel
theorem dX9_pave_43 : decode cX9_pave 43 = .ok (.getfield 29, 3) := by decide +kernel
theorem dX9_pave_46 : decode cX9_pave 46 = .ok (.getfield 132, 3) := by decide +kernel
theorem dX9_pave_49 : decode cX9_pave 49 = .ok (.iload_n 1, 1) := by decide +kernel
theorem dX9_pave_50 : decode cX9_pave 50 = .ok (.iload_n 2, 1) := by decide +kernel
theorem dX9_pave_51 : decode cX9_pave 51 = .ok (.iastore, 1) := by decide +kernel
theorem dX9_pave_52 : decode cX9_pave 52 = .ok (.iload_n 3, 1) := by decide +kernel
theorem dX9_pave_53 : decode cX9_pave 53 = .ok (.ireturn, 1) := by decide +kernel
theorem dX9_free_0 : decode cX9_free 0 = .ok (.aload_n 0, 1) := by decide +kernel
theorem dX9_free_1 : decode cX9_free 1 = .ok (.iload_n 1, 1) := by decide +kernel
theorem dX9_free_2 : decode cX9_free 2 = .ok (.invokevirtual 118, 3) := by decide +kernel
theorem dX9_free_5 : decode cX9_free 5 = .ok (.ifCond .ne 5, 3) := by decide +kernel
theorem dX9_free_8 : decode cX9_free 8 = .ok (.iconst (-1), 1) := by decide +kernel
theorem dX9_free_9 : decode cX9_free 9 = .ok (.ireturn, 1) := by decide +kernel
theorem dX9_free_10 : decode cX9_free 10 = .ok (.aload_n 0, 1) := by decide +kernel
theorem dX9_free_11 : decode cX9_free 11 = .ok (.getfield 29, 3) := by decide +kernel
theorem dX9_free_14 : decode cX9_free 14 = .ok (.getfield 132, 3) := by decide +kernel
theorem dX9_free_17 : decode cX9_free 17 = .ok (.iload_n 1, 1) := by decide +kernel
theorem dX9_free_18 : decode cX9_free 18 = .ok (.iaload, 1) := by decide +kernel
theorem dX9_free_19 : decode cX9_free 19 = .ok (.istore_n 2, 1) := by decide +kernel
theorem dX9_free_20 : decode cX9_free 20 = .ok (.iload_n 2, 1) := by decide +kernel
theorem dX9_free_21 : decode cX9_free 21 = .ok (.bipush (-9), 2) := by decide +kernel
theorem dX9_free_23 : decode cX9_free 23 = .ok (.if_icmp .ne 6, 3) := by decide +kernel
theorem dX9_free_26 : decode cX9_free 26 = .ok (.bipush (-2), 2) := by decide +kernel
theorem dX9_free_28 : decode cX9_free 28 = .ok (.ireturn, 1) := by decide +kernel
theorem dX9_free_29 : decode cX9_free 29 = .ok (.aload_n 0, 1) := by decide +kernel
theorem dX9_free_30 : decode cX9_free 30 = .ok (.getfield 29, 3) := by decide +kernel
theorem dX9_free_33 : decode cX9_free 33 = .ok (.getfield 132, 3) := by decide +kernel
theorem dX9_free_36 : decode cX9_free 36 = .ok (.iload_n 1, 1) := by decide +kernel
theorem dX9_free_37 : decode cX9_free 37 = .ok (.bipush (-9), 2) := by decide +kernel
theorem dX9_free_39 : decode cX9_free 39 = .ok (.iastore, 1) := by decide +kernel
theorem dX9_free_40 : decode cX9_free 40 = .ok (.iload_n 2, 1) := by decide +kernel
theorem dX9_free_41 : decode cX9_free 41 = .ok (.ireturn, 1) := by decide +kernel
theorem dX9_stone_0 : decode cX9_stone 0 = .ok (.aload_n 0, 1) := by decide +kernel
theorem dX9_stone_1 : decode cX9_stone 1 = .ok (.iload_n 1, 1) := by decide +kernel
theorem dX9_stone_2 : decode cX9_stone 2 = .ok (.invokevirtual 118, 3) := by decide +kernel
theorem dX9_stone_5 : decode cX9_stone 5 = .ok (.ifCond .eq 12, 3) := by decide +kernel
theorem dX9_stone_8 : decode cX9_stone 8 = .ok (.iload_n 2, 1) := by decide +kernel
theorem dX9_stone_9 : decode cX9_stone 9 = .ok (.ifCond .lt 8, 3) := by decide +kernel
theorem dX9_stone_12 : decode cX9_stone 12 = .ok (.iload_n 2, 1) := by decide +kernel
theorem dX9_stone_13 : decode cX9_stone 13 = .ok (.iconst 1, 1) := by decide +kernel
theorem dX9_stone_14 : decode cX9_stone 14 = .ok (.if_icmp .le 5, 3) := by decide +kernel
theorem dX9_stone_17 : decode cX9_stone 17 = .ok (.iconst (-1), 1) := by decide +kernel
theorem dX9_stone_18 : decode cX9_stone 18 = .ok (.ireturn, 1) := by decide +kernel
theorem dX9_stone_19 : decode cX9_stone 19 = .ok (.aload_n 0, 1) := by decide +kernel
theorem dX9_stone_20 : decode cX9_stone 20 = .ok (.getfield 29, 3) := by decide +kernel
theorem dX9_stone_23 : decode cX9_stone 23 = .ok (.getfield 135, 3) := by decide +kernel
theorem dX9_stone_26 : decode cX9_stone 26 = .ok (.iload_n 1, 1) := by decide +kernel
theorem dX9_stone_27 : decode cX9_stone 27 = .ok (.ishr, 1) := by decide +kernel
theorem dX9_stone_28 : decode cX9_stone 28 = .ok (.iconst 1, 1) := by decide +kernel
theorem dX9_stone_29 : decode cX9_stone 29 = .ok (.iand, 1) := by decide +kernel
theorem dX9_stone_30 : decode cX9_stone 30 = .ok (.istore_n 3, 1) := by decide +kernel
theorem dX9_stone_31 : decode cX9_stone 31 = .ok (.iload_n 2, 1) := by decide +kernel
theorem dX9_stone_32 : decode cX9_stone 32 = .ok (.iconst 1, 1) := by decide +kernel
theorem dX9_stone_33 : decode cX9_stone 33 = .ok (.if_icmp .ne 14, 3) := by decide +kernel
theorem dX9_stone_36 : decode cX9_stone 36 = .ok (.aload_n 0, 1) := by decide +kernel
theorem dX9_stone_37 : decode cX9_stone 37 = .ok (.getfield 29, 3) := by decide +kernel
theorem dX9_stone_40 : decode cX9_stone 40 = .ok (.iload_n 1, 1) := by decide +kernel
theorem dX9_stone_41 : decode cX9_stone 41 = .ok (.invokevirtual 165, 3) := by decide +kernel
theorem dX9_stone_44 : decode cX9_stone 44 = .ok (.goto 11, 3) := by decide +kernel
theorem dX9_stone_47 : decode cX9_stone 47 = .ok (.aload_n 0, 1) := by decide +kernel
theorem dX9_stone_48 : decode cX9_stone 48 = .ok (.getfield 29, 3) := by decide +kernel
theorem dX9_stone_51 : decode cX9_stone 51 = .ok (.iload_n 1, 1) := by decide +kernel
theorem dX9_stone_52 : decode cX9_stone 52 = .ok (.invokevirtual 169, 3) := by decide +kernel
theorem dX9_stone_55 : decode cX9_stone 55 = .ok (.iload_n 3, 1) := by decide +kernel
theorem dX9_stone_56 : decode cX9_stone 56 = .ok (.ireturn, 1) := by decide +kernel
theorem dX9_flood_0 : decode cX9_flood 0 = .ok (.aload_n 0, 1) := by decide +kernel
theorem dX9_flood_1 : decode cX9_flood 1 = .ok (.iload_n 1, 1) := by decide +kernel
theorem dX9_flood_2 : decode cX9_flood 2 = .ok (.invokevirtual 118, 3) := by decide +kernel
theorem dX9_flood_5 : decode cX9_flood 5 = .ok (.ifCond .eq 13, 3) := by decide +kernel
theorem dX9_flood_8 : decode cX9_flood 8 = .ok (.iload_n 2, 1) := by decide +kernel
theorem dX9_flood_9 : decode cX9_flood 9 = .ok (.ifCond .lt 9, 3) := by decide +kernel
theorem dX9_flood_12 : decode cX9_flood 12 = .ok (.iload_n 2, 1) := by decide +kernel
theorem dX9_flood_13 : decode cX9_flood 13 = .ok (.bipush 9, 2) := by decide +kernel
theorem dX9_flood_15 : decode cX9_flood 15 = .ok (.if_icmp .le 5, 3) := by decide +kernel
theorem dX9_flood_18 : decode cX9_flood 18 = .ok (.iconst (-1), 1) := by decide +kernel
theorem dX9_flood_19 : decode cX9_flood 19 = .ok (.ireturn, 1) := by decide +kernel
theorem dX9_flood_20 : decode cX9_flood 20 = .ok (.aload_n 0, 1) := by decide +kernel
theorem dX9_flood_21 : decode cX9_flood 21 = .ok (.getfield 29, 3) := by decide +kernel
theorem dX9_flood_24 : decode cX9_flood 24 = .ok (.getfield 138, 3) := by decide +kernel
theorem dX9_flood_27 : decode cX9_flood 27 = .ok (.iload_n 1, 1) := by decide +kernel
theorem dX9_flood_28 : decode cX9_flood 28 = .ok (.iaload, 1) := by decide +kernel
theorem dX9_flood_29 : decode cX9_flood 29 = .ok (.istore_n 3, 1) := by decide +kernel
theorem dX9_flood_30 : decode cX9_flood 30 = .ok (.aload_n 0, 1) := by decide +kernel
theorem dX9_flood_31 : decode cX9_flood 31 = .ok (.getfield 29, 3) := by decide +kernel
theorem dX9_flood_34 : decode cX9_flood 34 = .ok (.getfield 138, 3) := by decide +kernel
theorem dX9_flood_37 : decode cX9_flood 37 = .ok (.iload_n 1, 1) := by decide +kernel
theorem dX9_flood_38 : decode cX9_flood 38 = .ok (.iload_n 2, 1) := by decide +kernel
theorem dX9_flood_39 : decode cX9_flood 39 = .ok (.iastore, 1) := by decide +kernel
theorem dX9_flood_40 : decode cX9_flood 40 = .ok (.iload_n 3, 1) := by decide +kernel
theorem dX9_flood_41 : decode cX9_flood 41 = .ok (.ireturn, 1) := by decide +kernel
theorem dX9_way_0 : decode cX9_way 0 = .ok (.aload_n 0, 1) := by decide +kernel
theorem dX9_way_1 : decode cX9_way 1 = .ok (.iload_n 1, 1) := by decide +kernel
theorem dX9_way_2 : decode cX9_way 2 = .ok (.invokevirtual 141, 3) := by decide +kernel
theorem dX9_way_5 : decode cX9_way 5 = .ok (.ifCond .ne 5, 3) := by decide +kernel
theorem dX9_way_8 : decode cX9_way 8 = .ok (.iconst (-1), 1) := by decide +kernel
theorem dX9_way_9 : decode cX9_way 9 = .ok (.ireturn, 1) := by decide +kernel
theorem dX9_way_10 : decode cX9_way 10 = .ok (.aload_n 0, 1) := by decide +kernel
theorem dX9_way_11 : decode cX9_way 11 = .ok (.iload_n 1, 1) := by decide +kernel
theorem dX9_way_12 : decode cX9_way 12 = .ok (.invokevirtual 172, 3) := by decide +kernel
theorem dX9_way_15 : decode cX9_way 15 = .ok (.invokestatic 175, 3) := by decide +kernel
theorem dX9_way_18 : decode cX9_way 18 = .ok (.ireturn, 1) := by decide +kernel
theorem dX9_place_0 : decode cX9_place 0 = .ok (.aload_n 0, 1) := by decide +kernel
theorem dX9_place_1 : decode cX9_place 1 = .ok (.iload_n 1, 1) := by decide +kernel
theorem dX9_place_2 : decode cX9_place 2 = .ok (.invokevirtual 141, 3) := by decide +kernel
theorem dX9_place_5 : decode cX9_place 5 = .ok (.ifCond .eq 7, 3) := by decide +kernel
theorem dX9_place_8 : decode cX9_place 8 = .ok (.iload_n 2, 1) := by decide +kernel
theorem dX9_place_9 : decode cX9_place 9 = .ok (.ifCond .ge 5, 3) := by decide +kernel
theorem dX9_place_12 : decode cX9_place 12 = .ok (.iconst (-1), 1) := by decide +kernel
theorem dX9_place_13 : decode cX9_place 13 = .ok (.ireturn, 1) := by decide +kernel
theorem dX9_place_14 : decode cX9_place 14 = .ok (.aload_n 0, 1) := by decide +kernel
theorem dX9_place_15 : decode cX9_place 15 = .ok (.getfield 58, 3) := by decide +kernel
theorem dX9_place_18 : decode cX9_place 18 = .ok (.iload_n 1, 1) := by decide +kernel
theorem dX9_place_19 : decode cX9_place 19 = .ok (.aload_n 0, 1) := by decide +kernel
theorem dX9_place_20 : decode cX9_place 20 = .ok (.getfield 29, 3) := by decide +kernel
theorem dX9_place_23 : decode cX9_place 23 = .ok (.iload_n 1, 1) := by decide +kernel
theorem dX9_place_24 : decode cX9_place 24 = .ok (.invokevirtual 153, 3) := by decide +kernel
theorem dX9_place_27 : decode cX9_place 27 = .ok (.iload_n 2, 1) := by decide +kernel
theorem dX9_place_28 : decode cX9_place 28 = .ok (.invokevirtual 178, 3) := by decide +kernel
theorem dX9_place_31 : decode cX9_place 31 = .ok (.ireturn, 1) := by decide +kernel
theorem dX9_pole_0 : decode cX9_pole 0 = .ok (.aload_n 0, 1) := by decide +kernel
theorem dX9_pole_1 : decode cX9_pole 1 = .ok (.iload_n 1, 1) := by decide +kernel
theorem dX9_pole_2 : decode cX9_pole 2 = .ok (.invokevirtual 141, 3) := by decide +kernel
theorem dX9_pole_5 : decode cX9_pole 5 = .ok (.ifCond .eq 13, 3) := by decide +kernel
theorem dX9_pole_8 : decode cX9_pole 8 = .ok (.iload_n 2, 1) := by decide +kernel
theorem dX9_pole_9 : decode cX9_pole 9 = .ok (.ifCond .lt 9, 3) := by decide +kernel
theorem dX9_pole_12 : decode cX9_pole 12 = .ok (.iload_n 2, 1) := by decide +kernel
theorem dX9_pole_13 : decode cX9_pole 13 = .ok (.bipush 30, 2) := by decide +kernel
theorem dX9_pole_15 : decode cX9_pole 15 = .ok (.if_icmp .le 5, 3) := by decide +kernel
theorem dX9_pole_18 : decode cX9_pole 18 = .ok (.iconst (-1), 1) := by decide +kernel
theorem dX9_pole_19 : decode cX9_pole 19 = .ok (.ireturn, 1) := by decide +kernel
theorem dX9_pole_20 : decode cX9_pole 20 = .ok (.aload_n 0, 1) := by decide +kernel
theorem dX9_pole_21 : decode cX9_pole 21 = .ok (.getfield 29, 3) := by decide +kernel
theorem dX9_pole_24 : decode cX9_pole 24 = .ok (.iload_n 1, 1) := by decide +kernel
theorem dX9_pole_25 : decode cX9_pole 25 = .ok (.invokevirtual 153, 3) := by decide +kernel
theorem dX9_pole_28 : decode cX9_pole 28 = .ok (.aload_n 0, 1) := by decide +kernel
theorem dX9_pole_29 : decode cX9_pole 29 = .ok (.getfield 19, 3) := by decide +kernel
theorem dX9_pole_32 : decode cX9_pole 32 = .ok (.iload_n 2, 1) := by decide +kernel
theorem dX9_pole_33 : decode cX9_pole 33 = .ok (.invokevirtual 182, 3) := by decide +kernel
theorem dX9_pole_36 : decode cX9_pole 36 = .ok (.iand, 1) := by decide +kernel
theorem dX9_pole_37 : decode cX9_pole 37 = .ok (.istore_n 3, 1) := by decide +kernel
theorem dX9_pole_38 : decode cX9_pole 38 = .ok (.aload_n 0, 1) := by decide +kernel
theorem dX9_pole_39 : decode cX9_pole 39 = .ok (.getfield 58, 3) := by decide +kernel
theorem dX9_pole_42 : decode cX9_pole 42 = .ok (.iload_n 1, 1) := by decide +kernel
theorem dX9_pole_43 : decode cX9_pole 43 = .ok (.iload_n 3, 1) := by decide +kernel
theorem dX9_pole_44 : decode cX9_pole 44 = .ok (.invokevirtual 185, 3) := by decide +kernel
theorem dX9_pole_47 : decode cX9_pole 47 = .ok (.invokestatic 175, 3) := by decide +kernel
theorem dX9_pole_50 : decode cX9_pole 50 = .ok (.ireturn, 1) := by decide +kernel
theorem dX9_judge_0 : decode cX9_judge 0 = .ok (.iconst 0, 1) := by decide +kernel
theorem dX9_judge_1 : decode cX9_judge 1 = .ok (.istore_n 2, 1) := by decide +kernel
theorem dX9_judge_2 : decode cX9_judge 2 = .ok (.iconst 0, 1) := by decide +kernel
theorem dX9_judge_3 : decode cX9_judge 3 = .ok (.istore_n 3, 1) := by decide +kernel
theorem dX9_judge_4 : decode cX9_judge 4 = .ok (.iconst 0, 1) := by decide +kernel
theorem dX9_judge_5 : decode cX9_judge 5 = .ok (.istore 4, 2) := by decide +kernel
theorem dX9_judge_7 : decode cX9_judge 7 = .ok (.iconst 0, 1) := by decide +kernel
theorem dX9_judge_8 : decode cX9_judge 8 = .ok (.istore 5, 2) := by decide +kernel
theorem dX9_judge_10 : decode cX9_judge 10 = .ok (.iload 5, 2) := by decide +kernel
theorem dX9_judge_12 : decode cX9_judge 12 = .ok (.aload_n 0, 1) := by decide +kernel
theorem dX9_judge_13 : decode cX9_judge 13 = .ok (.getfield 19, 3) := by decide +kernel
theorem dX9_judge_16 : decode cX9_judge 16 = .ok (.getfield 188, 3) := by decide +kernel
theorem dX9_judge_19 : decode cX9_judge 19 = .ok (.if_icmp .ge 60, 3) := by decide +kernel
theorem dX9_judge_22 : decode cX9_judge 22 = .ok (.aload_n 0, 1) := by decide +kernel
theorem dX9_judge_23 : decode cX9_judge 23 = .ok (.iload 5, 2) := by decide +kernel
theorem dX9_judge_25 : decode cX9_judge 25 = .ok (.invokevirtual 172, 3) := by decide +kernel
theorem dX9_judge_28 : decode cX9_judge 28 = .ok (.istore 6, 2) := by decide +kernel
theorem dX9_judge_30 : decode cX9_judge 30 = .ok (.iload_n 2, 1) := by decide +kernel
theorem dX9_judge_31 : decode cX9_judge 31 = .ok (.iload 6, 2) := by decide +kernel
theorem dX9_judge_33 : decode cX9_judge 33 = .ok (.aload_n 0, 1) := by decide +kernel
theorem dX9_judge_34 : decode cX9_judge 34 = .ok (.getfield 19, 3) := by decide +kernel
theorem dX9_judge_37 : decode cX9_judge 37 = .ok (.getfield 150, 3) := by decide +kernel
theorem dX9_judge_40 : decode cX9_judge 40 = .ok (.iload 5, 2) := by decide +kernel
theorem dX9_judge_42 : decode cX9_judge 42 = .ok (.iaload, 1) := by decide +kernel
theorem dX9_judge_43 : decode cX9_judge 43 = .ok (.imul, 1) := by decide +kernel
theorem dX9_judge_44 : decode cX9_judge 44 = .ok (.iadd, 1) := by decide +kernel
theorem dX9_judge_45 : decode cX9_judge 45 = .ok (.istore_n 2, 1) := by decide +kernel
theorem dX9_judge_46 : decode cX9_judge 46 = .ok (.iload_n 3, 1) := by decide +kernel
theorem dX9_judge_47 : decode cX9_judge 47 = .ok (.iload 6, 2) := by decide +kernel
theorem dX9_judge_49 : decode cX9_judge 49 = .ok (.invokestatic 191, 3) := by decide +kernel
theorem dX9_judge_52 : decode cX9_judge 52 = .ok (.istore_n 3, 1) := by decide +kernel
theorem dX9_judge_53 : decode cX9_judge 53 = .ok (.iload 4, 2) := by decide +kernel
theorem dX9_judge_55 : decode cX9_judge 55 = .ok (.iload 6, 2) := by decide +kernel
theorem dX9_judge_57 : decode cX9_judge 57 = .ok (.ldc 196, 2) := by decide +kernel
theorem dX9_judge_59 : decode cX9_judge 59 = .ok (.if_icmp .lt 10, 3) := by decide +kernel
theorem dX9_judge_62 : decode cX9_judge 62 = .ok (.iconst 1, 1) := by decide +kernel
theorem dX9_judge_63 : decode cX9_judge 63 = .ok (.iload 5, 2) := by decide +kernel
theorem dX9_judge_65 : decode cX9_judge 65 = .ok (.ishl, 1) := by decide +kernel
theorem dX9_judge_66 : decode cX9_judge 66 = .ok (.goto 4, 3) := by decide +kernel
theorem dX9_judge_69 : decode cX9_judge 69 = .ok (.iconst 0, 1) := by decide +kernel
theorem dX9_judge_70 : decode cX9_judge 70 = .ok (.ior, 1) := by decide +kernel
theorem dX9_judge_71 : decode cX9_judge 71 = .ok (.istore 4, 2) := by decide +kernel
theorem dX9_judge_73 : decode cX9_judge 73 = .ok (.iinc 5 1, 3) := by decide +kernel
theorem dX9_judge_76 : decode cX9_judge 76 = .ok (.goto (-66), 3) := by decide +kernel
theorem dX9_judge_79 : decode cX9_judge 79 = .ok (.iload_n 1, 1) := by decide +kernel
theorem dX9_judge_80 : decode cX9_judge 80 = .ok (.tableswitch 41 0 2 #[28, 33, 38], 28) := by decide +kernel
theorem dX9_judge_108 : decode cX9_judge 108 = .ok (.iload_n 2, 1) := by decide +kernel
theorem dX9_judge_109 : decode cX9_judge 109 = .ok (.invokestatic 175, 3) := by decide +kernel
theorem dX9_judge_112 : decode cX9_judge 112 = .ok (.ireturn, 1) := by decide +kernel
theorem dX9_judge_113 : decode cX9_judge 113 = .ok (.iload_n 3, 1) := by decide +kernel
theorem dX9_judge_114 : decode cX9_judge 114 = .ok (.invokestatic 175, 3) := by decide +kernel
theorem dX9_judge_117 : decode cX9_judge 117 = .ok (.ireturn, 1) := by decide +kernel
theorem dX9_judge_118 : decode cX9_judge 118 = .ok (.iload 4, 2) := by decide +kernel
theorem dX9_judge_120 : decode cX9_judge 120 = .ok (.ireturn, 1) := by decide +kernel
theorem dX9_judge_121 : decode cX9_judge 121 = .ok (.iconst (-1), 1) := by decide +kernel
theorem dX9_judge_122 : decode cX9_judge 122 = .ok (.ireturn, 1) := by decide +kernel
theorem dX9_one_0 : decode cX9_one 0 = .ok (.iload_n 1, 1) := by decide +kernel
theorem dX9_one_1 : decode cX9_one 1 = .ok (.ifCond .lt 21, 3) := by decide +kernel
theorem dX9_one_4 : decode cX9_one 4 = .ok (.iload_n 1, 1) := by decide +kernel
theorem dX9_one_5 : decode cX9_one 5 = .ok (.iconst 1, 1) := by decide +kernel
theorem dX9_one_6 : decode cX9_one 6 = .ok (.if_icmp .gt 16, 3) := by decide +kernel
theorem dX9_one_9 : decode cX9_one 9 = .ok (.iload_n 2, 1) := by decide +kernel
theorem dX9_one_10 : decode cX9_one 10 = .ok (.iconst (-1), 1) := by decide +kernel
theorem dX9_one_11 : decode cX9_one 11 = .ok (.if_icmp .eq 13, 3) := by decide +kernel
theorem dX9_one_14 : decode cX9_one 14 = .ok (.aload_n 0, 1) := by decide +kernel
theorem dX9_one_15 : decode cX9_one 15 = .ok (.iload_n 2, 1) := by decide +kernel
theorem dX9_one_16 : decode cX9_one 16 = .ok (.invokevirtual 141, 3) := by decide +kernel
theorem dX9_one_19 : decode cX9_one 19 = .ok (.ifCond .ne 5, 3) := by decide +kernel
theorem dX9_one_22 : decode cX9_one 22 = .ok (.iconst (-1), 1) := by decide +kernel
theorem dX9_one_23 : decode cX9_one 23 = .ok (.ireturn, 1) := by decide +kernel
theorem dX9_one_24 : decode cX9_one 24 = .ok (.aload_n 0, 1) := by decide +kernel
theorem dX9_one_25 : decode cX9_one 25 = .ok (.getfield 67, 3) := by decide +kernel
theorem dX9_one_28 : decode cX9_one 28 = .ok (.iload_n 1, 1) := by decide +kernel
theorem dX9_one_29 : decode cX9_one 29 = .ok (.ifCond .ne 7, 3) := by decide +kernel
theorem dX9_one_32 : decode cX9_one 32 = .ok (.iconst 0, 1) := by decide +kernel
theorem dX9_one_33 : decode cX9_one 33 = .ok (.goto 4, 3) := by decide +kernel
theorem dX9_one_36 : decode cX9_one 36 = .ok (.iconst 1, 1) := by decide +kernel
theorem dX9_one_37 : decode cX9_one 37 = .ok (.aload_n 0, 1) := by decide +kernel
theorem dX9_one_38 : decode cX9_one 38 = .ok (.getfield 29, 3) := by decide +kernel
theorem dX9_one_41 : decode cX9_one 41 = .ok (.getfield 135, 3) := by decide +kernel
theorem dX9_one_44 : decode cX9_one 44 = .ok (.invokevirtual 197, 3) := by decide +kernel
theorem dX9_one_47 : decode cX9_one 47 = .ok (.aload_n 0, 1) := by decide +kernel
theorem dX9_one_48 : decode cX9_one 48 = .ok (.iload_n 2, 1) := by decide +kernel
theorem dX9_one_49 : decode cX9_one 49 = .ok (.invokevirtual 201, 3) := by decide +kernel
theorem dX9_one_52 : decode cX9_one 52 = .ok (.ireturn, 1) := by decide +kernel
theorem dX9_all_0 : decode cX9_all 0 = .ok (.iload_n 1, 1) := by decide +kernel
theorem dX9_all_1 : decode cX9_all 1 = .ok (.iconst (-1), 1) := by decide +kernel
theorem dX9_all_2 : decode cX9_all 2 = .ok (.if_icmp .eq 13, 3) := by decide +kernel
theorem dX9_all_5 : decode cX9_all 5 = .ok (.aload_n 0, 1) := by decide +kernel
theorem dX9_all_6 : decode cX9_all 6 = .ok (.iload_n 1, 1) := by decide +kernel
theorem dX9_all_7 : decode cX9_all 7 = .ok (.invokevirtual 118, 3) := by decide +kernel
theorem dX9_all_10 : decode cX9_all 10 = .ok (.ifCond .ne 5, 3) := by decide +kernel
theorem dX9_all_13 : decode cX9_all 13 = .ok (.iconst (-1), 1) := by decide +kernel
theorem dX9_all_14 : decode cX9_all 14 = .ok (.ireturn, 1) := by decide +kernel
theorem dX9_all_15 : decode cX9_all 15 = .ok (.aload_n 0, 1) := by decide +kernel
theorem dX9_all_16 : decode cX9_all 16 = .ok (.getfield 67, 3) := by decide +kernel
theorem dX9_all_19 : decode cX9_all 19 = .ok (.iconst 2, 1) := by decide +kernel
theorem dX9_all_20 : decode cX9_all 20 = .ok (.aload_n 0, 1) := by decide +kernel
theorem dX9_all_21 : decode cX9_all 21 = .ok (.getfield 29, 3) := by decide +kernel
theorem dX9_all_24 : decode cX9_all 24 = .ok (.getfield 135, 3) := by decide +kernel
theorem dX9_all_27 : decode cX9_all 27 = .ok (.invokevirtual 197, 3) := by decide +kernel
theorem dX9_all_30 : decode cX9_all 30 = .ok (.aload_n 0, 1) := by decide +kernel
theorem dX9_all_31 : decode cX9_all 31 = .ok (.iload_n 1, 1) := by decide +kernel
theorem dX9_all_32 : decode cX9_all 32 = .ok (.invokevirtual 201, 3) := by decide +kernel
theorem dX9_all_35 : decode cX9_all 35 = .ok (.ireturn, 1) := by decide +kernel
theorem dX9_change_0 : decode cX9_change 0 = .ok (.aload_n 0, 1) := by decide +kernel
theorem dX9_change_1 : decode cX9_change 1 = .ok (.getfield 74, 3) := by decide +kernel
theorem dX9_change_4 : decode cX9_change 4 = .ok (.aload_n 0, 1) := by decide +kernel
theorem dX9_change_5 : decode cX9_change 5 = .ok (.getfield 29, 3) := by decide +kernel
theorem dX9_change_8 : decode cX9_change 8 = .ok (.getfield 132, 3) := by decide +kernel
theorem dX9_change_11 : decode cX9_change 11 = .ok (.invokevirtual 204, 3) := by decide +kernel
theorem dX9_change_14 : decode cX9_change 14 = .ok (.ireturn, 1) := by decide +kernel
theorem dX9_rest_0 : decode cX9_rest 0 = .ok (.aload_n 0, 1) := by decide +kernel
theorem dX9_rest_1 : decode cX9_rest 1 = .ok (.getfield 74, 3) := by decide +kernel
theorem dX9_rest_4 : decode cX9_rest 4 = .ok (.aload_n 0, 1) := by decide +kernel
theorem dX9_rest_5 : decode cX9_rest 5 = .ok (.getfield 29, 3) := by decide +kernel
theorem dX9_rest_8 : decode cX9_rest 8 = .ok (.getfield 132, 3) := by decide +kernel
theorem dX9_rest_11 : decode cX9_rest 11 = .ok (.invokevirtual 208, 3) := by decide +kernel
theorem dX9_rest_14 : decode cX9_rest 14 = .ok (.ireturn, 1) := by decide +kernel
theorem dX9_match_0 : decode cX9_match 0 = .ok (.aload_n 0, 1) := by decide +kernel
theorem dX9_match_1 : decode cX9_match 1 = .ok (.iload_n 1, 1) := by decide +kernel
theorem dX9_match_2 : decode cX9_match 2 = .ok (.invokevirtual 141, 3) := by decide +kernel
theorem dX9_match_5 : decode cX9_match 5 = .ok (.ifCond .eq 16, 3) := by decide +kernel
theorem dX9_match_8 : decode cX9_match 8 = .ok (.aload_n 0, 1) := by decide +kernel
theorem dX9_match_9 : decode cX9_match 9 = .ok (.iload_n 2, 1) := by decide +kernel
theorem dX9_match_10 : decode cX9_match 10 = .ok (.invokevirtual 141, 3) := by decide +kernel
theorem dX9_match_13 : decode cX9_match 13 = .ok (.ifCond .eq 8, 3) := by decide +kernel
theorem dX9_match_16 : decode cX9_match 16 = .ok (.iload_n 1, 1) := by decide +kernel
theorem dX9_match_17 : decode cX9_match 17 = .ok (.iload_n 2, 1) := by decide +kernel
theorem dX9_match_18 : decode cX9_match 18 = .ok (.if_icmp .ne 5, 3) := by decide +kernel
theorem dX9_match_21 : decode cX9_match 21 = .ok (.iconst (-1), 1) := by decide +kernel
theorem dX9_match_22 : decode cX9_match 22 = .ok (.ireturn, 1) := by decide +kernel
theorem dX9_match_23 : decode cX9_match 23 = .ok (.aload_n 0, 1) := by decide +kernel
theorem dX9_match_24 : decode cX9_match 24 = .ok (.getfield 29, 3) := by decide +kernel
theorem dX9_match_27 : decode cX9_match 27 = .ok (.iload_n 1, 1) := by decide +kernel
theorem dX9_match_28 : decode cX9_match 28 = .ok (.invokevirtual 153, 3) := by decide +kernel
theorem dX9_match_31 : decode cX9_match 31 = .ok (.istore_n 3, 1) := by decide +kernel
theorem dX9_match_32 : decode cX9_match 32 = .ok (.aload_n 0, 1) := by decide +kernel
theorem dX9_match_33 : decode cX9_match 33 = .ok (.getfield 29, 3) := by decide +kernel
theorem dX9_match_36 : decode cX9_match 36 = .ok (.iload_n 2, 1) := by decide +kernel
theorem dX9_match_37 : decode cX9_match 37 = .ok (.invokevirtual 153, 3) := by decide +kernel
theorem dX9_match_40 : decode cX9_match 40 = .ok (.istore 4, 2) := by decide +kernel
theorem dX9_match_42 : decode cX9_match 42 = .ok (.aload_n 0, 1) := by decide +kernel
theorem dX9_match_43 : decode cX9_match 43 = .ok (.getfield 58, 3) := by decide +kernel
theorem dX9_match_46 : decode cX9_match 46 = .ok (.iload_n 1, 1) := by decide +kernel
theorem dX9_match_47 : decode cX9_match 47 = .ok (.iload_n 3, 1) := by decide +kernel
theorem dX9_match_48 : decode cX9_match 48 = .ok (.iload 4, 2) := by decide +kernel
theorem dX9_match_50 : decode cX9_match 50 = .ok (.ior, 1) := by decide +kernel
theorem dX9_match_51 : decode cX9_match 51 = .ok (.invokevirtual 211, 3) := by decide +kernel
theorem dX9_match_54 : decode cX9_match 54 = .ok (.aload_n 0, 1) := by decide +kernel
theorem dX9_match_55 : decode cX9_match 55 = .ok (.getfield 58, 3) := by decide +kernel
theorem dX9_match_58 : decode cX9_match 58 = .ok (.iload_n 2, 1) := by decide +kernel
theorem dX9_match_59 : decode cX9_match 59 = .ok (.iload_n 3, 1) := by decide +kernel
theorem dX9_match_60 : decode cX9_match 60 = .ok (.iload 4, 2) := by decide +kernel
theorem dX9_match_62 : decode cX9_match 62 = .ok (.ior, 1) := by decide +kernel
theorem dX9_match_63 : decode cX9_match 63 = .ok (.invokevirtual 211, 3) := by decide +kernel
theorem dX9_match_66 : decode cX9_match 66 = .ok (.iadd, 1) := by decide +kernel
theorem dX9_match_67 : decode cX9_match 67 = .ok (.istore 5, 2) := by decide +kernel
theorem dX9_match_69 : decode cX9_match 69 = .ok (.iload 5, 2) := by decide +kernel
theorem dX9_match_71 : decode cX9_match 71 = .ok (.ldc 196, 2) := by decide +kernel
theorem dX9_match_73 : decode cX9_match 73 = .ok (.if_icmp .lt 6, 3) := by decide +kernel
theorem dX9_match_76 : decode cX9_match 76 = .ok (.bipush (-9), 2) := by decide +kernel
theorem dX9_match_78 : decode cX9_match 78 = .ok (.ireturn, 1) := by decide +kernel
theorem dX9_match_79 : decode cX9_match 79 = .ok (.iload 5, 2) := by decide +kernel
theorem dX9_match_81 : decode cX9_match 81 = .ok (.aload_n 0, 1) := by decide +kernel
theorem dX9_match_82 : decode cX9_match 82 = .ok (.getfield 58, 3) := by decide +kernel
theorem dX9_match_85 : decode cX9_match 85 = .ok (.iload_n 1, 1) := by decide +kernel
theorem dX9_match_86 : decode cX9_match 86 = .ok (.iload_n 3, 1) := by decide +kernel
theorem dX9_match_87 : decode cX9_match 87 = .ok (.invokevirtual 211, 3) := by decide +kernel
theorem dX9_match_90 : decode cX9_match 90 = .ok (.isub, 1) := by decide +kernel
theorem dX9_match_91 : decode cX9_match 91 = .ok (.aload_n 0, 1) := by decide +kernel
theorem dX9_match_92 : decode cX9_match 92 = .ok (.getfield 58, 3) := by decide +kernel
theorem dX9_match_95 : decode cX9_match 95 = .ok (.iload_n 2, 1) := by decide +kernel
theorem dX9_match_96 : decode cX9_match 96 = .ok (.iload 4, 2) := by decide +kernel
theorem dX9_match_98 : decode cX9_match 98 = .ok (.invokevirtual 211, 3) := by decide +kernel
theorem dX9_match_101 : decode cX9_match 101 = .ok (.isub, 1) := by decide +kernel
theorem dX9_match_102 : decode cX9_match 102 = .ok (.ireturn, 1) := by decide +kernel
theorem dX9_always_0 : decode cX9_always 0 = .ok (.aload_n 0, 1) := by decide +kernel
theorem dX9_always_1 : decode cX9_always 1 = .ok (.getfield 29, 3) := by decide +kernel
theorem dX9_always_4 : decode cX9_always 4 = .ok (.getfield 135, 3) := by decide +kernel
theorem dX9_always_7 : decode cX9_always 7 = .ok (.istore_n 1, 1) := by decide +kernel
theorem dX9_always_8 : decode cX9_always 8 = .ok (.iconst 0, 1) := by decide +kernel
theorem dX9_always_9 : decode cX9_always 9 = .ok (.istore_n 2, 1) := by decide +kernel
theorem dX9_always_10 : decode cX9_always 10 = .ok (.iload_n 2, 1) := by decide +kernel
theorem dX9_always_11 : decode cX9_always 11 = .ok (.aload_n 0, 1) := by decide +kernel
theorem dX9_always_12 : decode cX9_always 12 = .ok (.getfield 19, 3) := by decide +kernel
theorem dX9_always_15 : decode cX9_always 15 = .ok (.getfield 188, 3) := by decide +kernel
theorem dX9_always_18 : decode cX9_always 18 = .ok (.if_icmp .ge 37, 3) := by decide +kernel
theorem dX9_always_21 : decode cX9_always 21 = .ok (.aload_n 0, 1) := by decide +kernel
theorem dX9_always_22 : decode cX9_always 22 = .ok (.getfield 58, 3) := by decide +kernel
theorem dX9_always_25 : decode cX9_always 25 = .ok (.iload_n 2, 1) := by decide +kernel
theorem dX9_always_26 : decode cX9_always 26 = .ok (.iconst 0, 1) := by decide +kernel
theorem dX9_always_27 : decode cX9_always 27 = .ok (.invokevirtual 185, 3) := by decide +kernel
theorem dX9_always_30 : decode cX9_always 30 = .ok (.ldc 196, 2) := by decide +kernel
theorem dX9_always_32 : decode cX9_always 32 = .ok (.if_icmp .lt 6, 3) := by decide +kernel
theorem dX9_always_35 : decode cX9_always 35 = .ok (.bipush (-9), 2) := by decide +kernel
theorem dX9_always_37 : decode cX9_always 37 = .ok (.ireturn, 1) := by decide +kernel
theorem dX9_always_38 : decode cX9_always 38 = .ok (.iload_n 1, 1) := by decide +kernel
theorem dX9_always_39 : decode cX9_always 39 = .ok (.aload_n 0, 1) := by decide +kernel
theorem dX9_always_40 : decode cX9_always 40 = .ok (.getfield 58, 3) := by decide +kernel
theorem dX9_always_43 : decode cX9_always 43 = .ok (.iload_n 2, 1) := by decide +kernel
theorem dX9_always_44 : decode cX9_always 44 = .ok (.invokevirtual 214, 3) := by decide +kernel
theorem dX9_always_47 : decode cX9_always 47 = .ok (.ior, 1) := by decide +kernel
theorem dX9_always_48 : decode cX9_always 48 = .ok (.istore_n 1, 1) := by decide +kernel
theorem dX9_always_49 : decode cX9_always 49 = .ok (.iinc 2 1, 3) := by decide +kernel
theorem dX9_always_52 : decode cX9_always 52 = .ok (.goto (-42), 3) := by decide +kernel
theorem dX9_always_55 : decode cX9_always 55 = .ok (.iload_n 1, 1) := by decide +kernel
theorem dX9_always_56 : decode cX9_always 56 = .ok (.ireturn, 1) := by decide +kernel
theorem dX9_shut_0 : decode cX9_shut 0 = .ok (.aload_n 0, 1) := by decide +kernel
theorem dX9_shut_1 : decode cX9_shut 1 = .ok (.iload_n 1, 1) := by decide +kernel
theorem dX9_shut_2 : decode cX9_shut 2 = .ok (.invokevirtual 141, 3) := by decide +kernel
theorem dX9_shut_5 : decode cX9_shut 5 = .ok (.ifCond .eq 12, 3) := by decide +kernel
theorem dX9_shut_8 : decode cX9_shut 8 = .ok (.iload_n 2, 1) := by decide +kernel
theorem dX9_shut_9 : decode cX9_shut 9 = .ok (.ifCond .lt 8, 3) := by decide +kernel
theorem dX9_shut_12 : decode cX9_shut 12 = .ok (.iload_n 2, 1) := by decide +kernel
theorem dX9_shut_13 : decode cX9_shut 13 = .ok (.iconst 1, 1) := by decide +kernel
theorem dX9_shut_14 : decode cX9_shut 14 = .ok (.if_icmp .le 7, 3) := by decide +kernel
theorem dX9_shut_17 : decode cX9_shut 17 = .ok (.ldc2_w 217, 3) := by decide +kernel
theorem dX9_shut_20 : decode cX9_shut 20 = .ok (.lreturn, 1) := by decide +kernel
theorem dX9_shut_21 : decode cX9_shut 21 = .ok (.aload_n 0, 1) := by decide +kernel
theorem dX9_shut_22 : decode cX9_shut 22 = .ok (.getfield 81, 3) := by decide +kernel
theorem dX9_shut_25 : decode cX9_shut 25 = .ok (.iload_n 1, 1) := by decide +kernel
theorem dX9_shut_26 : decode cX9_shut 26 = .ok (.aload_n 0, 1) := by decide +kernel
theorem dX9_shut_27 : decode cX9_shut 27 = .ok (.getfield 29, 3) := by decide +kernel
theorem dX9_shut_30 : decode cX9_shut 30 = .ok (.invokevirtual 219, 3) := by decide +kernel
theorem dX9_shut_33 : decode cX9_shut 33 = .ok (.iload_n 2, 1) := by decide +kernel
theorem dX9_shut_34 : decode cX9_shut 34 = .ok (.ifCond .ne 13, 3) := by decide +kernel
theorem dX9_shut_37 : decode cX9_shut 37 = .ok (.aload_n 0, 1) := by decide +kernel
theorem dX9_shut_38 : decode cX9_shut 38 = .ok (.getfield 81, 3) := by decide +kernel
theorem dX9_shut_41 : decode cX9_shut 41 = .ok (.getfield 223, 3) := by decide +kernel
theorem dX9_shut_44 : decode cX9_shut 44 = .ok (.goto 10, 3) := by decide +kernel
theorem dX9_shut_47 : decode cX9_shut 47 = .ok (.aload_n 0, 1) := by decide +kernel
theorem dX9_shut_48 : decode cX9_shut 48 = .ok (.getfield 81, 3) := by decide +kernel
theorem dX9_shut_51 : decode cX9_shut 51 = .ok (.getfield 226, 3) := by decide +kernel
theorem dX9_shut_54 : decode cX9_shut 54 = .ok (.lreturn, 1) := by decide +kernel
theorem dX9_saw_0 : decode cX9_saw 0 = .ok (.aload_n 0, 1) := by decide +kernel
theorem dX9_saw_1 : decode cX9_saw 1 = .ok (.iload_n 1, 1) := by decide +kernel
theorem dX9_saw_2 : decode cX9_saw 2 = .ok (.invokevirtual 141, 3) := by decide +kernel
theorem dX9_saw_5 : decode cX9_saw 5 = .ok (.ifCond .eq 20, 3) := by decide +kernel
theorem dX9_saw_8 : decode cX9_saw 8 = .ok (.iload_n 2, 1) := by decide +kernel
theorem dX9_saw_9 : decode cX9_saw 9 = .ok (.ifCond .lt 16, 3) := by decide +kernel
theorem dX9_saw_12 : decode cX9_saw 12 = .ok (.iload_n 2, 1) := by decide +kernel
theorem dX9_saw_13 : decode cX9_saw 13 = .ok (.iconst 1, 1) := by decide +kernel
theorem dX9_saw_14 : decode cX9_saw 14 = .ok (.aload_n 0, 1) := by decide +kernel
theorem dX9_saw_15 : decode cX9_saw 15 = .ok (.getfield 19, 3) := by decide +kernel
theorem dX9_saw_18 : decode cX9_saw 18 = .ok (.getfield 229, 3) := by decide +kernel
theorem dX9_saw_21 : decode cX9_saw 21 = .ok (.ishl, 1) := by decide +kernel
theorem dX9_saw_22 : decode cX9_saw 22 = .ok (.if_icmp .lt 5, 3) := by decide +kernel
theorem dX9_saw_25 : decode cX9_saw 25 = .ok (.iconst (-1), 1) := by decide +kernel
theorem dX9_saw_26 : decode cX9_saw 26 = .ok (.ireturn, 1) := by decide +kernel
theorem dX9_saw_27 : decode cX9_saw 27 = .ok (.aload_n 0, 1) := by decide +kernel
theorem dX9_saw_28 : decode cX9_saw 28 = .ok (.getfield 29, 3) := by decide +kernel
theorem dX9_saw_31 : decode cX9_saw 31 = .ok (.getfield 232, 3) := by decide +kernel
theorem dX9_saw_34 : decode cX9_saw 34 = .ok (.bipush 10, 2) := by decide +kernel
theorem dX9_saw_36 : decode cX9_saw 36 = .ok (.if_icmp .lt 6, 3) := by decide +kernel
theorem dX9_saw_39 : decode cX9_saw 39 = .ok (.bipush (-3), 2) := by decide +kernel
theorem dX9_saw_41 : decode cX9_saw 41 = .ok (.ireturn, 1) := by decide +kernel
theorem dX9_saw_42 : decode cX9_saw 42 = .ok (.aload_n 0, 1) := by decide +kernel
theorem dX9_saw_43 : decode cX9_saw 43 = .ok (.getfield 29, 3) := by decide +kernel
theorem dX9_saw_46 : decode cX9_saw 46 = .ok (.getfield 235, 3) := by decide +kernel
theorem dX9_saw_49 : decode cX9_saw 49 = .ok (.iload_n 1, 1) := by decide +kernel
theorem dX9_saw_50 : decode cX9_saw 50 = .ok (.dup2, 1) := by decide +kernel
theorem dX9_saw_51 : decode cX9_saw 51 = .ok (.iaload, 1) := by decide +kernel
theorem dX9_saw_52 : decode cX9_saw 52 = .ok (.iload_n 2, 1) := by decide +kernel
theorem dX9_saw_53 : decode cX9_saw 53 = .ok (.ior, 1) := by decide +kernel
theorem dX9_saw_54 : decode cX9_saw 54 = .ok (.iastore, 1) := by decide +kernel
theorem dX9_saw_55 : decode cX9_saw 55 = .ok (.aload_n 0, 1) := by decide +kernel
theorem dX9_saw_56 : decode cX9_saw 56 = .ok (.getfield 29, 3) := by decide +kernel
theorem dX9_saw_59 : decode cX9_saw 59 = .ok (.dup, 1) := by decide +kernel
theorem dX9_saw_60 : decode cX9_saw 60 = .ok (.getfield 232, 3) := by decide +kernel
theorem dX9_saw_63 : decode cX9_saw 63 = .ok (.iconst 1, 1) := by decide +kernel
theorem dX9_saw_64 : decode cX9_saw 64 = .ok (.iadd, 1) := by decide +kernel
theorem dX9_saw_65 : decode cX9_saw 65 = .ok (.putfield 232, 3) := by decide +kernel
theorem dX9_saw_68 : decode cX9_saw 68 = .ok (.aload_n 0, 1) := by decide +kernel
theorem dX9_saw_69 : decode cX9_saw 69 = .ok (.getfield 29, 3) := by decide +kernel
theorem dX9_saw_72 : decode cX9_saw 72 = .ok (.getfield 232, 3) := by decide +kernel
theorem dX9_saw_75 : decode cX9_saw 75 = .ok (.ireturn, 1) := by decide +kernel
theorem dX9_forget_0 : decode cX9_forget 0 = .ok (.aload_n 0, 1) := by decide +kernel
theorem dX9_forget_1 : decode cX9_forget 1 = .ok (.getfield 29, 3) := by decide +kernel
theorem dX9_forget_4 : decode cX9_forget 4 = .ok (.getfield 232, 3) := by decide +kernel
theorem dX9_forget_7 : decode cX9_forget 7 = .ok (.istore_n 1, 1) := by decide +kernel
theorem dX9_forget_8 : decode cX9_forget 8 = .ok (.aload_n 0, 1) := by decide +kernel
theorem dX9_forget_9 : decode cX9_forget 9 = .ok (.getfield 29, 3) := by decide +kernel
theorem dX9_forget_12 : decode cX9_forget 12 = .ok (.invokevirtual 238, 3) := by decide +kernel
theorem dX9_forget_15 : decode cX9_forget 15 = .ok (.iload_n 1, 1) := by decide +kernel
theorem dX9_forget_16 : decode cX9_forget 16 = .ok (.ireturn, 1) := by decide +kernel
theorem dX9_fits_0 : decode cX9_fits 0 = .ok (.aload_n 0, 1) := by decide +kernel
theorem dX9_fits_1 : decode cX9_fits 1 = .ok (.getfield 88, 3) := by decide +kernel
theorem dX9_fits_4 : decode cX9_fits 4 = .ok (.aload_n 0, 1) := by decide +kernel
theorem dX9_fits_5 : decode cX9_fits 5 = .ok (.getfield 29, 3) := by decide +kernel
theorem dX9_fits_8 : decode cX9_fits 8 = .ok (.iconst (-1), 1) := by decide +kernel
theorem dX9_fits_9 : decode cX9_fits 9 = .ok (.iconst (-1), 1) := by decide +kernel
theorem dX9_fits_10 : decode cX9_fits 10 = .ok (.invokevirtual 241, 3) := by decide +kernel
theorem dX9_fits_13 : decode cX9_fits 13 = .ok (.ireturn, 1) := by decide +kernel
theorem dX9_who_0 : decode cX9_who 0 = .ok (.aload_n 0, 1) := by decide +kernel
theorem dX9_who_1 : decode cX9_who 1 = .ok (.iload_n 1, 1) := by decide +kernel
theorem dX9_who_2 : decode cX9_who 2 = .ok (.invokevirtual 118, 3) := by decide +kernel
theorem dX9_who_5 : decode cX9_who 5 = .ok (.ifCond .ne 5, 3) := by decide +kernel
theorem dX9_who_8 : decode cX9_who 8 = .ok (.iconst (-1), 1) := by decide +kernel
theorem dX9_who_9 : decode cX9_who 9 = .ok (.ireturn, 1) := by decide +kernel
theorem dX9_who_10 : decode cX9_who 10 = .ok (.aload_n 0, 1) := by decide +kernel
theorem dX9_who_11 : decode cX9_who 11 = .ok (.getfield 29, 3) := by decide +kernel
theorem dX9_who_14 : decode cX9_who 14 = .ok (.iload_n 1, 1) := by decide +kernel
theorem dX9_who_15 : decode cX9_who 15 = .ok (.invokevirtual 162, 3) := by decide +kernel
theorem dX9_who_18 : decode cX9_who 18 = .ok (.ifCond .eq 6, 3) := by decide +kernel
theorem dX9_who_21 : decode cX9_who 21 = .ok (.bipush (-2), 2) := by decide +kernel
theorem dX9_who_23 : decode cX9_who 23 = .ok (.ireturn, 1) := by decide +kernel
theorem dX9_who_24 : decode cX9_who 24 = .ok (.aload_n 0, 1) := by decide +kernel
theorem dX9_who_25 : decode cX9_who 25 = .ok (.getfield 88, 3) := by decide +kernel
theorem dX9_who_28 : decode cX9_who 28 = .ok (.aload_n 0, 1) := by decide +kernel
theorem dX9_who_29 : decode cX9_who 29 = .ok (.getfield 29, 3) := by decide +kernel
theorem dX9_who_32 : decode cX9_who 32 = .ok (.iload_n 1, 1) := by decide +kernel
theorem dX9_who_33 : decode cX9_who 33 = .ok (.invokevirtual 245, 3) := by decide +kernel
theorem dX9_who_36 : decode cX9_who 36 = .ok (.ireturn, 1) := by decide +kernel
theorem dX9_mark_0 : decode cX9_mark 0 = .ok (.aload_n 0, 1) := by decide +kernel
theorem dX9_mark_1 : decode cX9_mark 1 = .ok (.iload_n 2, 1) := by decide +kernel
theorem dX9_mark_2 : decode cX9_mark 2 = .ok (.invokevirtual 141, 3) := by decide +kernel
theorem dX9_mark_5 : decode cX9_mark 5 = .ok (.ifCond .ne 6, 3) := by decide +kernel
theorem dX9_mark_8 : decode cX9_mark 8 = .ok (.ldc 249, 2) := by decide +kernel
theorem dX9_mark_10 : decode cX9_mark 10 = .ok (.ireturn, 1) := by decide +kernel
theorem dX9_mark_11 : decode cX9_mark 11 = .ok (.iload_n 1, 1) := by decide +kernel
theorem dX9_mark_12 : decode cX9_mark 12 = .ok (.tableswitch 76 0 5 #[40, 46, 52, 58, 64, 70], 40) := by decide +kernel
theorem dX9_mark_52 : decode cX9_mark 52 = .ok (.aload_n 0, 1) := by decide +kernel
theorem dX9_mark_53 : decode cX9_mark 53 = .ok (.iload_n 2, 1) := by decide +kernel
theorem dX9_mark_54 : decode cX9_mark 54 = .ok (.invokevirtual 250, 3) := by decide +kernel
theorem dX9_mark_57 : decode cX9_mark 57 = .ok (.ireturn, 1) := by decide +kernel
theorem dX9_mark_58 : decode cX9_mark 58 = .ok (.aload_n 0, 1) := by decide +kernel
theorem dX9_mark_59 : decode cX9_mark 59 = .ok (.iload_n 2, 1) := by decide +kernel
theorem dX9_mark_60 : decode cX9_mark 60 = .ok (.invokevirtual 253, 3) := by decide +kernel
theorem dX9_mark_63 : decode cX9_mark 63 = .ok (.ireturn, 1) := by decide +kernel
theorem dX9_mark_64 : decode cX9_mark 64 = .ok (.aload_n 0, 1) := by decide +kernel
theorem dX9_mark_65 : decode cX9_mark 65 = .ok (.iload_n 2, 1) := by decide +kernel
theorem dX9_mark_66 : decode cX9_mark 66 = .ok (.invokevirtual 256, 3) := by decide +kernel
theorem dX9_mark_69 : decode cX9_mark 69 = .ok (.ireturn, 1) := by decide +kernel
theorem dX9_mark_70 : decode cX9_mark 70 = .ok (.aload_n 0, 1) := by decide +kernel
theorem dX9_mark_71 : decode cX9_mark 71 = .ok (.iload_n 2, 1) := by decide +kernel
theorem dX9_mark_72 : decode cX9_mark 72 = .ok (.invokevirtual 259, 3) := by decide +kernel
theorem dX9_mark_75 : decode cX9_mark 75 = .ok (.ireturn, 1) := by decide +kernel
theorem dX9_mark_76 : decode cX9_mark 76 = .ok (.aload_n 0, 1) := by decide +kernel
theorem dX9_mark_77 : decode cX9_mark 77 = .ok (.iload_n 2, 1) := by decide +kernel
theorem dX9_mark_78 : decode cX9_mark 78 = .ok (.invokevirtual 262, 3) := by decide +kernel
theorem dX9_mark_81 : decode cX9_mark 81 = .ok (.ireturn, 1) := by decide +kernel
theorem dX9_mark_82 : decode cX9_mark 82 = .ok (.aload_n 0, 1) := by decide +kernel
theorem dX9_mark_83 : decode cX9_mark 83 = .ok (.iload_n 2, 1) := by decide +kernel
theorem dX9_mark_84 : decode cX9_mark 84 = .ok (.invokevirtual 265, 3) := by decide +kernel
theorem dX9_mark_87 : decode cX9_mark 87 = .ok (.ireturn, 1) := by decide +kernel
theorem dX9_mark_88 : decode cX9_mark 88 = .ok (.ldc 249, 2) := by decide +kernel
theorem dX9_mark_90 : decode cX9_mark 90 = .ok (.ireturn, 1) := by decide +kernel
theorem dX9_keep_0 : decode cX9_keep 0 = .ok (.iload_n 1, 1) := by decide +kernel
theorem dX9_keep_1 : decode cX9_keep 1 = .ok (.ifCond .lt 8, 3) := by decide +kernel
theorem dX9_keep_4 : decode cX9_keep 4 = .ok (.iload_n 1, 1) := by decide +kernel
theorem dX9_keep_5 : decode cX9_keep 5 = .ok (.iconst 2, 1) := by decide +kernel
theorem dX9_keep_6 : decode cX9_keep 6 = .ok (.if_icmp .lt 5, 3) := by decide +kernel
theorem dX9_keep_9 : decode cX9_keep 9 = .ok (.iconst (-1), 1) := by decide +kernel
theorem dX9_keep_10 : decode cX9_keep 10 = .ok (.ireturn, 1) := by decide +kernel
theorem dX9_keep_11 : decode cX9_keep 11 = .ok (.aload_n 0, 1) := by decide +kernel
theorem dX9_keep_12 : decode cX9_keep 12 = .ok (.getfield 45, 3) := by decide +kernel
theorem dX9_keep_15 : decode cX9_keep 15 = .ok (.iload_n 1, 1) := by decide +kernel
theorem dX9_keep_16 : decode cX9_keep 16 = .ok (.aaload, 1) := by decide +kernel
theorem dX9_keep_17 : decode cX9_keep 17 = .ok (.aload_n 0, 1) := by decide +kernel
theorem dX9_keep_18 : decode cX9_keep 18 = .ok (.getfield 29, 3) := by decide +kernel
theorem dX9_keep_21 : decode cX9_keep 21 = .ok (.invokevirtual 111, 3) := by decide +kernel
theorem dX9_keep_24 : decode cX9_keep 24 = .ok (.aload_n 0, 1) := by decide +kernel
theorem dX9_keep_25 : decode cX9_keep 25 = .ok (.getfield 49, 3) := by decide +kernel
theorem dX9_keep_28 : decode cX9_keep 28 = .ok (.iload_n 1, 1) := by decide +kernel
theorem dX9_keep_29 : decode cX9_keep 29 = .ok (.iconst 1, 1) := by decide +kernel
theorem dX9_keep_30 : decode cX9_keep 30 = .ok (.bastore, 1) := by decide +kernel
theorem dX9_keep_31 : decode cX9_keep 31 = .ok (.aload_n 0, 1) := by decide +kernel
theorem dX9_keep_32 : decode cX9_keep 32 = .ok (.getfield 29, 3) := by decide +kernel
theorem dX9_keep_35 : decode cX9_keep 35 = .ok (.invokevirtual 268, 3) := by decide +kernel
theorem dX9_keep_38 : decode cX9_keep 38 = .ok (.ireturn, 1) := by decide +kernel
theorem dX9_back_0 : decode cX9_back 0 = .ok (.iload_n 1, 1) := by decide +kernel
theorem dX9_back_1 : decode cX9_back 1 = .ok (.ifCond .lt 8, 3) := by decide +kernel
theorem dX9_back_4 : decode cX9_back 4 = .ok (.iload_n 1, 1) := by decide +kernel
theorem dX9_back_5 : decode cX9_back 5 = .ok (.iconst 2, 1) := by decide +kernel
theorem dX9_back_6 : decode cX9_back 6 = .ok (.if_icmp .lt 5, 3) := by decide +kernel
theorem dX9_back_9 : decode cX9_back 9 = .ok (.iconst (-1), 1) := by decide +kernel
theorem dX9_back_10 : decode cX9_back 10 = .ok (.ireturn, 1) := by decide +kernel
theorem dX9_back_11 : decode cX9_back 11 = .ok (.aload_n 0, 1) := by decide +kernel
theorem dX9_back_12 : decode cX9_back 12 = .ok (.getfield 49, 3) := by decide +kernel
theorem dX9_back_15 : decode cX9_back 15 = .ok (.iload_n 1, 1) := by decide +kernel
theorem dX9_back_16 : decode cX9_back 16 = .ok (.baload, 1) := by decide +kernel
theorem dX9_back_17 : decode cX9_back 17 = .ok (.ifCond .ne 6, 3) := by decide +kernel
theorem dX9_back_20 : decode cX9_back 20 = .ok (.bipush (-2), 2) := by decide +kernel
theorem dX9_back_22 : decode cX9_back 22 = .ok (.ireturn, 1) := by decide +kernel
theorem dX9_back_23 : decode cX9_back 23 = .ok (.aload_n 0, 1) := by decide +kernel
theorem dX9_back_24 : decode cX9_back 24 = .ok (.getfield 29, 3) := by decide +kernel
theorem dX9_back_27 : decode cX9_back 27 = .ok (.aload_n 0, 1) := by decide +kernel
theorem dX9_back_28 : decode cX9_back 28 = .ok (.getfield 45, 3) := by decide +kernel
theorem dX9_back_31 : decode cX9_back 31 = .ok (.iload_n 1, 1) := by decide +kernel
theorem dX9_back_32 : decode cX9_back 32 = .ok (.aaload, 1) := by decide +kernel
theorem dX9_back_33 : decode cX9_back 33 = .ok (.invokevirtual 111, 3) := by decide +kernel
theorem dX9_back_36 : decode cX9_back 36 = .ok (.aload_n 0, 1) := by decide +kernel
theorem dX9_back_37 : decode cX9_back 37 = .ok (.getfield 29, 3) := by decide +kernel
theorem dX9_back_40 : decode cX9_back 40 = .ok (.invokevirtual 268, 3) := by decide +kernel
theorem dX9_back_43 : decode cX9_back 43 = .ok (.ireturn, 1) := by decide +kernel
theorem dX9_count_0 : decode cX9_count 0 = .ok (.iload_n 1, 1) := by decide +kernel
theorem dX9_count_1 : decode cX9_count 1 = .ok (.tableswitch 90 0 5 #[39, 47, 55, 63, 74, 82], 39) := by decide +kernel
theorem dX9_count_40 : decode cX9_count 40 = .ok (.aload_n 0, 1) := by decide +kernel
theorem dX9_count_41 : decode cX9_count 41 = .ok (.getfield 19, 3) := by decide +kernel
theorem dX9_count_44 : decode cX9_count 44 = .ok (.getfield 229, 3) := by decide +kernel
theorem dX9_count_47 : decode cX9_count 47 = .ok (.ireturn, 1) := by decide +kernel
theorem dX9_count_48 : decode cX9_count 48 = .ok (.aload_n 0, 1) := by decide +kernel
theorem dX9_count_49 : decode cX9_count 49 = .ok (.getfield 19, 3) := by decide +kernel
theorem dX9_count_52 : decode cX9_count 52 = .ok (.getfield 188, 3) := by decide +kernel
theorem dX9_count_55 : decode cX9_count 55 = .ok (.ireturn, 1) := by decide +kernel
theorem dX9_count_56 : decode cX9_count 56 = .ok (.aload_n 0, 1) := by decide +kernel
theorem dX9_count_57 : decode cX9_count 57 = .ok (.getfield 29, 3) := by decide +kernel
theorem dX9_count_60 : decode cX9_count 60 = .ok (.invokevirtual 268, 3) := by decide +kernel
theorem dX9_count_63 : decode cX9_count 63 = .ok (.ireturn, 1) := by decide +kernel
theorem dX9_count_64 : decode cX9_count 64 = .ok (.aload_n 0, 1) := by decide +kernel
theorem dX9_count_65 : decode cX9_count 65 = .ok (.getfield 29, 3) := by decide +kernel
theorem dX9_count_68 : decode cX9_count 68 = .ok (.getfield 135, 3) := by decide +kernel
theorem dX9_count_71 : decode cX9_count 71 = .ok (.invokestatic 157, 3) := by decide +kernel
theorem dX9_count_74 : decode cX9_count 74 = .ok (.ireturn, 1) := by decide +kernel
theorem dX9_count_75 : decode cX9_count 75 = .ok (.aload_n 0, 1) := by decide +kernel
theorem dX9_count_76 : decode cX9_count 76 = .ok (.getfield 29, 3) := by decide +kernel
theorem dX9_count_79 : decode cX9_count 79 = .ok (.getfield 232, 3) := by decide +kernel
theorem dX9_count_82 : decode cX9_count 82 = .ok (.ireturn, 1) := by decide +kernel
theorem dX9_count_83 : decode cX9_count 83 = .ok (.aload_n 0, 1) := by decide +kernel
theorem dX9_count_84 : decode cX9_count 84 = .ok (.getfield 10, 3) := by decide +kernel
theorem dX9_count_87 : decode cX9_count 87 = .ok (.getfield 96, 3) := by decide +kernel
theorem dX9_count_90 : decode cX9_count 90 = .ok (.ireturn, 1) := by decide +kernel
theorem dX9_count_91 : decode cX9_count 91 = .ok (.iconst (-1), 1) := by decide +kernel
theorem dX9_count_92 : decode cX9_count 92 = .ok (.ireturn, 1) := by decide +kernel
theorem dX9_trace_0 : decode cX9_trace 0 = .ok (.aload_n 0, 1) := by decide +kernel
theorem dX9_trace_1 : decode cX9_trace 1 = .ok (.getfield 92, 3) := by decide +kernel
theorem dX9_trace_4 : decode cX9_trace 4 = .ok (.lreturn, 1) := by decide +kernel
theorem dX9_isPiece_0 : decode cX9_isPiece 0 = .ok (.iload_n 1, 1) := by decide +kernel
theorem dX9_isPiece_1 : decode cX9_isPiece 1 = .ok (.ifCond .lt 18, 3) := by decide +kernel
theorem dX9_isPiece_4 : decode cX9_isPiece 4 = .ok (.iload_n 1, 1) := by decide +kernel
theorem dX9_isPiece_5 : decode cX9_isPiece 5 = .ok (.aload_n 0, 1) := by decide +kernel
theorem dX9_isPiece_6 : decode cX9_isPiece 6 = .ok (.getfield 19, 3) := by decide +kernel
theorem dX9_isPiece_9 : decode cX9_isPiece 9 = .ok (.getfield 229, 3) := by decide +kernel
theorem dX9_isPiece_12 : decode cX9_isPiece 12 = .ok (.if_icmp .ge 7, 3) := by decide +kernel
theorem dX9_isPiece_15 : decode cX9_isPiece 15 = .ok (.iconst 1, 1) := by decide +kernel
theorem dX9_isPiece_16 : decode cX9_isPiece 16 = .ok (.goto 4, 3) := by decide +kernel
theorem dX9_isPiece_19 : decode cX9_isPiece 19 = .ok (.iconst 0, 1) := by decide +kernel
theorem dX9_isPiece_20 : decode cX9_isPiece 20 = .ok (.ireturn, 1) := by decide +kernel
theorem dX9_isFamily_0 : decode cX9_isFamily 0 = .ok (.iload_n 1, 1) := by decide +kernel
theorem dX9_isFamily_1 : decode cX9_isFamily 1 = .ok (.ifCond .lt 18, 3) := by decide +kernel
theorem dX9_isFamily_4 : decode cX9_isFamily 4 = .ok (.iload_n 1, 1) := by decide +kernel
theorem dX9_isFamily_5 : decode cX9_isFamily 5 = .ok (.aload_n 0, 1) := by decide +kernel
theorem dX9_isFamily_6 : decode cX9_isFamily 6 = .ok (.getfield 19, 3) := by decide +kernel
theorem dX9_isFamily_9 : decode cX9_isFamily 9 = .ok (.getfield 188, 3) := by decide +kernel
theorem dX9_isFamily_12 : decode cX9_isFamily 12 = .ok (.if_icmp .ge 7, 3) := by decide +kernel
theorem dX9_isFamily_15 : decode cX9_isFamily 15 = .ok (.iconst 1, 1) := by decide +kernel
theorem dX9_isFamily_16 : decode cX9_isFamily 16 = .ok (.goto 4, 3) := by decide +kernel
theorem dX9_isFamily_19 : decode cX9_isFamily 19 = .ok (.iconst 0, 1) := by decide +kernel
theorem dX9_isFamily_20 : decode cX9_isFamily 20 = .ok (.ireturn, 1) := by decide +kernel
theorem dX9_wayNow_0 : decode cX9_wayNow 0 = .ok (.aload_n 0, 1) := by decide +kernel
theorem dX9_wayNow_1 : decode cX9_wayNow 1 = .ok (.getfield 58, 3) := by decide +kernel
theorem dX9_wayNow_4 : decode cX9_wayNow 4 = .ok (.iload_n 1, 1) := by decide +kernel
theorem dX9_wayNow_5 : decode cX9_wayNow 5 = .ok (.aload_n 0, 1) := by decide +kernel
theorem dX9_wayNow_6 : decode cX9_wayNow 6 = .ok (.getfield 29, 3) := by decide +kernel
theorem dX9_wayNow_9 : decode cX9_wayNow 9 = .ok (.iload_n 1, 1) := by decide +kernel
theorem dX9_wayNow_10 : decode cX9_wayNow 10 = .ok (.invokevirtual 153, 3) := by decide +kernel
theorem dX9_wayNow_13 : decode cX9_wayNow 13 = .ok (.invokevirtual 185, 3) := by decide +kernel
theorem dX9_wayNow_16 : decode cX9_wayNow 16 = .ok (.ireturn, 1) := by decide +kernel
theorem dX9_orNone_0 : decode cX9_orNone 0 = .ok (.iload_n 0, 1) := by decide +kernel
theorem dX9_orNone_1 : decode cX9_orNone 1 = .ok (.ldc 196, 2) := by decide +kernel
theorem dX9_orNone_3 : decode cX9_orNone 3 = .ok (.if_icmp .lt 8, 3) := by decide +kernel
theorem dX9_orNone_6 : decode cX9_orNone 6 = .ok (.bipush (-9), 2) := by decide +kernel
theorem dX9_orNone_8 : decode cX9_orNone 8 = .ok (.goto 4, 3) := by decide +kernel
theorem dX9_orNone_11 : decode cX9_orNone 11 = .ok (.iload_n 0, 1) := by decide +kernel
theorem dX9_orNone_12 : decode cX9_orNone 12 = .ok (.ireturn, 1) := by decide +kernel
theorem dX9_chosen_0 : decode cX9_chosen 0 = .ok (.aload_n 0, 1) := by decide +kernel
theorem dX9_chosen_1 : decode cX9_chosen 1 = .ok (.getfield 67, 3) := by decide +kernel
theorem dX9_chosen_4 : decode cX9_chosen 4 = .ok (.getfield 271, 3) := by decide +kernel
theorem dX9_chosen_7 : decode cX9_chosen 7 = .ok (.ldc 196, 2) := by decide +kernel
theorem dX9_chosen_9 : decode cX9_chosen 9 = .ok (.if_icmp .lt 6, 3) := by decide +kernel
theorem dX9_chosen_12 : decode cX9_chosen 12 = .ok (.bipush (-9), 2) := by decide +kernel
theorem dX9_chosen_14 : decode cX9_chosen 14 = .ok (.ireturn, 1) := by decide +kernel
theorem dX9_chosen_15 : decode cX9_chosen 15 = .ok (.iload_n 1, 1) := by decide +kernel
theorem dX9_chosen_16 : decode cX9_chosen 16 = .ok (.ifCond .ge 13, 3) := by decide +kernel
theorem dX9_chosen_19 : decode cX9_chosen 19 = .ok (.aload_n 0, 1) := by decide +kernel
theorem dX9_chosen_20 : decode cX9_chosen 20 = .ok (.getfield 67, 3) := by decide +kernel
theorem dX9_chosen_23 : decode cX9_chosen 23 = .ok (.getfield 271, 3) := by decide +kernel
theorem dX9_chosen_26 : decode cX9_chosen 26 = .ok (.goto 12, 3) := by decide +kernel
theorem dX9_chosen_29 : decode cX9_chosen 29 = .ok (.aload_n 0, 1) := by decide +kernel
theorem dX9_chosen_30 : decode cX9_chosen 30 = .ok (.getfield 67, 3) := by decide +kernel
theorem dX9_chosen_33 : decode cX9_chosen 33 = .ok (.getfield 274, 3) := by decide +kernel
theorem dX9_chosen_36 : decode cX9_chosen 36 = .ok (.iload_n 1, 1) := by decide +kernel
theorem dX9_chosen_37 : decode cX9_chosen 37 = .ok (.iaload, 1) := by decide +kernel
theorem dX9_chosen_38 : decode cX9_chosen 38 = .ok (.ireturn, 1) := by decide +kernel
theorem dX9_asFamily_0 : decode cX9_asFamily 0 = .ok (.aload_n 0, 1) := by decide +kernel
theorem dX9_asFamily_1 : decode cX9_asFamily 1 = .ok (.dup, 1) := by decide +kernel
theorem dX9_asFamily_2 : decode cX9_asFamily 2 = .ok (.getfield 92, 3) := by decide +kernel
theorem dX9_asFamily_5 : decode cX9_asFamily 5 = .ok (.lconst 1, 1) := by decide +kernel
theorem dX9_asFamily_6 : decode cX9_asFamily 6 = .ok (.ladd, 1) := by decide +kernel
theorem dX9_asFamily_7 : decode cX9_asFamily 7 = .ok (.putfield 92, 3) := by decide +kernel
theorem dX9_asFamily_10 : decode cX9_asFamily 10 = .ok (.aload_n 0, 1) := by decide +kernel
theorem dX9_asFamily_11 : decode cX9_asFamily 11 = .ok (.getfield 19, 3) := by decide +kernel
theorem dX9_asFamily_14 : decode cX9_asFamily 14 = .ok (.getfield 150, 3) := by decide +kernel
theorem dX9_asFamily_17 : decode cX9_asFamily 17 = .ok (.iload_n 1, 1) := by decide +kernel
theorem dX9_asFamily_18 : decode cX9_asFamily 18 = .ok (.iaload, 1) := by decide +kernel
theorem dX9_asFamily_19 : decode cX9_asFamily 19 = .ok (.ireturn, 1) := by decide +kernel
theorem dX9_asWidow_0 : decode cX9_asWidow 0 = .ok (.aload_n 0, 1) := by decide +kernel
theorem dX9_asWidow_1 : decode cX9_asWidow 1 = .ok (.dup, 1) := by decide +kernel
theorem dX9_asWidow_2 : decode cX9_asWidow 2 = .ok (.getfield 92, 3) := by decide +kernel
theorem dX9_asWidow_5 : decode cX9_asWidow 5 = .ok (.ldc2_w 276, 3) := by decide +kernel
theorem dX9_asWidow_8 : decode cX9_asWidow 8 = .ok (.ladd, 1) := by decide +kernel
theorem dX9_asWidow_9 : decode cX9_asWidow 9 = .ok (.putfield 92, 3) := by decide +kernel
theorem dX9_asWidow_12 : decode cX9_asWidow 12 = .ok (.aload_n 0, 1) := by decide +kernel
theorem dX9_asWidow_13 : decode cX9_asWidow 13 = .ok (.iload_n 1, 1) := by decide +kernel
theorem dX9_asWidow_14 : decode cX9_asWidow 14 = .ok (.invokevirtual 250, 3) := by decide +kernel
theorem dX9_asWidow_17 : decode cX9_asWidow 17 = .ok (.aload_n 0, 1) := by decide +kernel
theorem dX9_asWidow_18 : decode cX9_asWidow 18 = .ok (.getfield 29, 3) := by decide +kernel
theorem dX9_asWidow_21 : decode cX9_asWidow 21 = .ok (.iload_n 1, 1) := by decide +kernel
theorem dX9_asWidow_22 : decode cX9_asWidow 22 = .ok (.invokevirtual 153, 3) := by decide +kernel
theorem dX9_asWidow_25 : decode cX9_asWidow 25 = .ok (.invokestatic 157, 3) := by decide +kernel
theorem dX9_asWidow_28 : decode cX9_asWidow 28 = .ok (.iadd, 1) := by decide +kernel
theorem dX9_asWidow_29 : decode cX9_asWidow 29 = .ok (.ireturn, 1) := by decide +kernel
theorem dX9_asMason_0 : decode cX9_asMason 0 = .ok (.aload_n 0, 1) := by decide +kernel
theorem dX9_asMason_1 : decode cX9_asMason 1 = .ok (.dup, 1) := by decide +kernel
theorem dX9_asMason_2 : decode cX9_asMason 2 = .ok (.getfield 92, 3) := by decide +kernel
theorem dX9_asMason_5 : decode cX9_asMason 5 = .ok (.ldc2_w 278, 3) := by decide +kernel
theorem dX9_asMason_8 : decode cX9_asMason 8 = .ok (.ladd, 1) := by decide +kernel
theorem dX9_asMason_9 : decode cX9_asMason 9 = .ok (.putfield 92, 3) := by decide +kernel
theorem dX9_asMason_12 : decode cX9_asMason 12 = .ok (.aload_n 0, 1) := by decide +kernel
theorem dX9_asMason_13 : decode cX9_asMason 13 = .ok (.iload_n 1, 1) := by decide +kernel
theorem dX9_asMason_14 : decode cX9_asMason 14 = .ok (.invokevirtual 172, 3) := by decide +kernel
theorem dX9_asMason_17 : decode cX9_asMason 17 = .ok (.istore_n 2, 1) := by decide +kernel
theorem dX9_asMason_18 : decode cX9_asMason 18 = .ok (.aload_n 0, 1) := by decide +kernel
theorem dX9_asMason_19 : decode cX9_asMason 19 = .ok (.iload_n 1, 1) := by decide +kernel
theorem dX9_asMason_20 : decode cX9_asMason 20 = .ok (.invokevirtual 250, 3) := by decide +kernel
theorem dX9_asMason_23 : decode cX9_asMason 23 = .ok (.iload_n 2, 1) := by decide +kernel
theorem dX9_asMason_24 : decode cX9_asMason 24 = .ok (.ldc 196, 2) := by decide +kernel
theorem dX9_asMason_26 : decode cX9_asMason 26 = .ok (.if_icmp .lt 7, 3) := by decide +kernel
theorem dX9_asMason_29 : decode cX9_asMason 29 = .ok (.iconst 0, 1) := by decide +kernel
theorem dX9_asMason_30 : decode cX9_asMason 30 = .ok (.goto 4, 3) := by decide +kernel
theorem dX9_asMason_33 : decode cX9_asMason 33 = .ok (.iload_n 2, 1) := by decide +kernel
theorem dX9_asMason_34 : decode cX9_asMason 34 = .ok (.iadd, 1) := by decide +kernel
theorem dX9_asMason_35 : decode cX9_asMason 35 = .ok (.ireturn, 1) := by decide +kernel
theorem dX9_asHeir_0 : decode cX9_asHeir 0 = .ok (.aload_n 0, 1) := by decide +kernel
theorem dX9_asHeir_1 : decode cX9_asHeir 1 = .ok (.dup, 1) := by decide +kernel
theorem dX9_asHeir_2 : decode cX9_asHeir 2 = .ok (.getfield 92, 3) := by decide +kernel
theorem dX9_asHeir_5 : decode cX9_asHeir 5 = .ok (.ldc2_w 280, 3) := by decide +kernel
theorem dX9_asHeir_8 : decode cX9_asHeir 8 = .ok (.ladd, 1) := by decide +kernel
theorem dX9_asHeir_9 : decode cX9_asHeir 9 = .ok (.putfield 92, 3) := by decide +kernel
theorem dX9_asHeir_12 : decode cX9_asHeir 12 = .ok (.aload_n 0, 1) := by decide +kernel
theorem dX9_asHeir_13 : decode cX9_asHeir 13 = .ok (.iload_n 1, 1) := by decide +kernel
theorem dX9_asHeir_14 : decode cX9_asHeir 14 = .ok (.invokevirtual 253, 3) := by decide +kernel
theorem dX9_asHeir_17 : decode cX9_asHeir 17 = .ok (.iconst 2, 1) := by decide +kernel
theorem dX9_asHeir_18 : decode cX9_asHeir 18 = .ok (.imul, 1) := by decide +kernel
theorem dX9_asHeir_19 : decode cX9_asHeir 19 = .ok (.ireturn, 1) := by decide +kernel
theorem dX9_asHired_0 : decode cX9_asHired 0 = .ok (.aload_n 0, 1) := by decide +kernel
theorem dX9_asHired_1 : decode cX9_asHired 1 = .ok (.dup, 1) := by decide +kernel
theorem dX9_asHired_2 : decode cX9_asHired 2 = .ok (.getfield 92, 3) := by decide +kernel
theorem dX9_asHired_5 : decode cX9_asHired 5 = .ok (.ldc2_w 282, 3) := by decide +kernel
theorem dX9_asHired_8 : decode cX9_asHired 8 = .ok (.ladd, 1) := by decide +kernel
theorem dX9_asHired_9 : decode cX9_asHired 9 = .ok (.putfield 92, 3) := by decide +kernel
theorem dX9_asHired_12 : decode cX9_asHired 12 = .ok (.aload_n 0, 1) := by decide +kernel
theorem dX9_asHired_13 : decode cX9_asHired 13 = .ok (.iload_n 1, 1) := by decide +kernel
theorem dX9_asHired_14 : decode cX9_asHired 14 = .ok (.invokevirtual 256, 3) := by decide +kernel
theorem dX9_asHired_17 : decode cX9_asHired 17 = .ok (.aload_n 0, 1) := by decide +kernel
theorem dX9_asHired_18 : decode cX9_asHired 18 = .ok (.getfield 19, 3) := by decide +kernel
theorem dX9_asHired_21 : decode cX9_asHired 21 = .ok (.aload_n 0, 1) := by decide +kernel
theorem dX9_asHired_22 : decode cX9_asHired 22 = .ok (.getfield 29, 3) := by decide +kernel
theorem dX9_asHired_25 : decode cX9_asHired 25 = .ok (.iload_n 1, 1) := by decide +kernel
theorem dX9_asHired_26 : decode cX9_asHired 26 = .ok (.invokevirtual 153, 3) := by decide +kernel
theorem dX9_asHired_29 : decode cX9_asHired 29 = .ok (.invokevirtual 284, 3) := by decide +kernel
theorem dX9_asHired_32 : decode cX9_asHired 32 = .ok (.isub, 1) := by decide +kernel
theorem dX9_asHired_33 : decode cX9_asHired 33 = .ok (.ireturn, 1) := by decide +kernel
theorem dX9_asBachelor_0 : decode cX9_asBachelor 0 = .ok (.aload_n 0, 1) := by decide +kernel
theorem dX9_asBachelor_1 : decode cX9_asBachelor 1 = .ok (.dup, 1) := by decide +kernel
theorem dX9_asBachelor_2 : decode cX9_asBachelor 2 = .ok (.getfield 92, 3) := by decide +kernel
theorem dX9_asBachelor_5 : decode cX9_asBachelor 5 = .ok (.ldc2_w 287, 3) := by decide +kernel
theorem dX9_asBachelor_8 : decode cX9_asBachelor 8 = .ok (.ladd, 1) := by decide +kernel
theorem dX9_asBachelor_9 : decode cX9_asBachelor 9 = .ok (.putfield 92, 3) := by decide +kernel
theorem dX9_asBachelor_12 : decode cX9_asBachelor 12 = .ok (.aload_n 0, 1) := by decide +kernel
theorem dX9_asBachelor_13 : decode cX9_asBachelor 13 = .ok (.iload_n 1, 1) := by decide +kernel
theorem dX9_asBachelor_14 : decode cX9_asBachelor 14 = .ok (.invokevirtual 250, 3) := by decide +kernel
theorem dX9_asBachelor_17 : decode cX9_asBachelor 17 = .ok (.aload_n 0, 1) := by decide +kernel
theorem dX9_asBachelor_18 : decode cX9_asBachelor 18 = .ok (.getfield 19, 3) := by decide +kernel
theorem dX9_asBachelor_21 : decode cX9_asBachelor 21 = .ok (.getfield 144, 3) := by decide +kernel
theorem dX9_asBachelor_24 : decode cX9_asBachelor 24 = .ok (.iload_n 1, 1) := by decide +kernel
theorem dX9_asBachelor_25 : decode cX9_asBachelor 25 = .ok (.iaload, 1) := by decide +kernel
theorem dX9_asBachelor_26 : decode cX9_asBachelor 26 = .ok (.iadd, 1) := by decide +kernel
theorem dX9_asBachelor_27 : decode cX9_asBachelor 27 = .ok (.ireturn, 1) := by decide +kernel
end
section
theorem dX10_init_0 : decode cX10_init 0 = .ok (.aload_n 0, 1) := by decide +kernel
theorem dX10_init_1 : decode cX10_init 1 = .ok (.invokespecial 1, 3) := by decide +kernel
theorem dX10_init_4 : decode cX10_init 4 = .ok (.aload_n 0, 1) := by decide +kernel
theorem dX10_init_5 : decode cX10_init 5 = .ok (.sipush 300, 3) := by decide +kernel
theorem dX10_init_8 : decode cX10_init 8 = .ok (.newarray .int, 2) := by decide +kernel
theorem dX10_init_10 : decode cX10_init 10 = .ok (.putfield 7, 3) := by decide +kernel
theorem dX10_init_13 : decode cX10_init 13 = .ok (.aload_n 0, 1) := by decide +kernel
theorem dX10_init_14 : decode cX10_init 14 = .ok (.bipush 8, 2) := by decide +kernel
theorem dX10_init_16 : decode cX10_init 16 = .ok (.newarray .int, 2) := by decide +kernel
theorem dX10_init_18 : decode cX10_init 18 = .ok (.putfield 13, 3) := by decide +kernel
theorem dX10_init_21 : decode cX10_init 21 = .ok (.aload_n 0, 1) := by decide +kernel
theorem dX10_init_22 : decode cX10_init 22 = .ok (.bipush 8, 2) := by decide +kernel
theorem dX10_init_24 : decode cX10_init 24 = .ok (.newarray .int, 2) := by decide +kernel
theorem dX10_init_26 : decode cX10_init 26 = .ok (.putfield 16, 3) := by decide +kernel
theorem dX10_init_29 : decode cX10_init 29 = .ok (.aload_n 0, 1) := by decide +kernel
theorem dX10_init_30 : decode cX10_init 30 = .ok (.bipush 8, 2) := by decide +kernel
theorem dX10_init_32 : decode cX10_init 32 = .ok (.newarray .int, 2) := by decide +kernel
theorem dX10_init_34 : decode cX10_init 34 = .ok (.putfield 19, 3) := by decide +kernel
theorem dX10_init_37 : decode cX10_init 37 = .ok (.aload_n 0, 1) := by decide +kernel
theorem dX10_init_38 : decode cX10_init 38 = .ok (.iconst 4, 1) := by decide +kernel
theorem dX10_init_39 : decode cX10_init 39 = .ok (.newarray .int, 2) := by decide +kernel
theorem dX10_init_41 : decode cX10_init 41 = .ok (.putfield 22, 3) := by decide +kernel
theorem dX10_init_44 : decode cX10_init 44 = .ok (.aload_n 0, 1) := by decide +kernel
theorem dX10_init_45 : decode cX10_init 45 = .ok (.iconst 4, 1) := by decide +kernel
theorem dX10_init_46 : decode cX10_init 46 = .ok (.newarray .int, 2) := by decide +kernel
theorem dX10_init_48 : decode cX10_init 48 = .ok (.putfield 25, 3) := by decide +kernel
theorem dX10_init_51 : decode cX10_init 51 = .ok (.aload_n 0, 1) := by decide +kernel
theorem dX10_init_52 : decode cX10_init 52 = .ok (.iconst 4, 1) := by decide +kernel
theorem dX10_init_53 : decode cX10_init 53 = .ok (.newarray .int, 2) := by decide +kernel
theorem dX10_init_55 : decode cX10_init 55 = .ok (.putfield 28, 3) := by decide +kernel
theorem dX10_init_58 : decode cX10_init 58 = .ok (.aload_n 0, 1) := by decide +kernel
theorem dX10_init_59 : decode cX10_init 59 = .ok (.bipush 8, 2) := by decide +kernel
theorem dX10_init_61 : decode cX10_init 61 = .ok (.newarray .int, 2) := by decide +kernel
theorem dX10_init_63 : decode cX10_init 63 = .ok (.putfield 31, 3) := by decide +kernel
theorem dX10_init_66 : decode cX10_init 66 = .ok (.aload_n 0, 1) := by decide +kernel
theorem dX10_init_67 : decode cX10_init 67 = .ok (.bipush 8, 2) := by decide +kernel
theorem dX10_init_69 : decode cX10_init 69 = .ok (.newarray .int, 2) := by decide +kernel
theorem dX10_init_71 : decode cX10_init 71 = .ok (.putfield 34, 3) := by decide +kernel
theorem dX10_init_74 : decode cX10_init 74 = .ok (.aload_n 0, 1) := by decide +kernel
theorem dX10_init_75 : decode cX10_init 75 = .ok (.bipush 10, 2) := by decide +kernel
theorem dX10_init_77 : decode cX10_init 77 = .ok (.newarray .int, 2) := by decide +kernel
theorem dX10_init_79 : decode cX10_init 79 = .ok (.putfield 37, 3) := by decide +kernel
theorem dX10_init_82 : decode cX10_init 82 = .ok (.aload_n 0, 1) := by decide +kernel
theorem dX10_init_83 : decode cX10_init 83 = .ok (.bipush 10, 2) := by decide +kernel
theorem dX10_init_85 : decode cX10_init 85 = .ok (.newarray .int, 2) := by decide +kernel
theorem dX10_init_87 : decode cX10_init 87 = .ok (.putfield 40, 3) := by decide +kernel
theorem dX10_init_90 : decode cX10_init 90 = .ok (.aload_n 0, 1) := by decide +kernel
theorem dX10_init_91 : decode cX10_init 91 = .ok (.bipush 80, 2) := by decide +kernel
theorem dX10_init_93 : decode cX10_init 93 = .ok (.newarray .int, 2) := by decide +kernel
theorem dX10_init_95 : decode cX10_init 95 = .ok (.putfield 43, 3) := by decide +kernel
theorem dX10_init_98 : decode cX10_init 98 = .ok (.aload_n 0, 1) := by decide +kernel
theorem dX10_init_99 : decode cX10_init 99 = .ok (.bipush 52, 2) := by decide +kernel
theorem dX10_init_101 : decode cX10_init 101 = .ok (.newarray .int, 2) := by decide +kernel
theorem dX10_init_103 : decode cX10_init 103 = .ok (.putfield 46, 3) := by decide +kernel
theorem dX10_init_106 : decode cX10_init 106 = .ok (.aload_n 0, 1) := by decide +kernel
theorem dX10_init_107 : decode cX10_init 107 = .ok (.bipush 6, 2) := by decide +kernel
theorem dX10_init_109 : decode cX10_init 109 = .ok (.newarray .int, 2) := by decide +kernel
theorem dX10_init_111 : decode cX10_init 111 = .ok (.putfield 49, 3) := by decide +kernel
theorem dX10_init_114 : decode cX10_init 114 = .ok (.aload_n 0, 1) := by decide +kernel
theorem dX10_init_115 : decode cX10_init 115 = .ok (.sipush 1024, 3) := by decide +kernel
theorem dX10_init_118 : decode cX10_init 118 = .ok (.newarray .int, 2) := by decide +kernel
theorem dX10_init_120 : decode cX10_init 120 = .ok (.putfield 52, 3) := by decide +kernel
theorem dX10_init_123 : decode cX10_init 123 = .ok (.aload_n 0, 1) := by decide +kernel
theorem dX10_init_124 : decode cX10_init 124 = .ok (.bipush 8, 2) := by decide +kernel
theorem dX10_init_126 : decode cX10_init 126 = .ok (.newarray .int, 2) := by decide +kernel
theorem dX10_init_128 : decode cX10_init 128 = .ok (.putfield 55, 3) := by decide +kernel
theorem dX10_init_131 : decode cX10_init 131 = .ok (.aload_n 0, 1) := by decide +kernel
theorem dX10_init_132 : decode cX10_init 132 = .ok (.bipush 8, 2) := by decide +kernel
theorem dX10_init_134 : decode cX10_init 134 = .ok (.newarray .int, 2) := by decide +kernel
theorem dX10_init_136 : decode cX10_init 136 = .ok (.putfield 58, 3) := by decide +kernel
theorem dX10_init_139 : decode cX10_init 139 = .ok (.aload_n 0, 1) := by decide +kernel
theorem dX10_init_140 : decode cX10_init 140 = .ok (.iconst 4, 1) := by decide +kernel
theorem dX10_init_141 : decode cX10_init 141 = .ok (.newarray .int, 2) := by decide +kernel
theorem dX10_init_143 : decode cX10_init 143 = .ok (.putfield 61, 3) := by decide +kernel
theorem dX10_init_146 : decode cX10_init 146 = .ok (.aload_n 0, 1) := by decide +kernel
theorem dX10_init_147 : decode cX10_init 147 = .ok (.bipush 8, 2) := by decide +kernel
theorem dX10_init_149 : decode cX10_init 149 = .ok (.newarray .int, 2) := by decide +kernel
theorem dX10_init_151 : decode cX10_init 151 = .ok (.putfield 64, 3) := by decide +kernel
theorem dX10_init_154 : decode cX10_init 154 = .ok (.return_, 1) := by decide +kernel
theorem dX10_in_0 : decode cX10_in 0 = .ok (.lload_n 0, 1) := by decide +kernel
theorem dX10_in_1 : decode cX10_in 1 = .ok (.lload_n 2, 1) := by decide +kernel
theorem dX10_in_2 : decode cX10_in 2 = .ok (.lcmp, 1) := by decide +kernel
theorem dX10_in_3 : decode cX10_in 3 = .ok (.ifCond .lt 14, 3) := by decide +kernel
theorem dX10_in_6 : decode cX10_in 6 = .ok (.lload_n 0, 1) := by decide +kernel
theorem dX10_in_7 : decode cX10_in 7 = .ok (.lload 4, 2) := by decide +kernel
theorem dX10_in_9 : decode cX10_in 9 = .ok (.lcmp, 1) := by decide +kernel
theorem dX10_in_10 : decode cX10_in 10 = .ok (.ifCond .gt 7, 3) := by decide +kernel
theorem dX10_in_13 : decode cX10_in 13 = .ok (.iconst 1, 1) := by decide +kernel
theorem dX10_in_14 : decode cX10_in 14 = .ok (.goto 4, 3) := by decide +kernel
theorem dX10_in_17 : decode cX10_in 17 = .ok (.iconst 0, 1) := by decide +kernel
theorem dX10_in_18 : decode cX10_in 18 = .ok (.ireturn, 1) := by decide +kernel
theorem dX10_isPiece_0 : decode cX10_isPiece 0 = .ok (.iload_n 1, 1) := by decide +kernel
theorem dX10_isPiece_1 : decode cX10_isPiece 1 = .ok (.i2l, 1) := by decide +kernel
theorem dX10_isPiece_2 : decode cX10_isPiece 2 = .ok (.lconst 0, 1) := by decide +kernel
theorem dX10_isPiece_3 : decode cX10_isPiece 3 = .ok (.aload_n 0, 1) := by decide +kernel
theorem dX10_isPiece_4 : decode cX10_isPiece 4 = .ok (.getfield 67, 3) := by decide +kernel
theorem dX10_isPiece_7 : decode cX10_isPiece 7 = .ok (.iconst 1, 1) := by decide +kernel
theorem dX10_isPiece_8 : decode cX10_isPiece 8 = .ok (.isub, 1) := by decide +kernel
theorem dX10_isPiece_9 : decode cX10_isPiece 9 = .ok (.i2l, 1) := by decide +kernel
theorem dX10_isPiece_10 : decode cX10_isPiece 10 = .ok (.invokestatic 71, 3) := by decide +kernel
theorem dX10_isPiece_13 : decode cX10_isPiece 13 = .ok (.ireturn, 1) := by decide +kernel
theorem dX10_isFamily_0 : decode cX10_isFamily 0 = .ok (.iload_n 1, 1) := by decide +kernel
theorem dX10_isFamily_1 : decode cX10_isFamily 1 = .ok (.i2l, 1) := by decide +kernel
theorem dX10_isFamily_2 : decode cX10_isFamily 2 = .ok (.lconst 0, 1) := by decide +kernel
theorem dX10_isFamily_3 : decode cX10_isFamily 3 = .ok (.aload_n 0, 1) := by decide +kernel
theorem dX10_isFamily_4 : decode cX10_isFamily 4 = .ok (.getfield 75, 3) := by decide +kernel
theorem dX10_isFamily_7 : decode cX10_isFamily 7 = .ok (.iconst 1, 1) := by decide +kernel
theorem dX10_isFamily_8 : decode cX10_isFamily 8 = .ok (.isub, 1) := by decide +kernel
theorem dX10_isFamily_9 : decode cX10_isFamily 9 = .ok (.i2l, 1) := by decide +kernel
theorem dX10_isFamily_10 : decode cX10_isFamily 10 = .ok (.invokestatic 71, 3) := by decide +kernel
theorem dX10_isFamily_13 : decode cX10_isFamily 13 = .ok (.ireturn, 1) := by decide +kernel
theorem dX10_type_0 : decode cX10_type 0 = .ok (.iload_n 3, 1) := by decide +kernel
theorem dX10_type_1 : decode cX10_type 1 = .ok (.i2l, 1) := by decide +kernel
theorem dX10_type_2 : decode cX10_type 2 = .ok (.lconst 1, 1) := by decide +kernel
theorem dX10_type_3 : decode cX10_type 3 = .ok (.ldc2_w 78, 3) := by decide +kernel
theorem dX10_type_6 : decode cX10_type 6 = .ok (.invokestatic 71, 3) := by decide +kernel
theorem dX10_type_9 : decode cX10_type 9 = .ok (.ifCond .ne 5, 3) := by decide +kernel
theorem dX10_type_12 : decode cX10_type 12 = .ok (.iconst (-1), 1) := by decide +kernel
theorem dX10_type_13 : decode cX10_type 13 = .ok (.ireturn, 1) := by decide +kernel
theorem dX10_type_14 : decode cX10_type 14 = .ok (.aload_n 0, 1) := by decide +kernel
theorem dX10_type_15 : decode cX10_type 15 = .ok (.getfield 80, 3) := by decide +kernel
theorem dX10_type_18 : decode cX10_type 18 = .ok (.iload_n 3, 1) := by decide +kernel
theorem dX10_type_19 : decode cX10_type 19 = .ok (.iadd, 1) := by decide +kernel
theorem dX10_type_20 : decode cX10_type 20 = .ok (.sipush 300, 3) := by decide +kernel
theorem dX10_type_23 : decode cX10_type 23 = .ok (.if_icmp .le 6, 3) := by decide +kernel
theorem dX10_type_26 : decode cX10_type 26 = .ok (.bipush (-3), 2) := by decide +kernel
theorem dX10_type_28 : decode cX10_type 28 = .ok (.ireturn, 1) := by decide +kernel
theorem dX10_type_29 : decode cX10_type 29 = .ok (.iload_n 3, 1) := by decide +kernel
theorem dX10_type_30 : decode cX10_type 30 = .ok (.iconst 1, 1) := by decide +kernel
theorem dX10_type_31 : decode cX10_type 31 = .ok (.isub, 1) := by decide +kernel
theorem dX10_type_32 : decode cX10_type 32 = .ok (.istore 4, 2) := by decide +kernel
theorem dX10_type_34 : decode cX10_type 34 = .ok (.iload 4, 2) := by decide +kernel
theorem dX10_type_36 : decode cX10_type 36 = .ok (.ifCond .lt 40, 3) := by decide +kernel
theorem dX10_type_39 : decode cX10_type 39 = .ok (.aload_n 0, 1) := by decide +kernel
theorem dX10_type_40 : decode cX10_type 40 = .ok (.getfield 7, 3) := by decide +kernel
theorem dX10_type_43 : decode cX10_type 43 = .ok (.aload_n 0, 1) := by decide +kernel
theorem dX10_type_44 : decode cX10_type 44 = .ok (.getfield 80, 3) := by decide +kernel
theorem dX10_type_47 : decode cX10_type 47 = .ok (.lload_n 1, 1) := by decide +kernel
theorem dX10_type_48 : decode cX10_type 48 = .ok (.bipush 8, 2) := by decide +kernel
theorem dX10_type_50 : decode cX10_type 50 = .ok (.iload 4, 2) := by decide +kernel
theorem dX10_type_52 : decode cX10_type 52 = .ok (.imul, 1) := by decide +kernel
theorem dX10_type_53 : decode cX10_type 53 = .ok (.lshr, 1) := by decide +kernel
theorem dX10_type_54 : decode cX10_type 54 = .ok (.ldc2_w 83, 3) := by decide +kernel
theorem dX10_type_57 : decode cX10_type 57 = .ok (.land, 1) := by decide +kernel
theorem dX10_type_58 : decode cX10_type 58 = .ok (.l2i, 1) := by decide +kernel
theorem dX10_type_59 : decode cX10_type 59 = .ok (.iastore, 1) := by decide +kernel
theorem dX10_type_60 : decode cX10_type 60 = .ok (.aload_n 0, 1) := by decide +kernel
theorem dX10_type_61 : decode cX10_type 61 = .ok (.dup, 1) := by decide +kernel
theorem dX10_type_62 : decode cX10_type 62 = .ok (.getfield 80, 3) := by decide +kernel
theorem dX10_type_65 : decode cX10_type 65 = .ok (.iconst 1, 1) := by decide +kernel
theorem dX10_type_66 : decode cX10_type 66 = .ok (.iadd, 1) := by decide +kernel
theorem dX10_type_67 : decode cX10_type 67 = .ok (.putfield 80, 3) := by decide +kernel
theorem dX10_type_70 : decode cX10_type 70 = .ok (.iinc 4 (-1), 3) := by decide +kernel
theorem dX10_type_73 : decode cX10_type 73 = .ok (.goto (-39), 3) := by decide +kernel
theorem dX10_type_76 : decode cX10_type 76 = .ok (.aload_n 0, 1) := by decide +kernel
theorem dX10_type_77 : decode cX10_type 77 = .ok (.getfield 80, 3) := by decide +kernel
theorem dX10_type_80 : decode cX10_type 80 = .ok (.ireturn, 1) := by decide +kernel
theorem dX10_clear_0 : decode cX10_clear 0 = .ok (.aload_n 0, 1) := by decide +kernel
theorem dX10_clear_1 : decode cX10_clear 1 = .ok (.getfield 80, 3) := by decide +kernel
theorem dX10_clear_4 : decode cX10_clear 4 = .ok (.istore_n 1, 1) := by decide +kernel
theorem dX10_clear_5 : decode cX10_clear 5 = .ok (.aload_n 0, 1) := by decide +kernel
theorem dX10_clear_6 : decode cX10_clear 6 = .ok (.iconst 0, 1) := by decide +kernel
theorem dX10_clear_7 : decode cX10_clear 7 = .ok (.putfield 80, 3) := by decide +kernel
theorem dX10_clear_10 : decode cX10_clear 10 = .ok (.iload_n 1, 1) := by decide +kernel
theorem dX10_clear_11 : decode cX10_clear 11 = .ok (.ireturn, 1) := by decide +kernel
theorem dX10_isLetter_0 : decode cX10_isLetter 0 = .ok (.iload_n 0, 1) := by decide +kernel
theorem dX10_isLetter_1 : decode cX10_isLetter 1 = .ok (.bipush 96, 2) := by decide +kernel
theorem dX10_isLetter_3 : decode cX10_isLetter 3 = .ok (.if_icmp .le 13, 3) := by decide +kernel
theorem dX10_isLetter_6 : decode cX10_isLetter 6 = .ok (.iload_n 0, 1) := by decide +kernel
theorem dX10_isLetter_7 : decode cX10_isLetter 7 = .ok (.bipush 123, 2) := by decide +kernel
theorem dX10_isLetter_9 : decode cX10_isLetter 9 = .ok (.if_icmp .ge 7, 3) := by decide +kernel
theorem dX10_isLetter_12 : decode cX10_isLetter 12 = .ok (.iconst 1, 1) := by decide +kernel
theorem dX10_isLetter_13 : decode cX10_isLetter 13 = .ok (.goto 4, 3) := by decide +kernel
theorem dX10_isLetter_16 : decode cX10_isLetter 16 = .ok (.iconst 0, 1) := by decide +kernel
theorem dX10_isLetter_17 : decode cX10_isLetter 17 = .ok (.ireturn, 1) := by decide +kernel
theorem dX10_isFigure_0 : decode cX10_isFigure 0 = .ok (.iload_n 0, 1) := by decide +kernel
theorem dX10_isFigure_1 : decode cX10_isFigure 1 = .ok (.bipush 47, 2) := by decide +kernel
theorem dX10_isFigure_3 : decode cX10_isFigure 3 = .ok (.if_icmp .le 13, 3) := by decide +kernel
theorem dX10_isFigure_6 : decode cX10_isFigure 6 = .ok (.iload_n 0, 1) := by decide +kernel
theorem dX10_isFigure_7 : decode cX10_isFigure 7 = .ok (.bipush 58, 2) := by decide +kernel
theorem dX10_isFigure_9 : decode cX10_isFigure 9 = .ok (.if_icmp .ge 7, 3) := by decide +kernel
theorem dX10_isFigure_12 : decode cX10_isFigure 12 = .ok (.iconst 1, 1) := by decide +kernel
theorem dX10_isFigure_13 : decode cX10_isFigure 13 = .ok (.goto 4, 3) := by decide +kernel
theorem dX10_isFigure_16 : decode cX10_isFigure 16 = .ok (.iconst 0, 1) := by decide +kernel
theorem dX10_isFigure_17 : decode cX10_isFigure 17 = .ok (.ireturn, 1) := by decide +kernel
theorem dX10_next_0 : decode cX10_next 0 = .ok (.aload_n 0, 1) := by decide +kernel
theorem dX10_next_1 : decode cX10_next 1 = .ok (.getfield 85, 3) := by decide +kernel
theorem dX10_next_4 : decode cX10_next 4 = .ok (.aload_n 0, 1) := by decide +kernel
theorem dX10_next_5 : decode cX10_next 5 = .ok (.getfield 80, 3) := by decide +kernel
theorem dX10_next_8 : decode cX10_next 8 = .ok (.if_icmp .ge 30, 3) := by decide +kernel
theorem dX10_next_11 : decode cX10_next 11 = .ok (.aload_n 0, 1) := by decide +kernel
theorem dX10_next_12 : decode cX10_next 12 = .ok (.getfield 7, 3) := by decide +kernel
theorem dX10_next_15 : decode cX10_next 15 = .ok (.aload_n 0, 1) := by decide +kernel
theorem dX10_next_16 : decode cX10_next 16 = .ok (.getfield 85, 3) := by decide +kernel
theorem dX10_next_19 : decode cX10_next 19 = .ok (.iaload, 1) := by decide +kernel
theorem dX10_next_20 : decode cX10_next 20 = .ok (.bipush 32, 2) := by decide +kernel
theorem dX10_next_22 : decode cX10_next 22 = .ok (.if_icmp .ne 16, 3) := by decide +kernel
theorem dX10_next_25 : decode cX10_next 25 = .ok (.aload_n 0, 1) := by decide +kernel
theorem dX10_next_26 : decode cX10_next 26 = .ok (.dup, 1) := by decide +kernel
theorem dX10_next_27 : decode cX10_next 27 = .ok (.getfield 85, 3) := by decide +kernel
theorem dX10_next_30 : decode cX10_next 30 = .ok (.iconst 1, 1) := by decide +kernel
theorem dX10_next_31 : decode cX10_next 31 = .ok (.iadd, 1) := by decide +kernel
theorem dX10_next_32 : decode cX10_next 32 = .ok (.putfield 85, 3) := by decide +kernel
theorem dX10_next_35 : decode cX10_next 35 = .ok (.goto (-35), 3) := by decide +kernel
theorem dX10_next_38 : decode cX10_next 38 = .ok (.aload_n 0, 1) := by decide +kernel
theorem dX10_next_39 : decode cX10_next 39 = .ok (.aload_n 0, 1) := by decide +kernel
theorem dX10_next_40 : decode cX10_next 40 = .ok (.getfield 85, 3) := by decide +kernel
theorem dX10_next_43 : decode cX10_next 43 = .ok (.putfield 88, 3) := by decide +kernel
theorem dX10_next_46 : decode cX10_next 46 = .ok (.aload_n 0, 1) := by decide +kernel
theorem dX10_next_47 : decode cX10_next 47 = .ok (.lconst 0, 1) := by decide +kernel
theorem dX10_next_48 : decode cX10_next 48 = .ok (.putfield 91, 3) := by decide +kernel
theorem dX10_next_51 : decode cX10_next 51 = .ok (.aload_n 0, 1) := by decide +kernel
theorem dX10_next_52 : decode cX10_next 52 = .ok (.getfield 85, 3) := by decide +kernel
theorem dX10_next_55 : decode cX10_next 55 = .ok (.aload_n 0, 1) := by decide +kernel
theorem dX10_next_56 : decode cX10_next 56 = .ok (.getfield 80, 3) := by decide +kernel
theorem dX10_next_59 : decode cX10_next 59 = .ok (.if_icmp .ge 15, 3) := by decide +kernel
theorem dX10_next_62 : decode cX10_next 62 = .ok (.aload_n 0, 1) := by decide +kernel
theorem dX10_next_63 : decode cX10_next 63 = .ok (.getfield 7, 3) := by decide +kernel
theorem dX10_next_66 : decode cX10_next 66 = .ok (.aload_n 0, 1) := by decide +kernel
theorem dX10_next_67 : decode cX10_next 67 = .ok (.getfield 85, 3) := by decide +kernel
theorem dX10_next_70 : decode cX10_next 70 = .ok (.iaload, 1) := by decide +kernel
theorem dX10_next_71 : decode cX10_next 71 = .ok (.goto 4, 3) := by decide +kernel
theorem dX10_next_74 : decode cX10_next 74 = .ok (.iconst (-1), 1) := by decide +kernel
theorem dX10_next_75 : decode cX10_next 75 = .ok (.istore_n 1, 1) := by decide +kernel
theorem dX10_next_76 : decode cX10_next 76 = .ok (.aload_n 0, 1) := by decide +kernel
theorem dX10_next_77 : decode cX10_next 77 = .ok (.iload_n 1, 1) := by decide +kernel
theorem dX10_next_78 : decode cX10_next 78 = .ok (.ifCond .ge 7, 3) := by decide +kernel
theorem dX10_next_81 : decode cX10_next 81 = .ok (.iconst 0, 1) := by decide +kernel
theorem dX10_next_82 : decode cX10_next 82 = .ok (.goto 36, 3) := by decide +kernel
theorem dX10_next_85 : decode cX10_next 85 = .ok (.iload_n 1, 1) := by decide +kernel
theorem dX10_next_86 : decode cX10_next 86 = .ok (.invokestatic 95, 3) := by decide +kernel
theorem dX10_next_89 : decode cX10_next 89 = .ok (.ifCond .eq 7, 3) := by decide +kernel
theorem dX10_next_92 : decode cX10_next 92 = .ok (.iconst 1, 1) := by decide +kernel
theorem dX10_next_93 : decode cX10_next 93 = .ok (.goto 25, 3) := by decide +kernel
theorem dX10_next_96 : decode cX10_next 96 = .ok (.iload_n 1, 1) := by decide +kernel
theorem dX10_next_97 : decode cX10_next 97 = .ok (.invokestatic 99, 3) := by decide +kernel
theorem dX10_next_100 : decode cX10_next 100 = .ok (.ifCond .eq 7, 3) := by decide +kernel
theorem dX10_next_103 : decode cX10_next 103 = .ok (.iconst 2, 1) := by decide +kernel
theorem dX10_next_104 : decode cX10_next 104 = .ok (.goto 14, 3) := by decide +kernel
theorem dX10_next_107 : decode cX10_next 107 = .ok (.iload_n 1, 1) := by decide +kernel
theorem dX10_next_108 : decode cX10_next 108 = .ok (.bipush 59, 2) := by decide +kernel
theorem dX10_next_110 : decode cX10_next 110 = .ok (.if_icmp .ne 7, 3) := by decide +kernel
theorem dX10_next_113 : decode cX10_next 113 = .ok (.iconst 3, 1) := by decide +kernel
theorem dX10_next_114 : decode cX10_next 114 = .ok (.goto 4, 3) := by decide +kernel
theorem dX10_next_117 : decode cX10_next 117 = .ok (.iconst 4, 1) := by decide +kernel
theorem dX10_next_118 : decode cX10_next 118 = .ok (.putfield 102, 3) := by decide +kernel
theorem dX10_next_121 : decode cX10_next 121 = .ok (.aload_n 0, 1) := by decide +kernel
theorem dX10_next_122 : decode cX10_next 122 = .ok (.dup, 1) := by decide +kernel
theorem dX10_next_123 : decode cX10_next 123 = .ok (.getfield 85, 3) := by decide +kernel
theorem dX10_next_126 : decode cX10_next 126 = .ok (.aload_n 0, 1) := by decide +kernel
theorem dX10_next_127 : decode cX10_next 127 = .ok (.getfield 102, 3) := by decide +kernel
theorem dX10_next_130 : decode cX10_next 130 = .ok (.iconst 3, 1) := by decide +kernel
theorem dX10_next_131 : decode cX10_next 131 = .ok (.if_icmp .ne 7, 3) := by decide +kernel
theorem dX10_next_134 : decode cX10_next 134 = .ok (.iconst 1, 1) := by decide +kernel
theorem dX10_next_135 : decode cX10_next 135 = .ok (.goto 4, 3) := by decide +kernel
theorem dX10_next_138 : decode cX10_next 138 = .ok (.iconst 0, 1) := by decide +kernel
theorem dX10_next_139 : decode cX10_next 139 = .ok (.iadd, 1) := by decide +kernel
theorem dX10_next_140 : decode cX10_next 140 = .ok (.putfield 85, 3) := by decide +kernel
theorem dX10_next_143 : decode cX10_next 143 = .ok (.aload_n 0, 1) := by decide +kernel
theorem dX10_next_144 : decode cX10_next 144 = .ok (.getfield 102, 3) := by decide +kernel
theorem dX10_next_147 : decode cX10_next 147 = .ok (.iconst 1, 1) := by decide +kernel
theorem dX10_next_148 : decode cX10_next 148 = .ok (.if_icmp .ne 89, 3) := by decide +kernel
theorem dX10_next_151 : decode cX10_next 151 = .ok (.aload_n 0, 1) := by decide +kernel
theorem dX10_next_152 : decode cX10_next 152 = .ok (.getfield 85, 3) := by decide +kernel
theorem dX10_next_155 : decode cX10_next 155 = .ok (.aload_n 0, 1) := by decide +kernel
theorem dX10_next_156 : decode cX10_next 156 = .ok (.getfield 80, 3) := by decide +kernel
theorem dX10_next_159 : decode cX10_next 159 = .ok (.if_icmp .ge 78, 3) := by decide +kernel
theorem dX10_next_162 : decode cX10_next 162 = .ok (.aload_n 0, 1) := by decide +kernel
theorem dX10_next_163 : decode cX10_next 163 = .ok (.getfield 7, 3) := by decide +kernel
theorem dX10_next_166 : decode cX10_next 166 = .ok (.aload_n 0, 1) := by decide +kernel
theorem dX10_next_167 : decode cX10_next 167 = .ok (.getfield 85, 3) := by decide +kernel
theorem dX10_next_170 : decode cX10_next 170 = .ok (.iaload, 1) := by decide +kernel
theorem dX10_next_171 : decode cX10_next 171 = .ok (.invokestatic 95, 3) := by decide +kernel
theorem dX10_next_174 : decode cX10_next 174 = .ok (.ifCond .eq 63, 3) := by decide +kernel
theorem dX10_next_177 : decode cX10_next 177 = .ok (.aload_n 0, 1) := by decide +kernel
theorem dX10_next_178 : decode cX10_next 178 = .ok (.aload_n 0, 1) := by decide +kernel
theorem dX10_next_179 : decode cX10_next 179 = .ok (.getfield 85, 3) := by decide +kernel
theorem dX10_next_182 : decode cX10_next 182 = .ok (.aload_n 0, 1) := by decide +kernel
theorem dX10_next_183 : decode cX10_next 183 = .ok (.getfield 88, 3) := by decide +kernel
theorem dX10_next_186 : decode cX10_next 186 = .ok (.isub, 1) := by decide +kernel
theorem dX10_next_187 : decode cX10_next 187 = .ok (.bipush 7, 2) := by decide +kernel
theorem dX10_next_189 : decode cX10_next 189 = .ok (.if_icmp .ge 29, 3) := by decide +kernel
theorem dX10_next_192 : decode cX10_next 192 = .ok (.ldc2_w 105, 3) := by decide +kernel
theorem dX10_next_195 : decode cX10_next 195 = .ok (.aload_n 0, 1) := by decide +kernel
theorem dX10_next_196 : decode cX10_next 196 = .ok (.getfield 91, 3) := by decide +kernel
theorem dX10_next_199 : decode cX10_next 199 = .ok (.lmul, 1) := by decide +kernel
theorem dX10_next_200 : decode cX10_next 200 = .ok (.aload_n 0, 1) := by decide +kernel
theorem dX10_next_201 : decode cX10_next 201 = .ok (.getfield 7, 3) := by decide +kernel
theorem dX10_next_204 : decode cX10_next 204 = .ok (.aload_n 0, 1) := by decide +kernel
theorem dX10_next_205 : decode cX10_next 205 = .ok (.getfield 85, 3) := by decide +kernel
theorem dX10_next_208 : decode cX10_next 208 = .ok (.iaload, 1) := by decide +kernel
theorem dX10_next_209 : decode cX10_next 209 = .ok (.i2l, 1) := by decide +kernel
theorem dX10_next_210 : decode cX10_next 210 = .ok (.ladd, 1) := by decide +kernel
theorem dX10_next_211 : decode cX10_next 211 = .ok (.ldc2_w 107, 3) := by decide +kernel
theorem dX10_next_214 : decode cX10_next 214 = .ok (.lsub, 1) := by decide +kernel
theorem dX10_next_215 : decode cX10_next 215 = .ok (.goto 6, 3) := by decide +kernel
theorem dX10_next_218 : decode cX10_next 218 = .ok (.ldc2_w 109, 3) := by decide +kernel
theorem dX10_next_221 : decode cX10_next 221 = .ok (.putfield 91, 3) := by decide +kernel
theorem dX10_next_224 : decode cX10_next 224 = .ok (.aload_n 0, 1) := by decide +kernel
theorem dX10_next_225 : decode cX10_next 225 = .ok (.dup, 1) := by decide +kernel
theorem dX10_next_226 : decode cX10_next 226 = .ok (.getfield 85, 3) := by decide +kernel
theorem dX10_next_229 : decode cX10_next 229 = .ok (.iconst 1, 1) := by decide +kernel
theorem dX10_next_230 : decode cX10_next 230 = .ok (.iadd, 1) := by decide +kernel
theorem dX10_next_231 : decode cX10_next 231 = .ok (.putfield 85, 3) := by decide +kernel
theorem dX10_next_234 : decode cX10_next 234 = .ok (.goto (-91), 3) := by decide +kernel
theorem dX10_next_237 : decode cX10_next 237 = .ok (.aload_n 0, 1) := by decide +kernel
theorem dX10_next_238 : decode cX10_next 238 = .ok (.getfield 102, 3) := by decide +kernel
theorem dX10_next_241 : decode cX10_next 241 = .ok (.iconst 2, 1) := by decide +kernel
theorem dX10_next_242 : decode cX10_next 242 = .ok (.if_icmp .ne 88, 3) := by decide +kernel
theorem dX10_next_245 : decode cX10_next 245 = .ok (.aload_n 0, 1) := by decide +kernel
theorem dX10_next_246 : decode cX10_next 246 = .ok (.getfield 85, 3) := by decide +kernel
theorem dX10_next_249 : decode cX10_next 249 = .ok (.aload_n 0, 1) := by decide +kernel
theorem dX10_next_250 : decode cX10_next 250 = .ok (.getfield 80, 3) := by decide +kernel
theorem dX10_next_253 : decode cX10_next 253 = .ok (.if_icmp .ge 77, 3) := by decide +kernel
theorem dX10_next_256 : decode cX10_next 256 = .ok (.aload_n 0, 1) := by decide +kernel
theorem dX10_next_257 : decode cX10_next 257 = .ok (.getfield 7, 3) := by decide +kernel
theorem dX10_next_260 : decode cX10_next 260 = .ok (.aload_n 0, 1) := by decide +kernel
theorem dX10_next_261 : decode cX10_next 261 = .ok (.getfield 85, 3) := by decide +kernel
theorem dX10_next_264 : decode cX10_next 264 = .ok (.iaload, 1) := by decide +kernel
theorem dX10_next_265 : decode cX10_next 265 = .ok (.invokestatic 99, 3) := by decide +kernel
theorem dX10_next_268 : decode cX10_next 268 = .ok (.ifCond .eq 62, 3) := by decide +kernel
theorem dX10_next_271 : decode cX10_next 271 = .ok (.aload_n 0, 1) := by decide +kernel
theorem dX10_next_272 : decode cX10_next 272 = .ok (.aload_n 0, 1) := by decide +kernel
theorem dX10_next_273 : decode cX10_next 273 = .ok (.getfield 85, 3) := by decide +kernel
theorem dX10_next_276 : decode cX10_next 276 = .ok (.aload_n 0, 1) := by decide +kernel
theorem dX10_next_277 : decode cX10_next 277 = .ok (.getfield 88, 3) := by decide +kernel
theorem dX10_next_280 : decode cX10_next 280 = .ok (.isub, 1) := by decide +kernel
theorem dX10_next_281 : decode cX10_next 281 = .ok (.iconst 2, 1) := by decide +kernel
theorem dX10_next_282 : decode cX10_next 282 = .ok (.if_icmp .ge 29, 3) := by decide +kernel
theorem dX10_next_285 : decode cX10_next 285 = .ok (.ldc2_w 111, 3) := by decide +kernel
theorem dX10_next_288 : decode cX10_next 288 = .ok (.aload_n 0, 1) := by decide +kernel
theorem dX10_next_289 : decode cX10_next 289 = .ok (.getfield 91, 3) := by decide +kernel
theorem dX10_next_292 : decode cX10_next 292 = .ok (.lmul, 1) := by decide +kernel
theorem dX10_next_293 : decode cX10_next 293 = .ok (.aload_n 0, 1) := by decide +kernel
theorem dX10_next_294 : decode cX10_next 294 = .ok (.getfield 7, 3) := by decide +kernel
theorem dX10_next_297 : decode cX10_next 297 = .ok (.aload_n 0, 1) := by decide +kernel
theorem dX10_next_298 : decode cX10_next 298 = .ok (.getfield 85, 3) := by decide +kernel
theorem dX10_next_301 : decode cX10_next 301 = .ok (.iaload, 1) := by decide +kernel
theorem dX10_next_302 : decode cX10_next 302 = .ok (.i2l, 1) := by decide +kernel
theorem dX10_next_303 : decode cX10_next 303 = .ok (.ladd, 1) := by decide +kernel
theorem dX10_next_304 : decode cX10_next 304 = .ok (.ldc2_w 113, 3) := by decide +kernel
theorem dX10_next_307 : decode cX10_next 307 = .ok (.lsub, 1) := by decide +kernel
theorem dX10_next_308 : decode cX10_next 308 = .ok (.goto 6, 3) := by decide +kernel
theorem dX10_next_311 : decode cX10_next 311 = .ok (.ldc2_w 115, 3) := by decide +kernel
theorem dX10_next_314 : decode cX10_next 314 = .ok (.putfield 91, 3) := by decide +kernel
theorem dX10_next_317 : decode cX10_next 317 = .ok (.aload_n 0, 1) := by decide +kernel
theorem dX10_next_318 : decode cX10_next 318 = .ok (.dup, 1) := by decide +kernel
theorem dX10_next_319 : decode cX10_next 319 = .ok (.getfield 85, 3) := by decide +kernel
theorem dX10_next_322 : decode cX10_next 322 = .ok (.iconst 1, 1) := by decide +kernel
theorem dX10_next_323 : decode cX10_next 323 = .ok (.iadd, 1) := by decide +kernel
theorem dX10_next_324 : decode cX10_next 324 = .ok (.putfield 85, 3) := by decide +kernel
theorem dX10_next_327 : decode cX10_next 327 = .ok (.goto (-90), 3) := by decide +kernel
theorem dX10_next_330 : decode cX10_next 330 = .ok (.aload_n 0, 1) := by decide +kernel
theorem dX10_next_331 : decode cX10_next 331 = .ok (.getfield 102, 3) := by decide +kernel
theorem dX10_next_334 : decode cX10_next 334 = .ok (.iconst 2, 1) := by decide +kernel
theorem dX10_next_335 : decode cX10_next 335 = .ok (.if_icmp .ne 35, 3) := by decide +kernel
theorem dX10_next_338 : decode cX10_next 338 = .ok (.aload_n 0, 1) := by decide +kernel
theorem dX10_next_339 : decode cX10_next 339 = .ok (.getfield 7, 3) := by decide +kernel
theorem dX10_next_342 : decode cX10_next 342 = .ok (.aload_n 0, 1) := by decide +kernel
theorem dX10_next_343 : decode cX10_next 343 = .ok (.getfield 88, 3) := by decide +kernel
theorem dX10_next_346 : decode cX10_next 346 = .ok (.iaload, 1) := by decide +kernel
theorem dX10_next_347 : decode cX10_next 347 = .ok (.bipush 48, 2) := by decide +kernel
theorem dX10_next_349 : decode cX10_next 349 = .ok (.if_icmp .ne 21, 3) := by decide +kernel
theorem dX10_next_352 : decode cX10_next 352 = .ok (.aload_n 0, 1) := by decide +kernel
theorem dX10_next_353 : decode cX10_next 353 = .ok (.getfield 85, 3) := by decide +kernel
theorem dX10_next_356 : decode cX10_next 356 = .ok (.aload_n 0, 1) := by decide +kernel
theorem dX10_next_357 : decode cX10_next 357 = .ok (.getfield 88, 3) := by decide +kernel
theorem dX10_next_360 : decode cX10_next 360 = .ok (.isub, 1) := by decide +kernel
theorem dX10_next_361 : decode cX10_next 361 = .ok (.iconst 1, 1) := by decide +kernel
theorem dX10_next_362 : decode cX10_next 362 = .ok (.if_icmp .le 8, 3) := by decide +kernel
theorem dX10_next_365 : decode cX10_next 365 = .ok (.aload_n 0, 1) := by decide +kernel
theorem dX10_next_366 : decode cX10_next 366 = .ok (.iconst 4, 1) := by decide +kernel
theorem dX10_next_367 : decode cX10_next 367 = .ok (.putfield 102, 3) := by decide +kernel
theorem dX10_next_370 : decode cX10_next 370 = .ok (.return_, 1) := by decide +kernel
theorem dX10_takes_0 : decode cX10_takes 0 = .ok (.aload_n 0, 1) := by decide +kernel
theorem dX10_takes_1 : decode cX10_takes 1 = .ok (.invokevirtual 117, 3) := by decide +kernel
theorem dX10_takes_4 : decode cX10_takes 4 = .ok (.aload_n 0, 1) := by decide +kernel
theorem dX10_takes_5 : decode cX10_takes 5 = .ok (.getfield 102, 3) := by decide +kernel
theorem dX10_takes_8 : decode cX10_takes 8 = .ok (.iconst 2, 1) := by decide +kernel
theorem dX10_takes_9 : decode cX10_takes 9 = .ok (.if_icmp .ne 21, 3) := by decide +kernel
theorem dX10_takes_12 : decode cX10_takes 12 = .ok (.aload_n 0, 1) := by decide +kernel
theorem dX10_takes_13 : decode cX10_takes 13 = .ok (.getfield 91, 3) := by decide +kernel
theorem dX10_takes_16 : decode cX10_takes 16 = .ok (.iload_n 1, 1) := by decide +kernel
theorem dX10_takes_17 : decode cX10_takes 17 = .ok (.i2l, 1) := by decide +kernel
theorem dX10_takes_18 : decode cX10_takes 18 = .ok (.iload_n 2, 1) := by decide +kernel
theorem dX10_takes_19 : decode cX10_takes 19 = .ok (.i2l, 1) := by decide +kernel
theorem dX10_takes_20 : decode cX10_takes 20 = .ok (.invokestatic 71, 3) := by decide +kernel
theorem dX10_takes_23 : decode cX10_takes 23 = .ok (.ifCond .eq 7, 3) := by decide +kernel
theorem dX10_takes_26 : decode cX10_takes 26 = .ok (.iconst 1, 1) := by decide +kernel
theorem dX10_takes_27 : decode cX10_takes 27 = .ok (.goto 4, 3) := by decide +kernel
theorem dX10_takes_30 : decode cX10_takes 30 = .ok (.iconst 0, 1) := by decide +kernel
theorem dX10_takes_31 : decode cX10_takes 31 = .ok (.ireturn, 1) := by decide +kernel
theorem dX10_stops_0 : decode cX10_stops 0 = .ok (.aload_n 0, 1) := by decide +kernel
theorem dX10_stops_1 : decode cX10_stops 1 = .ok (.invokevirtual 117, 3) := by decide +kernel
theorem dX10_stops_4 : decode cX10_stops 4 = .ok (.aload_n 0, 1) := by decide +kernel
theorem dX10_stops_5 : decode cX10_stops 5 = .ok (.getfield 102, 3) := by decide +kernel
theorem dX10_stops_8 : decode cX10_stops 8 = .ok (.iconst 3, 1) := by decide +kernel
theorem dX10_stops_9 : decode cX10_stops 9 = .ok (.if_icmp .ne 7, 3) := by decide +kernel
theorem dX10_stops_12 : decode cX10_stops 12 = .ok (.iconst 1, 1) := by decide +kernel
theorem dX10_stops_13 : decode cX10_stops 13 = .ok (.goto 4, 3) := by decide +kernel
theorem dX10_stops_16 : decode cX10_stops 16 = .ok (.iconst 0, 1) := by decide +kernel
theorem dX10_stops_17 : decode cX10_stops 17 = .ok (.ireturn, 1) := by decide +kernel
theorem dX10_takesPiece_0 : decode cX10_takesPiece 0 = .ok (.iconst 5, 1) := by decide +kernel
theorem dX10_takesPiece_1 : decode cX10_takesPiece 1 = .ok (.aload_n 0, 1) := by decide +kernel
theorem dX10_takesPiece_2 : decode cX10_takesPiece 2 = .ok (.getfield 120, 3) := by decide +kernel
theorem dX10_takesPiece_5 : decode cX10_takesPiece 5 = .ok (.imul, 1) := by decide +kernel
theorem dX10_takesPiece_6 : decode cX10_takesPiece 6 = .ok (.istore_n 1, 1) := by decide +kernel
theorem dX10_takesPiece_7 : decode cX10_takesPiece 7 = .ok (.aload_n 0, 1) := by decide +kernel
theorem dX10_takesPiece_8 : decode cX10_takesPiece 8 = .ok (.getfield 120, 3) := by decide +kernel
theorem dX10_takesPiece_11 : decode cX10_takesPiece 11 = .ok (.bipush 8, 2) := by decide +kernel
theorem dX10_takesPiece_13 : decode cX10_takesPiece 13 = .ok (.if_icmp .eq 12, 3) := by decide +kernel
theorem dX10_takesPiece_16 : decode cX10_takesPiece 16 = .ok (.aload_n 0, 1) := by decide +kernel
theorem dX10_takesPiece_17 : decode cX10_takesPiece 17 = .ok (.iconst 0, 1) := by decide +kernel
theorem dX10_takesPiece_18 : decode cX10_takesPiece 18 = .ok (.iconst 5, 1) := by decide +kernel
theorem dX10_takesPiece_19 : decode cX10_takesPiece 19 = .ok (.invokevirtual 123, 3) := by decide +kernel
theorem dX10_takesPiece_22 : decode cX10_takesPiece 22 = .ok (.ifCond .ne 5, 3) := by decide +kernel
theorem dX10_takesPiece_25 : decode cX10_takesPiece 25 = .ok (.iconst 0, 1) := by decide +kernel
theorem dX10_takesPiece_26 : decode cX10_takesPiece 26 = .ok (.ireturn, 1) := by decide +kernel
theorem dX10_takesPiece_27 : decode cX10_takesPiece 27 = .ok (.aload_n 0, 1) := by decide +kernel
theorem dX10_takesPiece_28 : decode cX10_takesPiece 28 = .ok (.getfield 46, 3) := by decide +kernel
theorem dX10_takesPiece_31 : decode cX10_takesPiece 31 = .ok (.iload_n 1, 1) := by decide +kernel
theorem dX10_takesPiece_32 : decode cX10_takesPiece 32 = .ok (.aload_n 0, 1) := by decide +kernel
theorem dX10_takesPiece_33 : decode cX10_takesPiece 33 = .ok (.getfield 91, 3) := by decide +kernel
theorem dX10_takesPiece_36 : decode cX10_takesPiece 36 = .ok (.l2i, 1) := by decide +kernel
theorem dX10_takesPiece_37 : decode cX10_takesPiece 37 = .ok (.iastore, 1) := by decide +kernel
theorem dX10_takesPiece_38 : decode cX10_takesPiece 38 = .ok (.aload_n 0, 1) := by decide +kernel
theorem dX10_takesPiece_39 : decode cX10_takesPiece 39 = .ok (.iconst 0, 1) := by decide +kernel
theorem dX10_takesPiece_40 : decode cX10_takesPiece 40 = .ok (.iconst 5, 1) := by decide +kernel
theorem dX10_takesPiece_41 : decode cX10_takesPiece 41 = .ok (.invokevirtual 123, 3) := by decide +kernel
theorem dX10_takesPiece_44 : decode cX10_takesPiece 44 = .ok (.ifCond .eq 18, 3) := by decide +kernel
theorem dX10_takesPiece_47 : decode cX10_takesPiece 47 = .ok (.aload_n 0, 1) := by decide +kernel
theorem dX10_takesPiece_48 : decode cX10_takesPiece 48 = .ok (.getfield 91, 3) := by decide +kernel
theorem dX10_takesPiece_51 : decode cX10_takesPiece 51 = .ok (.aload_n 0, 1) := by decide +kernel
theorem dX10_takesPiece_52 : decode cX10_takesPiece 52 = .ok (.getfield 46, 3) := by decide +kernel
theorem dX10_takesPiece_55 : decode cX10_takesPiece 55 = .ok (.iload_n 1, 1) := by decide +kernel
theorem dX10_takesPiece_56 : decode cX10_takesPiece 56 = .ok (.iaload, 1) := by decide +kernel
theorem dX10_takesPiece_57 : decode cX10_takesPiece 57 = .ok (.i2l, 1) := by decide +kernel
theorem dX10_takesPiece_58 : decode cX10_takesPiece 58 = .ok (.lcmp, 1) := by decide +kernel
theorem dX10_takesPiece_59 : decode cX10_takesPiece 59 = .ok (.ifCond .ne 5, 3) := by decide +kernel
theorem dX10_takesPiece_62 : decode cX10_takesPiece 62 = .ok (.iconst 0, 1) := by decide +kernel
theorem dX10_takesPiece_63 : decode cX10_takesPiece 63 = .ok (.ireturn, 1) := by decide +kernel
theorem dX10_takesPiece_64 : decode cX10_takesPiece 64 = .ok (.aload_n 0, 1) := by decide +kernel
theorem dX10_takesPiece_65 : decode cX10_takesPiece 65 = .ok (.getfield 46, 3) := by decide +kernel
theorem dX10_takesPiece_68 : decode cX10_takesPiece 68 = .ok (.iload_n 1, 1) := by decide +kernel
theorem dX10_takesPiece_69 : decode cX10_takesPiece 69 = .ok (.iconst 1, 1) := by decide +kernel
theorem dX10_takesPiece_70 : decode cX10_takesPiece 70 = .ok (.iadd, 1) := by decide +kernel
theorem dX10_takesPiece_71 : decode cX10_takesPiece 71 = .ok (.aload_n 0, 1) := by decide +kernel
theorem dX10_takesPiece_72 : decode cX10_takesPiece 72 = .ok (.getfield 91, 3) := by decide +kernel
theorem dX10_takesPiece_75 : decode cX10_takesPiece 75 = .ok (.l2i, 1) := by decide +kernel
theorem dX10_takesPiece_76 : decode cX10_takesPiece 76 = .ok (.iastore, 1) := by decide +kernel
theorem dX10_takesPiece_77 : decode cX10_takesPiece 77 = .ok (.aload_n 0, 1) := by decide +kernel
theorem dX10_takesPiece_78 : decode cX10_takesPiece 78 = .ok (.iconst 1, 1) := by decide +kernel
theorem dX10_takesPiece_79 : decode cX10_takesPiece 79 = .ok (.bipush 30, 2) := by decide +kernel
theorem dX10_takesPiece_81 : decode cX10_takesPiece 81 = .ok (.invokevirtual 123, 3) := by decide +kernel
theorem dX10_takesPiece_84 : decode cX10_takesPiece 84 = .ok (.ifCond .ne 5, 3) := by decide +kernel
theorem dX10_takesPiece_87 : decode cX10_takesPiece 87 = .ok (.iconst 0, 1) := by decide +kernel
theorem dX10_takesPiece_88 : decode cX10_takesPiece 88 = .ok (.ireturn, 1) := by decide +kernel
theorem dX10_takesPiece_89 : decode cX10_takesPiece 89 = .ok (.aload_n 0, 1) := by decide +kernel
theorem dX10_takesPiece_90 : decode cX10_takesPiece 90 = .ok (.getfield 46, 3) := by decide +kernel
theorem dX10_takesPiece_93 : decode cX10_takesPiece 93 = .ok (.iload_n 1, 1) := by decide +kernel
theorem dX10_takesPiece_94 : decode cX10_takesPiece 94 = .ok (.iconst 2, 1) := by decide +kernel
theorem dX10_takesPiece_95 : decode cX10_takesPiece 95 = .ok (.iadd, 1) := by decide +kernel
theorem dX10_takesPiece_96 : decode cX10_takesPiece 96 = .ok (.aload_n 0, 1) := by decide +kernel
theorem dX10_takesPiece_97 : decode cX10_takesPiece 97 = .ok (.getfield 91, 3) := by decide +kernel
theorem dX10_takesPiece_100 : decode cX10_takesPiece 100 = .ok (.l2i, 1) := by decide +kernel
theorem dX10_takesPiece_101 : decode cX10_takesPiece 101 = .ok (.iastore, 1) := by decide +kernel
theorem dX10_takesPiece_102 : decode cX10_takesPiece 102 = .ok (.aload_n 0, 1) := by decide +kernel
theorem dX10_takesPiece_103 : decode cX10_takesPiece 103 = .ok (.getfield 46, 3) := by decide +kernel
theorem dX10_takesPiece_106 : decode cX10_takesPiece 106 = .ok (.iload_n 1, 1) := by decide +kernel
theorem dX10_takesPiece_107 : decode cX10_takesPiece 107 = .ok (.iconst 3, 1) := by decide +kernel
theorem dX10_takesPiece_108 : decode cX10_takesPiece 108 = .ok (.iadd, 1) := by decide +kernel
theorem dX10_takesPiece_109 : decode cX10_takesPiece 109 = .ok (.bipush (-9), 2) := by decide +kernel
theorem dX10_takesPiece_111 : decode cX10_takesPiece 111 = .ok (.iastore, 1) := by decide +kernel
theorem dX10_takesPiece_112 : decode cX10_takesPiece 112 = .ok (.aload_n 0, 1) := by decide +kernel
theorem dX10_takesPiece_113 : decode cX10_takesPiece 113 = .ok (.getfield 46, 3) := by decide +kernel
theorem dX10_takesPiece_116 : decode cX10_takesPiece 116 = .ok (.iload_n 1, 1) := by decide +kernel
theorem dX10_takesPiece_117 : decode cX10_takesPiece 117 = .ok (.iconst 4, 1) := by decide +kernel
theorem dX10_takesPiece_118 : decode cX10_takesPiece 118 = .ok (.iadd, 1) := by decide +kernel
theorem dX10_takesPiece_119 : decode cX10_takesPiece 119 = .ok (.iconst 0, 1) := by decide +kernel
theorem dX10_takesPiece_120 : decode cX10_takesPiece 120 = .ok (.iastore, 1) := by decide +kernel
theorem dX10_takesPiece_121 : decode cX10_takesPiece 121 = .ok (.aload_n 0, 1) := by decide +kernel
theorem dX10_takesPiece_122 : decode cX10_takesPiece 122 = .ok (.dup, 1) := by decide +kernel
theorem dX10_takesPiece_123 : decode cX10_takesPiece 123 = .ok (.getfield 120, 3) := by decide +kernel
theorem dX10_takesPiece_126 : decode cX10_takesPiece 126 = .ok (.iconst 1, 1) := by decide +kernel
theorem dX10_takesPiece_127 : decode cX10_takesPiece 127 = .ok (.iadd, 1) := by decide +kernel
theorem dX10_takesPiece_128 : decode cX10_takesPiece 128 = .ok (.putfield 120, 3) := by decide +kernel
theorem dX10_takesPiece_131 : decode cX10_takesPiece 131 = .ok (.aload_n 0, 1) := by decide +kernel
theorem dX10_takesPiece_132 : decode cX10_takesPiece 132 = .ok (.invokevirtual 127, 3) := by decide +kernel
theorem dX10_takesPiece_135 : decode cX10_takesPiece 135 = .ok (.ireturn, 1) := by decide +kernel
theorem dX10_takesFamily_0 : decode cX10_takesFamily 0 = .ok (.bipush 40, 2) := by decide +kernel
theorem dX10_takesFamily_2 : decode cX10_takesFamily 2 = .ok (.iconst 3, 1) := by decide +kernel
theorem dX10_takesFamily_3 : decode cX10_takesFamily 3 = .ok (.aload_n 0, 1) := by decide +kernel
theorem dX10_takesFamily_4 : decode cX10_takesFamily 4 = .ok (.getfield 131, 3) := by decide +kernel
theorem dX10_takesFamily_7 : decode cX10_takesFamily 7 = .ok (.imul, 1) := by decide +kernel
theorem dX10_takesFamily_8 : decode cX10_takesFamily 8 = .ok (.iadd, 1) := by decide +kernel
theorem dX10_takesFamily_9 : decode cX10_takesFamily 9 = .ok (.istore_n 1, 1) := by decide +kernel
theorem dX10_takesFamily_10 : decode cX10_takesFamily 10 = .ok (.aload_n 0, 1) := by decide +kernel
theorem dX10_takesFamily_11 : decode cX10_takesFamily 11 = .ok (.getfield 131, 3) := by decide +kernel
theorem dX10_takesFamily_14 : decode cX10_takesFamily 14 = .ok (.iconst 4, 1) := by decide +kernel
theorem dX10_takesFamily_15 : decode cX10_takesFamily 15 = .ok (.if_icmp .eq 12, 3) := by decide +kernel
theorem dX10_takesFamily_18 : decode cX10_takesFamily 18 = .ok (.aload_n 0, 1) := by decide +kernel
theorem dX10_takesFamily_19 : decode cX10_takesFamily 19 = .ok (.iconst 0, 1) := by decide +kernel
theorem dX10_takesFamily_20 : decode cX10_takesFamily 20 = .ok (.iconst 5, 1) := by decide +kernel
theorem dX10_takesFamily_21 : decode cX10_takesFamily 21 = .ok (.invokevirtual 123, 3) := by decide +kernel
theorem dX10_takesFamily_24 : decode cX10_takesFamily 24 = .ok (.ifCond .ne 5, 3) := by decide +kernel
theorem dX10_takesFamily_27 : decode cX10_takesFamily 27 = .ok (.iconst 0, 1) := by decide +kernel
theorem dX10_takesFamily_28 : decode cX10_takesFamily 28 = .ok (.ireturn, 1) := by decide +kernel
theorem dX10_takesFamily_29 : decode cX10_takesFamily 29 = .ok (.aload_n 0, 1) := by decide +kernel
theorem dX10_takesFamily_30 : decode cX10_takesFamily 30 = .ok (.getfield 46, 3) := by decide +kernel
theorem dX10_takesFamily_33 : decode cX10_takesFamily 33 = .ok (.iload_n 1, 1) := by decide +kernel
theorem dX10_takesFamily_34 : decode cX10_takesFamily 34 = .ok (.aload_n 0, 1) := by decide +kernel
theorem dX10_takesFamily_35 : decode cX10_takesFamily 35 = .ok (.getfield 91, 3) := by decide +kernel
theorem dX10_takesFamily_38 : decode cX10_takesFamily 38 = .ok (.l2i, 1) := by decide +kernel
theorem dX10_takesFamily_39 : decode cX10_takesFamily 39 = .ok (.iastore, 1) := by decide +kernel
theorem dX10_takesFamily_40 : decode cX10_takesFamily 40 = .ok (.aload_n 0, 1) := by decide +kernel
theorem dX10_takesFamily_41 : decode cX10_takesFamily 41 = .ok (.iconst 0, 1) := by decide +kernel
theorem dX10_takesFamily_42 : decode cX10_takesFamily 42 = .ok (.iconst 5, 1) := by decide +kernel
theorem dX10_takesFamily_43 : decode cX10_takesFamily 43 = .ok (.invokevirtual 123, 3) := by decide +kernel
theorem dX10_takesFamily_46 : decode cX10_takesFamily 46 = .ok (.ifCond .ne 5, 3) := by decide +kernel
theorem dX10_takesFamily_49 : decode cX10_takesFamily 49 = .ok (.iconst 0, 1) := by decide +kernel
theorem dX10_takesFamily_50 : decode cX10_takesFamily 50 = .ok (.ireturn, 1) := by decide +kernel
theorem dX10_takesFamily_51 : decode cX10_takesFamily 51 = .ok (.aload_n 0, 1) := by decide +kernel
theorem dX10_takesFamily_52 : decode cX10_takesFamily 52 = .ok (.getfield 46, 3) := by decide +kernel
theorem dX10_takesFamily_55 : decode cX10_takesFamily 55 = .ok (.iload_n 1, 1) := by decide +kernel
theorem dX10_takesFamily_56 : decode cX10_takesFamily 56 = .ok (.iconst 1, 1) := by decide +kernel
theorem dX10_takesFamily_57 : decode cX10_takesFamily 57 = .ok (.iadd, 1) := by decide +kernel
theorem dX10_takesFamily_58 : decode cX10_takesFamily 58 = .ok (.aload_n 0, 1) := by decide +kernel
theorem dX10_takesFamily_59 : decode cX10_takesFamily 59 = .ok (.getfield 91, 3) := by decide +kernel
theorem dX10_takesFamily_62 : decode cX10_takesFamily 62 = .ok (.l2i, 1) := by decide +kernel
theorem dX10_takesFamily_63 : decode cX10_takesFamily 63 = .ok (.iastore, 1) := by decide +kernel
theorem dX10_takesFamily_64 : decode cX10_takesFamily 64 = .ok (.aload_n 0, 1) := by decide +kernel
theorem dX10_takesFamily_65 : decode cX10_takesFamily 65 = .ok (.iconst 1, 1) := by decide +kernel
theorem dX10_takesFamily_66 : decode cX10_takesFamily 66 = .ok (.bipush 9, 2) := by decide +kernel
theorem dX10_takesFamily_68 : decode cX10_takesFamily 68 = .ok (.invokevirtual 123, 3) := by decide +kernel
theorem dX10_takesFamily_71 : decode cX10_takesFamily 71 = .ok (.ifCond .ne 5, 3) := by decide +kernel
theorem dX10_takesFamily_74 : decode cX10_takesFamily 74 = .ok (.iconst 0, 1) := by decide +kernel
theorem dX10_takesFamily_75 : decode cX10_takesFamily 75 = .ok (.ireturn, 1) := by decide +kernel
theorem dX10_takesFamily_76 : decode cX10_takesFamily 76 = .ok (.aload_n 0, 1) := by decide +kernel
theorem dX10_takesFamily_77 : decode cX10_takesFamily 77 = .ok (.getfield 46, 3) := by decide +kernel
theorem dX10_takesFamily_80 : decode cX10_takesFamily 80 = .ok (.iload_n 1, 1) := by decide +kernel
theorem dX10_takesFamily_81 : decode cX10_takesFamily 81 = .ok (.iconst 2, 1) := by decide +kernel
theorem dX10_takesFamily_82 : decode cX10_takesFamily 82 = .ok (.iadd, 1) := by decide +kernel
theorem dX10_takesFamily_83 : decode cX10_takesFamily 83 = .ok (.aload_n 0, 1) := by decide +kernel
theorem dX10_takesFamily_84 : decode cX10_takesFamily 84 = .ok (.getfield 91, 3) := by decide +kernel
theorem dX10_takesFamily_87 : decode cX10_takesFamily 87 = .ok (.l2i, 1) := by decide +kernel
theorem dX10_takesFamily_88 : decode cX10_takesFamily 88 = .ok (.iastore, 1) := by decide +kernel
theorem dX10_takesFamily_89 : decode cX10_takesFamily 89 = .ok (.aload_n 0, 1) := by decide +kernel
theorem dX10_takesFamily_90 : decode cX10_takesFamily 90 = .ok (.dup, 1) := by decide +kernel
theorem dX10_takesFamily_91 : decode cX10_takesFamily 91 = .ok (.getfield 131, 3) := by decide +kernel
theorem dX10_takesFamily_94 : decode cX10_takesFamily 94 = .ok (.iconst 1, 1) := by decide +kernel
theorem dX10_takesFamily_95 : decode cX10_takesFamily 95 = .ok (.iadd, 1) := by decide +kernel
theorem dX10_takesFamily_96 : decode cX10_takesFamily 96 = .ok (.putfield 131, 3) := by decide +kernel
theorem dX10_takesFamily_99 : decode cX10_takesFamily 99 = .ok (.aload_n 0, 1) := by decide +kernel
theorem dX10_takesFamily_100 : decode cX10_takesFamily 100 = .ok (.invokevirtual 127, 3) := by decide +kernel
theorem dX10_takesFamily_103 : decode cX10_takesFamily 103 = .ok (.ireturn, 1) := by decide +kernel
theorem dX10_takesTold_0 : decode cX10_takesTold 0 = .ok (.aload_n 0, 1) := by decide +kernel
theorem dX10_takesTold_1 : decode cX10_takesTold 1 = .ok (.iconst 0, 1) := by decide +kernel
theorem dX10_takesTold_2 : decode cX10_takesTold 2 = .ok (.aload_n 0, 1) := by decide +kernel
theorem dX10_takesTold_3 : decode cX10_takesTold 3 = .ok (.getfield 120, 3) := by decide +kernel
theorem dX10_takesTold_6 : decode cX10_takesTold 6 = .ok (.iconst 1, 1) := by decide +kernel
theorem dX10_takesTold_7 : decode cX10_takesTold 7 = .ok (.isub, 1) := by decide +kernel
theorem dX10_takesTold_8 : decode cX10_takesTold 8 = .ok (.invokevirtual 123, 3) := by decide +kernel
theorem dX10_takesTold_11 : decode cX10_takesTold 11 = .ok (.ifCond .ne 5, 3) := by decide +kernel
theorem dX10_takesTold_14 : decode cX10_takesTold 14 = .ok (.iconst 0, 1) := by decide +kernel
theorem dX10_takesTold_15 : decode cX10_takesTold 15 = .ok (.ireturn, 1) := by decide +kernel
theorem dX10_takesTold_16 : decode cX10_takesTold 16 = .ok (.iconst 5, 1) := by decide +kernel
theorem dX10_takesTold_17 : decode cX10_takesTold 17 = .ok (.aload_n 0, 1) := by decide +kernel
theorem dX10_takesTold_18 : decode cX10_takesTold 18 = .ok (.getfield 91, 3) := by decide +kernel
theorem dX10_takesTold_21 : decode cX10_takesTold 21 = .ok (.l2i, 1) := by decide +kernel
theorem dX10_takesTold_22 : decode cX10_takesTold 22 = .ok (.imul, 1) := by decide +kernel
theorem dX10_takesTold_23 : decode cX10_takesTold 23 = .ok (.istore_n 3, 1) := by decide +kernel
theorem dX10_takesTold_24 : decode cX10_takesTold 24 = .ok (.lload_n 1, 1) := by decide +kernel
theorem dX10_takesTold_25 : decode cX10_takesTold 25 = .ok (.ldc2_w 134, 3) := by decide +kernel
theorem dX10_takesTold_28 : decode cX10_takesTold 28 = .ok (.lcmp, 1) := by decide +kernel
theorem dX10_takesTold_29 : decode cX10_takesTold 29 = .ok (.ifCond .ne 18, 3) := by decide +kernel
theorem dX10_takesTold_32 : decode cX10_takesTold 32 = .ok (.aload_n 0, 1) := by decide +kernel
theorem dX10_takesTold_33 : decode cX10_takesTold 33 = .ok (.getfield 46, 3) := by decide +kernel
theorem dX10_takesTold_36 : decode cX10_takesTold 36 = .ok (.iload_n 3, 1) := by decide +kernel
theorem dX10_takesTold_37 : decode cX10_takesTold 37 = .ok (.iconst 3, 1) := by decide +kernel
theorem dX10_takesTold_38 : decode cX10_takesTold 38 = .ok (.iadd, 1) := by decide +kernel
theorem dX10_takesTold_39 : decode cX10_takesTold 39 = .ok (.bipush (-5), 2) := by decide +kernel
theorem dX10_takesTold_41 : decode cX10_takesTold 41 = .ok (.iastore, 1) := by decide +kernel
theorem dX10_takesTold_42 : decode cX10_takesTold 42 = .ok (.aload_n 0, 1) := by decide +kernel
theorem dX10_takesTold_43 : decode cX10_takesTold 43 = .ok (.invokevirtual 127, 3) := by decide +kernel
theorem dX10_takesTold_46 : decode cX10_takesTold 46 = .ok (.ireturn, 1) := by decide +kernel
theorem dX10_takesTold_47 : decode cX10_takesTold 47 = .ok (.aload_n 0, 1) := by decide +kernel
theorem dX10_takesTold_48 : decode cX10_takesTold 48 = .ok (.iconst 0, 1) := by decide +kernel
theorem dX10_takesTold_49 : decode cX10_takesTold 49 = .ok (.lload_n 1, 1) := by decide +kernel
theorem dX10_takesTold_50 : decode cX10_takesTold 50 = .ok (.ldc2_w 136, 3) := by decide +kernel
theorem dX10_takesTold_53 : decode cX10_takesTold 53 = .ok (.lcmp, 1) := by decide +kernel
theorem dX10_takesTold_54 : decode cX10_takesTold 54 = .ok (.ifCond .ne 12, 3) := by decide +kernel
theorem dX10_takesTold_57 : decode cX10_takesTold 57 = .ok (.aload_n 0, 1) := by decide +kernel
theorem dX10_takesTold_58 : decode cX10_takesTold 58 = .ok (.getfield 131, 3) := by decide +kernel
theorem dX10_takesTold_61 : decode cX10_takesTold 61 = .ok (.iconst 1, 1) := by decide +kernel
theorem dX10_takesTold_62 : decode cX10_takesTold 62 = .ok (.isub, 1) := by decide +kernel
theorem dX10_takesTold_63 : decode cX10_takesTold 63 = .ok (.goto 5, 3) := by decide +kernel
theorem dX10_takesTold_66 : decode cX10_takesTold 66 = .ok (.bipush 9, 2) := by decide +kernel
theorem dX10_takesTold_68 : decode cX10_takesTold 68 = .ok (.invokevirtual 123, 3) := by decide +kernel
theorem dX10_takesTold_71 : decode cX10_takesTold 71 = .ok (.ifCond .ne 5, 3) := by decide +kernel
theorem dX10_takesTold_74 : decode cX10_takesTold 74 = .ok (.iconst 0, 1) := by decide +kernel
theorem dX10_takesTold_75 : decode cX10_takesTold 75 = .ok (.ireturn, 1) := by decide +kernel
theorem dX10_takesTold_76 : decode cX10_takesTold 76 = .ok (.aload_n 0, 1) := by decide +kernel
theorem dX10_takesTold_77 : decode cX10_takesTold 77 = .ok (.getfield 46, 3) := by decide +kernel
theorem dX10_takesTold_80 : decode cX10_takesTold 80 = .ok (.lload_n 1, 1) := by decide +kernel
theorem dX10_takesTold_81 : decode cX10_takesTold 81 = .ok (.ldc2_w 136, 3) := by decide +kernel
theorem dX10_takesTold_84 : decode cX10_takesTold 84 = .ok (.lcmp, 1) := by decide +kernel
theorem dX10_takesTold_85 : decode cX10_takesTold 85 = .ok (.ifCond .ne 9, 3) := by decide +kernel
theorem dX10_takesTold_88 : decode cX10_takesTold 88 = .ok (.iload_n 3, 1) := by decide +kernel
theorem dX10_takesTold_89 : decode cX10_takesTold 89 = .ok (.iconst 3, 1) := by decide +kernel
theorem dX10_takesTold_90 : decode cX10_takesTold 90 = .ok (.iadd, 1) := by decide +kernel
theorem dX10_takesTold_91 : decode cX10_takesTold 91 = .ok (.goto 6, 3) := by decide +kernel
theorem dX10_takesTold_94 : decode cX10_takesTold 94 = .ok (.iload_n 3, 1) := by decide +kernel
theorem dX10_takesTold_95 : decode cX10_takesTold 95 = .ok (.iconst 4, 1) := by decide +kernel
theorem dX10_takesTold_96 : decode cX10_takesTold 96 = .ok (.iadd, 1) := by decide +kernel
theorem dX10_takesTold_97 : decode cX10_takesTold 97 = .ok (.aload_n 0, 1) := by decide +kernel
theorem dX10_takesTold_98 : decode cX10_takesTold 98 = .ok (.getfield 91, 3) := by decide +kernel
theorem dX10_takesTold_101 : decode cX10_takesTold 101 = .ok (.l2i, 1) := by decide +kernel
theorem dX10_takesTold_102 : decode cX10_takesTold 102 = .ok (.iastore, 1) := by decide +kernel
theorem dX10_takesTold_103 : decode cX10_takesTold 103 = .ok (.aload_n 0, 1) := by decide +kernel
theorem dX10_takesTold_104 : decode cX10_takesTold 104 = .ok (.invokevirtual 127, 3) := by decide +kernel
theorem dX10_takesTold_107 : decode cX10_takesTold 107 = .ok (.ireturn, 1) := by decide +kernel
theorem dX10_takesAll_0 : decode cX10_takesAll 0 = .ok (.aload_n 0, 1) := by decide +kernel
theorem dX10_takesAll_1 : decode cX10_takesAll 1 = .ok (.iconst 0, 1) := by decide +kernel
theorem dX10_takesAll_2 : decode cX10_takesAll 2 = .ok (.putfield 85, 3) := by decide +kernel
theorem dX10_takesAll_5 : decode cX10_takesAll 5 = .ok (.aload_n 0, 1) := by decide +kernel
theorem dX10_takesAll_6 : decode cX10_takesAll 6 = .ok (.iconst 0, 1) := by decide +kernel
theorem dX10_takesAll_7 : decode cX10_takesAll 7 = .ok (.putfield 120, 3) := by decide +kernel
theorem dX10_takesAll_10 : decode cX10_takesAll 10 = .ok (.aload_n 0, 1) := by decide +kernel
theorem dX10_takesAll_11 : decode cX10_takesAll 11 = .ok (.iconst 0, 1) := by decide +kernel
theorem dX10_takesAll_12 : decode cX10_takesAll 12 = .ok (.putfield 131, 3) := by decide +kernel
theorem dX10_takesAll_15 : decode cX10_takesAll 15 = .ok (.iconst 0, 1) := by decide +kernel
theorem dX10_takesAll_16 : decode cX10_takesAll 16 = .ok (.istore_n 1, 1) := by decide +kernel
theorem dX10_takesAll_17 : decode cX10_takesAll 17 = .ok (.aload_n 0, 1) := by decide +kernel
theorem dX10_takesAll_18 : decode cX10_takesAll 18 = .ok (.invokevirtual 117, 3) := by decide +kernel
theorem dX10_takesAll_21 : decode cX10_takesAll 21 = .ok (.aload_n 0, 1) := by decide +kernel
theorem dX10_takesAll_22 : decode cX10_takesAll 22 = .ok (.getfield 102, 3) := by decide +kernel
theorem dX10_takesAll_25 : decode cX10_takesAll 25 = .ok (.ifCond .eq 108, 3) := by decide +kernel
theorem dX10_takesAll_28 : decode cX10_takesAll 28 = .ok (.aload_n 0, 1) := by decide +kernel
theorem dX10_takesAll_29 : decode cX10_takesAll 29 = .ok (.getfield 102, 3) := by decide +kernel
theorem dX10_takesAll_32 : decode cX10_takesAll 32 = .ok (.iconst 1, 1) := by decide +kernel
theorem dX10_takesAll_33 : decode cX10_takesAll 33 = .ok (.if_icmp .ne 10, 3) := by decide +kernel
theorem dX10_takesAll_36 : decode cX10_takesAll 36 = .ok (.aload_n 0, 1) := by decide +kernel
theorem dX10_takesAll_37 : decode cX10_takesAll 37 = .ok (.getfield 91, 3) := by decide +kernel
theorem dX10_takesAll_40 : decode cX10_takesAll 40 = .ok (.goto 6, 3) := by decide +kernel
theorem dX10_takesAll_43 : decode cX10_takesAll 43 = .ok (.ldc2_w 109, 3) := by decide +kernel
theorem dX10_takesAll_46 : decode cX10_takesAll 46 = .ok (.lstore_n 2, 1) := by decide +kernel
theorem dX10_takesAll_47 : decode cX10_takesAll 47 = .ok (.lload_n 2, 1) := by decide +kernel
theorem dX10_takesAll_48 : decode cX10_takesAll 48 = .ok (.ldc2_w 138, 3) := by decide +kernel
theorem dX10_takesAll_51 : decode cX10_takesAll 51 = .ok (.lcmp, 1) := by decide +kernel
theorem dX10_takesAll_52 : decode cX10_takesAll 52 = .ok (.ifCond .ne 10, 3) := by decide +kernel
theorem dX10_takesAll_55 : decode cX10_takesAll 55 = .ok (.aload_n 0, 1) := by decide +kernel
theorem dX10_takesAll_56 : decode cX10_takesAll 56 = .ok (.invokevirtual 140, 3) := by decide +kernel
theorem dX10_takesAll_59 : decode cX10_takesAll 59 = .ok (.goto 55, 3) := by decide +kernel
theorem dX10_takesAll_62 : decode cX10_takesAll 62 = .ok (.lload_n 2, 1) := by decide +kernel
theorem dX10_takesAll_63 : decode cX10_takesAll 63 = .ok (.ldc2_w 143, 3) := by decide +kernel
theorem dX10_takesAll_66 : decode cX10_takesAll 66 = .ok (.lcmp, 1) := by decide +kernel
theorem dX10_takesAll_67 : decode cX10_takesAll 67 = .ok (.ifCond .ne 10, 3) := by decide +kernel
theorem dX10_takesAll_70 : decode cX10_takesAll 70 = .ok (.aload_n 0, 1) := by decide +kernel
theorem dX10_takesAll_71 : decode cX10_takesAll 71 = .ok (.invokevirtual 145, 3) := by decide +kernel
theorem dX10_takesAll_74 : decode cX10_takesAll 74 = .ok (.goto 40, 3) := by decide +kernel
theorem dX10_takesAll_77 : decode cX10_takesAll 77 = .ok (.lload_n 2, 1) := by decide +kernel
theorem dX10_takesAll_78 : decode cX10_takesAll 78 = .ok (.ldc2_w 136, 3) := by decide +kernel
theorem dX10_takesAll_81 : decode cX10_takesAll 81 = .ok (.lcmp, 1) := by decide +kernel
theorem dX10_takesAll_82 : decode cX10_takesAll 82 = .ok (.ifCond .eq 19, 3) := by decide +kernel
theorem dX10_takesAll_85 : decode cX10_takesAll 85 = .ok (.lload_n 2, 1) := by decide +kernel
theorem dX10_takesAll_86 : decode cX10_takesAll 86 = .ok (.ldc2_w 134, 3) := by decide +kernel
theorem dX10_takesAll_89 : decode cX10_takesAll 89 = .ok (.lcmp, 1) := by decide +kernel
theorem dX10_takesAll_90 : decode cX10_takesAll 90 = .ok (.ifCond .eq 11, 3) := by decide +kernel
theorem dX10_takesAll_93 : decode cX10_takesAll 93 = .ok (.lload_n 2, 1) := by decide +kernel
theorem dX10_takesAll_94 : decode cX10_takesAll 94 = .ok (.ldc2_w 148, 3) := by decide +kernel
theorem dX10_takesAll_97 : decode cX10_takesAll 97 = .ok (.lcmp, 1) := by decide +kernel
theorem dX10_takesAll_98 : decode cX10_takesAll 98 = .ok (.ifCond .ne 15, 3) := by decide +kernel
theorem dX10_takesAll_101 : decode cX10_takesAll 101 = .ok (.aload_n 0, 1) := by decide +kernel
theorem dX10_takesAll_102 : decode cX10_takesAll 102 = .ok (.lload_n 2, 1) := by decide +kernel
theorem dX10_takesAll_103 : decode cX10_takesAll 103 = .ok (.invokevirtual 150, 3) := by decide +kernel
theorem dX10_takesAll_106 : decode cX10_takesAll 106 = .ok (.ifCond .eq 7, 3) := by decide +kernel
theorem dX10_takesAll_109 : decode cX10_takesAll 109 = .ok (.iconst 1, 1) := by decide +kernel
theorem dX10_takesAll_110 : decode cX10_takesAll 110 = .ok (.goto 4, 3) := by decide +kernel
theorem dX10_takesAll_113 : decode cX10_takesAll 113 = .ok (.iconst 0, 1) := by decide +kernel
theorem dX10_takesAll_114 : decode cX10_takesAll 114 = .ok (.istore 4, 2) := by decide +kernel
theorem dX10_takesAll_116 : decode cX10_takesAll 116 = .ok (.iload 4, 2) := by decide +kernel
theorem dX10_takesAll_118 : decode cX10_takesAll 118 = .ok (.ifCond .ne 5, 3) := by decide +kernel
theorem dX10_takesAll_121 : decode cX10_takesAll 121 = .ok (.iconst (-1), 1) := by decide +kernel
theorem dX10_takesAll_122 : decode cX10_takesAll 122 = .ok (.ireturn, 1) := by decide +kernel
theorem dX10_takesAll_123 : decode cX10_takesAll 123 = .ok (.iinc 1 1, 3) := by decide +kernel
theorem dX10_takesAll_126 : decode cX10_takesAll 126 = .ok (.aload_n 0, 1) := by decide +kernel
theorem dX10_takesAll_127 : decode cX10_takesAll 127 = .ok (.invokevirtual 117, 3) := by decide +kernel
theorem dX10_takesAll_130 : decode cX10_takesAll 130 = .ok (.goto (-109), 3) := by decide +kernel
theorem dX10_takesAll_133 : decode cX10_takesAll 133 = .ok (.iload_n 1, 1) := by decide +kernel
theorem dX10_takesAll_134 : decode cX10_takesAll 134 = .ok (.ireturn, 1) := by decide +kernel
theorem dX10_town_0 : decode cX10_town 0 = .ok (.aload_n 0, 1) := by decide +kernel
theorem dX10_town_1 : decode cX10_town 1 = .ok (.invokevirtual 154, 3) := by decide +kernel
theorem dX10_town_4 : decode cX10_town 4 = .ok (.istore_n 1, 1) := by decide +kernel
theorem dX10_town_5 : decode cX10_town 5 = .ok (.iload_n 1, 1) := by decide +kernel
theorem dX10_town_6 : decode cX10_town 6 = .ok (.ifCond .ge 11, 3) := by decide +kernel
theorem dX10_town_9 : decode cX10_town 9 = .ok (.bipush (-10), 2) := by decide +kernel
theorem dX10_town_11 : decode cX10_town 11 = .ok (.aload_n 0, 1) := by decide +kernel
theorem dX10_town_12 : decode cX10_town 12 = .ok (.getfield 88, 3) := by decide +kernel
theorem dX10_town_15 : decode cX10_town 15 = .ok (.isub, 1) := by decide +kernel
theorem dX10_town_16 : decode cX10_town 16 = .ok (.ireturn, 1) := by decide +kernel
theorem dX10_town_17 : decode cX10_town 17 = .ok (.aload_n 0, 1) := by decide +kernel
theorem dX10_town_18 : decode cX10_town 18 = .ok (.aload_n 0, 1) := by decide +kernel
theorem dX10_town_19 : decode cX10_town 19 = .ok (.getfield 120, 3) := by decide +kernel
theorem dX10_town_22 : decode cX10_town 22 = .ok (.putfield 67, 3) := by decide +kernel
theorem dX10_town_25 : decode cX10_town 25 = .ok (.aload_n 0, 1) := by decide +kernel
theorem dX10_town_26 : decode cX10_town 26 = .ok (.aload_n 0, 1) := by decide +kernel
theorem dX10_town_27 : decode cX10_town 27 = .ok (.getfield 131, 3) := by decide +kernel
theorem dX10_town_30 : decode cX10_town 30 = .ok (.putfield 75, 3) := by decide +kernel
theorem dX10_town_33 : decode cX10_town 33 = .ok (.iconst 0, 1) := by decide +kernel
theorem dX10_town_34 : decode cX10_town 34 = .ok (.istore_n 2, 1) := by decide +kernel
theorem dX10_town_35 : decode cX10_town 35 = .ok (.iload_n 2, 1) := by decide +kernel
theorem dX10_town_36 : decode cX10_town 36 = .ok (.aload_n 0, 1) := by decide +kernel
theorem dX10_town_37 : decode cX10_town 37 = .ok (.getfield 67, 3) := by decide +kernel
theorem dX10_town_40 : decode cX10_town 40 = .ok (.if_icmp .ge 87, 3) := by decide +kernel
theorem dX10_town_43 : decode cX10_town 43 = .ok (.aload_n 0, 1) := by decide +kernel
theorem dX10_town_44 : decode cX10_town 44 = .ok (.getfield 13, 3) := by decide +kernel
theorem dX10_town_47 : decode cX10_town 47 = .ok (.iload_n 2, 1) := by decide +kernel
theorem dX10_town_48 : decode cX10_town 48 = .ok (.aload_n 0, 1) := by decide +kernel
theorem dX10_town_49 : decode cX10_town 49 = .ok (.getfield 46, 3) := by decide +kernel
theorem dX10_town_52 : decode cX10_town 52 = .ok (.iconst 5, 1) := by decide +kernel
theorem dX10_town_53 : decode cX10_town 53 = .ok (.iload_n 2, 1) := by decide +kernel
theorem dX10_town_54 : decode cX10_town 54 = .ok (.imul, 1) := by decide +kernel
theorem dX10_town_55 : decode cX10_town 55 = .ok (.iaload, 1) := by decide +kernel
theorem dX10_town_56 : decode cX10_town 56 = .ok (.iastore, 1) := by decide +kernel
theorem dX10_town_57 : decode cX10_town 57 = .ok (.aload_n 0, 1) := by decide +kernel
theorem dX10_town_58 : decode cX10_town 58 = .ok (.getfield 16, 3) := by decide +kernel
theorem dX10_town_61 : decode cX10_town 61 = .ok (.iload_n 2, 1) := by decide +kernel
theorem dX10_town_62 : decode cX10_town 62 = .ok (.aload_n 0, 1) := by decide +kernel
theorem dX10_town_63 : decode cX10_town 63 = .ok (.getfield 46, 3) := by decide +kernel
theorem dX10_town_66 : decode cX10_town 66 = .ok (.iconst 5, 1) := by decide +kernel
theorem dX10_town_67 : decode cX10_town 67 = .ok (.iload_n 2, 1) := by decide +kernel
theorem dX10_town_68 : decode cX10_town 68 = .ok (.imul, 1) := by decide +kernel
theorem dX10_town_69 : decode cX10_town 69 = .ok (.iconst 1, 1) := by decide +kernel
theorem dX10_town_70 : decode cX10_town 70 = .ok (.iadd, 1) := by decide +kernel
theorem dX10_town_71 : decode cX10_town 71 = .ok (.iaload, 1) := by decide +kernel
theorem dX10_town_72 : decode cX10_town 72 = .ok (.iastore, 1) := by decide +kernel
theorem dX10_town_73 : decode cX10_town 73 = .ok (.aload_n 0, 1) := by decide +kernel
theorem dX10_town_74 : decode cX10_town 74 = .ok (.getfield 19, 3) := by decide +kernel
theorem dX10_town_77 : decode cX10_town 77 = .ok (.iload_n 2, 1) := by decide +kernel
theorem dX10_town_78 : decode cX10_town 78 = .ok (.aload_n 0, 1) := by decide +kernel
theorem dX10_town_79 : decode cX10_town 79 = .ok (.getfield 46, 3) := by decide +kernel
theorem dX10_town_82 : decode cX10_town 82 = .ok (.iconst 5, 1) := by decide +kernel
theorem dX10_town_83 : decode cX10_town 83 = .ok (.iload_n 2, 1) := by decide +kernel
theorem dX10_town_84 : decode cX10_town 84 = .ok (.imul, 1) := by decide +kernel
theorem dX10_town_85 : decode cX10_town 85 = .ok (.iconst 2, 1) := by decide +kernel
theorem dX10_town_86 : decode cX10_town 86 = .ok (.iadd, 1) := by decide +kernel
theorem dX10_town_87 : decode cX10_town 87 = .ok (.iaload, 1) := by decide +kernel
theorem dX10_town_88 : decode cX10_town 88 = .ok (.iastore, 1) := by decide +kernel
theorem dX10_town_89 : decode cX10_town 89 = .ok (.aload_n 0, 1) := by decide +kernel
theorem dX10_town_90 : decode cX10_town 90 = .ok (.getfield 31, 3) := by decide +kernel
theorem dX10_town_93 : decode cX10_town 93 = .ok (.iload_n 2, 1) := by decide +kernel
theorem dX10_town_94 : decode cX10_town 94 = .ok (.aload_n 0, 1) := by decide +kernel
theorem dX10_town_95 : decode cX10_town 95 = .ok (.getfield 46, 3) := by decide +kernel
theorem dX10_town_98 : decode cX10_town 98 = .ok (.iconst 5, 1) := by decide +kernel
theorem dX10_town_99 : decode cX10_town 99 = .ok (.iload_n 2, 1) := by decide +kernel
theorem dX10_town_100 : decode cX10_town 100 = .ok (.imul, 1) := by decide +kernel
theorem dX10_town_101 : decode cX10_town 101 = .ok (.iconst 3, 1) := by decide +kernel
theorem dX10_town_102 : decode cX10_town 102 = .ok (.iadd, 1) := by decide +kernel
theorem dX10_town_103 : decode cX10_town 103 = .ok (.iaload, 1) := by decide +kernel
theorem dX10_town_104 : decode cX10_town 104 = .ok (.iastore, 1) := by decide +kernel
theorem dX10_town_105 : decode cX10_town 105 = .ok (.aload_n 0, 1) := by decide +kernel
theorem dX10_town_106 : decode cX10_town 106 = .ok (.getfield 34, 3) := by decide +kernel
theorem dX10_town_109 : decode cX10_town 109 = .ok (.iload_n 2, 1) := by decide +kernel
theorem dX10_town_110 : decode cX10_town 110 = .ok (.aload_n 0, 1) := by decide +kernel
theorem dX10_town_111 : decode cX10_town 111 = .ok (.getfield 46, 3) := by decide +kernel
theorem dX10_town_114 : decode cX10_town 114 = .ok (.iconst 5, 1) := by decide +kernel
theorem dX10_town_115 : decode cX10_town 115 = .ok (.iload_n 2, 1) := by decide +kernel
theorem dX10_town_116 : decode cX10_town 116 = .ok (.imul, 1) := by decide +kernel
theorem dX10_town_117 : decode cX10_town 117 = .ok (.iconst 4, 1) := by decide +kernel
theorem dX10_town_118 : decode cX10_town 118 = .ok (.iadd, 1) := by decide +kernel
theorem dX10_town_119 : decode cX10_town 119 = .ok (.iaload, 1) := by decide +kernel
theorem dX10_town_120 : decode cX10_town 120 = .ok (.iastore, 1) := by decide +kernel
theorem dX10_town_121 : decode cX10_town 121 = .ok (.iinc 2 1, 3) := by decide +kernel
theorem dX10_town_124 : decode cX10_town 124 = .ok (.goto (-89), 3) := by decide +kernel
theorem dX10_town_127 : decode cX10_town 127 = .ok (.iconst 0, 1) := by decide +kernel
theorem dX10_town_128 : decode cX10_town 128 = .ok (.istore_n 2, 1) := by decide +kernel
theorem dX10_town_129 : decode cX10_town 129 = .ok (.iload_n 2, 1) := by decide +kernel
theorem dX10_town_130 : decode cX10_town 130 = .ok (.aload_n 0, 1) := by decide +kernel
theorem dX10_town_131 : decode cX10_town 131 = .ok (.getfield 75, 3) := by decide +kernel
theorem dX10_town_134 : decode cX10_town 134 = .ok (.if_icmp .ge 60, 3) := by decide +kernel
theorem dX10_town_137 : decode cX10_town 137 = .ok (.aload_n 0, 1) := by decide +kernel
theorem dX10_town_138 : decode cX10_town 138 = .ok (.getfield 22, 3) := by decide +kernel
theorem dX10_town_141 : decode cX10_town 141 = .ok (.iload_n 2, 1) := by decide +kernel
theorem dX10_town_142 : decode cX10_town 142 = .ok (.aload_n 0, 1) := by decide +kernel
theorem dX10_town_143 : decode cX10_town 143 = .ok (.getfield 46, 3) := by decide +kernel
theorem dX10_town_146 : decode cX10_town 146 = .ok (.bipush 40, 2) := by decide +kernel
theorem dX10_town_148 : decode cX10_town 148 = .ok (.iconst 3, 1) := by decide +kernel
theorem dX10_town_149 : decode cX10_town 149 = .ok (.iload_n 2, 1) := by decide +kernel
theorem dX10_town_150 : decode cX10_town 150 = .ok (.imul, 1) := by decide +kernel
theorem dX10_town_151 : decode cX10_town 151 = .ok (.iadd, 1) := by decide +kernel
theorem dX10_town_152 : decode cX10_town 152 = .ok (.iaload, 1) := by decide +kernel
theorem dX10_town_153 : decode cX10_town 153 = .ok (.iastore, 1) := by decide +kernel
theorem dX10_town_154 : decode cX10_town 154 = .ok (.aload_n 0, 1) := by decide +kernel
theorem dX10_town_155 : decode cX10_town 155 = .ok (.getfield 25, 3) := by decide +kernel
theorem dX10_town_158 : decode cX10_town 158 = .ok (.iload_n 2, 1) := by decide +kernel
theorem dX10_town_159 : decode cX10_town 159 = .ok (.aload_n 0, 1) := by decide +kernel
theorem dX10_town_160 : decode cX10_town 160 = .ok (.getfield 46, 3) := by decide +kernel
theorem dX10_town_163 : decode cX10_town 163 = .ok (.bipush 41, 2) := by decide +kernel
theorem dX10_town_165 : decode cX10_town 165 = .ok (.iconst 3, 1) := by decide +kernel
theorem dX10_town_166 : decode cX10_town 166 = .ok (.iload_n 2, 1) := by decide +kernel
theorem dX10_town_167 : decode cX10_town 167 = .ok (.imul, 1) := by decide +kernel
theorem dX10_town_168 : decode cX10_town 168 = .ok (.iadd, 1) := by decide +kernel
theorem dX10_town_169 : decode cX10_town 169 = .ok (.iaload, 1) := by decide +kernel
theorem dX10_town_170 : decode cX10_town 170 = .ok (.iastore, 1) := by decide +kernel
theorem dX10_town_171 : decode cX10_town 171 = .ok (.aload_n 0, 1) := by decide +kernel
theorem dX10_town_172 : decode cX10_town 172 = .ok (.getfield 28, 3) := by decide +kernel
theorem dX10_town_175 : decode cX10_town 175 = .ok (.iload_n 2, 1) := by decide +kernel
theorem dX10_town_176 : decode cX10_town 176 = .ok (.aload_n 0, 1) := by decide +kernel
theorem dX10_town_177 : decode cX10_town 177 = .ok (.getfield 46, 3) := by decide +kernel
theorem dX10_town_180 : decode cX10_town 180 = .ok (.bipush 42, 2) := by decide +kernel
theorem dX10_town_182 : decode cX10_town 182 = .ok (.iconst 3, 1) := by decide +kernel
theorem dX10_town_183 : decode cX10_town 183 = .ok (.iload_n 2, 1) := by decide +kernel
theorem dX10_town_184 : decode cX10_town 184 = .ok (.imul, 1) := by decide +kernel
theorem dX10_town_185 : decode cX10_town 185 = .ok (.iadd, 1) := by decide +kernel
theorem dX10_town_186 : decode cX10_town 186 = .ok (.iaload, 1) := by decide +kernel
theorem dX10_town_187 : decode cX10_town 187 = .ok (.iastore, 1) := by decide +kernel
theorem dX10_town_188 : decode cX10_town 188 = .ok (.iinc 2 1, 3) := by decide +kernel
theorem dX10_town_191 : decode cX10_town 191 = .ok (.goto (-62), 3) := by decide +kernel
theorem dX10_town_194 : decode cX10_town 194 = .ok (.aload_n 0, 1) := by decide +kernel
theorem dX10_town_195 : decode cX10_town 195 = .ok (.iconst 0, 1) := by decide +kernel
theorem dX10_town_196 : decode cX10_town 196 = .ok (.putfield 158, 3) := by decide +kernel
theorem dX10_town_199 : decode cX10_town 199 = .ok (.aload_n 0, 1) := by decide +kernel
theorem dX10_town_200 : decode cX10_town 200 = .ok (.iconst 0, 1) := by decide +kernel
theorem dX10_town_201 : decode cX10_town 201 = .ok (.putfield 80, 3) := by decide +kernel
theorem dX10_town_204 : decode cX10_town 204 = .ok (.aload_n 0, 1) := by decide +kernel
theorem dX10_town_205 : decode cX10_town 205 = .ok (.getfield 43, 3) := by decide +kernel
theorem dX10_town_208 : decode cX10_town 208 = .ok (.iconst 0, 1) := by decide +kernel
theorem dX10_town_209 : decode cX10_town 209 = .ok (.iconst 0, 1) := by decide +kernel
theorem dX10_town_210 : decode cX10_town 210 = .ok (.iastore, 1) := by decide +kernel
theorem dX10_town_211 : decode cX10_town 211 = .ok (.aload_n 0, 1) := by decide +kernel
theorem dX10_town_212 : decode cX10_town 212 = .ok (.getfield 43, 3) := by decide +kernel
theorem dX10_town_215 : decode cX10_town 215 = .ok (.bipush 40, 2) := by decide +kernel
theorem dX10_town_217 : decode cX10_town 217 = .ok (.iconst 0, 1) := by decide +kernel
theorem dX10_town_218 : decode cX10_town 218 = .ok (.iastore, 1) := by decide +kernel
theorem dX10_town_219 : decode cX10_town 219 = .ok (.iload_n 1, 1) := by decide +kernel
theorem dX10_town_220 : decode cX10_town 220 = .ok (.ireturn, 1) := by decide +kernel
theorem dX10_isStone_0 : decode cX10_isStone 0 = .ok (.aload_n 0, 1) := by decide +kernel
theorem dX10_isStone_1 : decode cX10_isStone 1 = .ok (.getfield 31, 3) := by decide +kernel
theorem dX10_isStone_4 : decode cX10_isStone 4 = .ok (.iload_n 1, 1) := by decide +kernel
theorem dX10_isStone_5 : decode cX10_isStone 5 = .ok (.iaload, 1) := by decide +kernel
theorem dX10_isStone_6 : decode cX10_isStone 6 = .ok (.bipush (-5), 2) := by decide +kernel
theorem dX10_isStone_8 : decode cX10_isStone 8 = .ok (.if_icmp .ne 7, 3) := by decide +kernel
theorem dX10_isStone_11 : decode cX10_isStone 11 = .ok (.iconst 1, 1) := by decide +kernel
theorem dX10_isStone_12 : decode cX10_isStone 12 = .ok (.goto 4, 3) := by decide +kernel
theorem dX10_isStone_15 : decode cX10_isStone 15 = .ok (.iconst 0, 1) := by decide +kernel
theorem dX10_isStone_16 : decode cX10_isStone 16 = .ok (.ireturn, 1) := by decide +kernel
theorem dX10_ownerOf_0 : decode cX10_ownerOf 0 = .ok (.aload_n 0, 1) := by decide +kernel
theorem dX10_ownerOf_1 : decode cX10_ownerOf 1 = .ok (.getfield 31, 3) := by decide +kernel
theorem dX10_ownerOf_4 : decode cX10_ownerOf 4 = .ok (.iload_n 1, 1) := by decide +kernel
theorem dX10_ownerOf_5 : decode cX10_ownerOf 5 = .ok (.iaload, 1) := by decide +kernel
theorem dX10_ownerOf_6 : decode cX10_ownerOf 6 = .ok (.ifCond .ge 8, 3) := by decide +kernel
theorem dX10_ownerOf_9 : decode cX10_ownerOf 9 = .ok (.bipush (-9), 2) := by decide +kernel
theorem dX10_ownerOf_11 : decode cX10_ownerOf 11 = .ok (.goto 9, 3) := by decide +kernel
theorem dX10_ownerOf_14 : decode cX10_ownerOf 14 = .ok (.aload_n 0, 1) := by decide +kernel
theorem dX10_ownerOf_15 : decode cX10_ownerOf 15 = .ok (.getfield 31, 3) := by decide +kernel
theorem dX10_ownerOf_18 : decode cX10_ownerOf 18 = .ok (.iload_n 1, 1) := by decide +kernel
theorem dX10_ownerOf_19 : decode cX10_ownerOf 19 = .ok (.iaload, 1) := by decide +kernel
theorem dX10_ownerOf_20 : decode cX10_ownerOf 20 = .ok (.ireturn, 1) := by decide +kernel
theorem dX10_piece_0 : decode cX10_piece 0 = .ok (.aload_n 0, 1) := by decide +kernel
theorem dX10_piece_1 : decode cX10_piece 1 = .ok (.iload_n 1, 1) := by decide +kernel
theorem dX10_piece_2 : decode cX10_piece 2 = .ok (.invokevirtual 161, 3) := by decide +kernel
theorem dX10_piece_5 : decode cX10_piece 5 = .ok (.ifCond .eq 15, 3) := by decide +kernel
theorem dX10_piece_8 : decode cX10_piece 8 = .ok (.iload_n 2, 1) := by decide +kernel
theorem dX10_piece_9 : decode cX10_piece 9 = .ok (.i2l, 1) := by decide +kernel
theorem dX10_piece_10 : decode cX10_piece 10 = .ok (.lconst 0, 1) := by decide +kernel
theorem dX10_piece_11 : decode cX10_piece 11 = .ok (.ldc2_w 164, 3) := by decide +kernel
theorem dX10_piece_14 : decode cX10_piece 14 = .ok (.invokestatic 71, 3) := by decide +kernel
theorem dX10_piece_17 : decode cX10_piece 17 = .ok (.ifCond .ne 5, 3) := by decide +kernel
theorem dX10_piece_20 : decode cX10_piece 20 = .ok (.iconst (-1), 1) := by decide +kernel
theorem dX10_piece_21 : decode cX10_piece 21 = .ok (.ireturn, 1) := by decide +kernel
theorem dX10_piece_22 : decode cX10_piece 22 = .ok (.iload_n 2, 1) := by decide +kernel
theorem dX10_piece_23 : decode cX10_piece 23 = .ok (.ifCond .ne 12, 3) := by decide +kernel
theorem dX10_piece_26 : decode cX10_piece 26 = .ok (.aload_n 0, 1) := by decide +kernel
theorem dX10_piece_27 : decode cX10_piece 27 = .ok (.getfield 13, 3) := by decide +kernel
theorem dX10_piece_30 : decode cX10_piece 30 = .ok (.iload_n 1, 1) := by decide +kernel
theorem dX10_piece_31 : decode cX10_piece 31 = .ok (.iaload, 1) := by decide +kernel
theorem dX10_piece_32 : decode cX10_piece 32 = .ok (.goto 71, 3) := by decide +kernel
theorem dX10_piece_35 : decode cX10_piece 35 = .ok (.iload_n 2, 1) := by decide +kernel
theorem dX10_piece_36 : decode cX10_piece 36 = .ok (.iconst 1, 1) := by decide +kernel
theorem dX10_piece_37 : decode cX10_piece 37 = .ok (.if_icmp .ne 12, 3) := by decide +kernel
theorem dX10_piece_40 : decode cX10_piece 40 = .ok (.aload_n 0, 1) := by decide +kernel
theorem dX10_piece_41 : decode cX10_piece 41 = .ok (.getfield 16, 3) := by decide +kernel
theorem dX10_piece_44 : decode cX10_piece 44 = .ok (.iload_n 1, 1) := by decide +kernel
theorem dX10_piece_45 : decode cX10_piece 45 = .ok (.iaload, 1) := by decide +kernel
theorem dX10_piece_46 : decode cX10_piece 46 = .ok (.goto 57, 3) := by decide +kernel
theorem dX10_piece_49 : decode cX10_piece 49 = .ok (.iload_n 2, 1) := by decide +kernel
theorem dX10_piece_50 : decode cX10_piece 50 = .ok (.iconst 2, 1) := by decide +kernel
theorem dX10_piece_51 : decode cX10_piece 51 = .ok (.if_icmp .ne 12, 3) := by decide +kernel
theorem dX10_piece_54 : decode cX10_piece 54 = .ok (.aload_n 0, 1) := by decide +kernel
theorem dX10_piece_55 : decode cX10_piece 55 = .ok (.getfield 19, 3) := by decide +kernel
theorem dX10_piece_58 : decode cX10_piece 58 = .ok (.iload_n 1, 1) := by decide +kernel
theorem dX10_piece_59 : decode cX10_piece 59 = .ok (.iaload, 1) := by decide +kernel
theorem dX10_piece_60 : decode cX10_piece 60 = .ok (.goto 43, 3) := by decide +kernel
theorem dX10_piece_63 : decode cX10_piece 63 = .ok (.iload_n 2, 1) := by decide +kernel
theorem dX10_piece_64 : decode cX10_piece 64 = .ok (.iconst 3, 1) := by decide +kernel
theorem dX10_piece_65 : decode cX10_piece 65 = .ok (.if_icmp .ne 11, 3) := by decide +kernel
theorem dX10_piece_68 : decode cX10_piece 68 = .ok (.aload_n 0, 1) := by decide +kernel
theorem dX10_piece_69 : decode cX10_piece 69 = .ok (.iload_n 1, 1) := by decide +kernel
theorem dX10_piece_70 : decode cX10_piece 70 = .ok (.invokevirtual 166, 3) := by decide +kernel
theorem dX10_piece_73 : decode cX10_piece 73 = .ok (.goto 30, 3) := by decide +kernel
theorem dX10_piece_76 : decode cX10_piece 76 = .ok (.iload_n 2, 1) := by decide +kernel
theorem dX10_piece_77 : decode cX10_piece 77 = .ok (.iconst 4, 1) := by decide +kernel
theorem dX10_piece_78 : decode cX10_piece 78 = .ok (.if_icmp .ne 19, 3) := by decide +kernel
theorem dX10_piece_81 : decode cX10_piece 81 = .ok (.aload_n 0, 1) := by decide +kernel
theorem dX10_piece_82 : decode cX10_piece 82 = .ok (.iload_n 1, 1) := by decide +kernel
theorem dX10_piece_83 : decode cX10_piece 83 = .ok (.invokevirtual 170, 3) := by decide +kernel
theorem dX10_piece_86 : decode cX10_piece 86 = .ok (.ifCond .eq 7, 3) := by decide +kernel
theorem dX10_piece_89 : decode cX10_piece 89 = .ok (.iconst 1, 1) := by decide +kernel
theorem dX10_piece_90 : decode cX10_piece 90 = .ok (.goto 13, 3) := by decide +kernel
theorem dX10_piece_93 : decode cX10_piece 93 = .ok (.iconst 0, 1) := by decide +kernel
theorem dX10_piece_94 : decode cX10_piece 94 = .ok (.goto 9, 3) := by decide +kernel
theorem dX10_piece_97 : decode cX10_piece 97 = .ok (.aload_n 0, 1) := by decide +kernel
theorem dX10_piece_98 : decode cX10_piece 98 = .ok (.getfield 34, 3) := by decide +kernel
theorem dX10_piece_101 : decode cX10_piece 101 = .ok (.iload_n 1, 1) := by decide +kernel
theorem dX10_piece_102 : decode cX10_piece 102 = .ok (.iaload, 1) := by decide +kernel
theorem dX10_piece_103 : decode cX10_piece 103 = .ok (.ireturn, 1) := by decide +kernel
theorem dX10_ownBy_0 : decode cX10_ownBy 0 = .ok (.iconst 0, 1) := by decide +kernel
theorem dX10_ownBy_1 : decode cX10_ownBy 1 = .ok (.istore_n 3, 1) := by decide +kernel
theorem dX10_ownBy_2 : decode cX10_ownBy 2 = .ok (.iconst 0, 1) := by decide +kernel
theorem dX10_ownBy_3 : decode cX10_ownBy 3 = .ok (.istore 4, 2) := by decide +kernel
theorem dX10_ownBy_5 : decode cX10_ownBy 5 = .ok (.iload 4, 2) := by decide +kernel
theorem dX10_ownBy_7 : decode cX10_ownBy 7 = .ok (.aload_n 0, 1) := by decide +kernel
theorem dX10_ownBy_8 : decode cX10_ownBy 8 = .ok (.getfield 67, 3) := by decide +kernel
theorem dX10_ownBy_11 : decode cX10_ownBy 11 = .ok (.if_icmp .ge 28, 3) := by decide +kernel
theorem dX10_ownBy_14 : decode cX10_ownBy 14 = .ok (.iload_n 3, 1) := by decide +kernel
theorem dX10_ownBy_15 : decode cX10_ownBy 15 = .ok (.aload_n 1, 1) := by decide +kernel
theorem dX10_ownBy_16 : decode cX10_ownBy 16 = .ok (.iload 4, 2) := by decide +kernel
theorem dX10_ownBy_18 : decode cX10_ownBy 18 = .ok (.iaload, 1) := by decide +kernel
theorem dX10_ownBy_19 : decode cX10_ownBy 19 = .ok (.iload_n 2, 1) := by decide +kernel
theorem dX10_ownBy_20 : decode cX10_ownBy 20 = .ok (.if_icmp .ne 10, 3) := by decide +kernel
theorem dX10_ownBy_23 : decode cX10_ownBy 23 = .ok (.iconst 1, 1) := by decide +kernel
theorem dX10_ownBy_24 : decode cX10_ownBy 24 = .ok (.iload 4, 2) := by decide +kernel
theorem dX10_ownBy_26 : decode cX10_ownBy 26 = .ok (.ishl, 1) := by decide +kernel
theorem dX10_ownBy_27 : decode cX10_ownBy 27 = .ok (.goto 4, 3) := by decide +kernel
theorem dX10_ownBy_30 : decode cX10_ownBy 30 = .ok (.iconst 0, 1) := by decide +kernel
theorem dX10_ownBy_31 : decode cX10_ownBy 31 = .ok (.ior, 1) := by decide +kernel
theorem dX10_ownBy_32 : decode cX10_ownBy 32 = .ok (.istore_n 3, 1) := by decide +kernel
theorem dX10_ownBy_33 : decode cX10_ownBy 33 = .ok (.iinc 4 1, 3) := by decide +kernel
theorem dX10_ownBy_36 : decode cX10_ownBy 36 = .ok (.goto (-31), 3) := by decide +kernel
theorem dX10_ownBy_39 : decode cX10_ownBy 39 = .ok (.iload_n 3, 1) := by decide +kernel
theorem dX10_ownBy_40 : decode cX10_ownBy 40 = .ok (.ireturn, 1) := by decide +kernel
theorem dX10_many_0 : decode cX10_many 0 = .ok (.iconst 0, 1) := by decide +kernel
theorem dX10_many_1 : decode cX10_many 1 = .ok (.istore_n 1, 1) := by decide +kernel
theorem dX10_many_2 : decode cX10_many 2 = .ok (.iload_n 0, 1) := by decide +kernel
theorem dX10_many_3 : decode cX10_many 3 = .ok (.istore_n 2, 1) := by decide +kernel
theorem dX10_many_4 : decode cX10_many 4 = .ok (.iload_n 2, 1) := by decide +kernel
theorem dX10_many_5 : decode cX10_many 5 = .ok (.ifCond .eq 15, 3) := by decide +kernel
theorem dX10_many_8 : decode cX10_many 8 = .ok (.iinc 1 1, 3) := by decide +kernel
theorem dX10_many_11 : decode cX10_many 11 = .ok (.iload_n 2, 1) := by decide +kernel
theorem dX10_many_12 : decode cX10_many 12 = .ok (.iload_n 2, 1) := by decide +kernel
theorem dX10_many_13 : decode cX10_many 13 = .ok (.iconst 1, 1) := by decide +kernel
theorem dX10_many_14 : decode cX10_many 14 = .ok (.isub, 1) := by decide +kernel
theorem dX10_many_15 : decode cX10_many 15 = .ok (.iand, 1) := by decide +kernel
theorem dX10_many_16 : decode cX10_many 16 = .ok (.istore_n 2, 1) := by decide +kernel
theorem dX10_many_17 : decode cX10_many 17 = .ok (.goto (-13), 3) := by decide +kernel
theorem dX10_many_20 : decode cX10_many 20 = .ok (.iload_n 1, 1) := by decide +kernel
theorem dX10_many_21 : decode cX10_many 21 = .ok (.ireturn, 1) := by decide +kernel
theorem dX10_family_0 : decode cX10_family 0 = .ok (.aload_n 0, 1) := by decide +kernel
theorem dX10_family_1 : decode cX10_family 1 = .ok (.iload_n 1, 1) := by decide +kernel
theorem dX10_family_2 : decode cX10_family 2 = .ok (.invokevirtual 173, 3) := by decide +kernel
theorem dX10_family_5 : decode cX10_family 5 = .ok (.ifCond .eq 15, 3) := by decide +kernel
theorem dX10_family_8 : decode cX10_family 8 = .ok (.iload_n 2, 1) := by decide +kernel
theorem dX10_family_9 : decode cX10_family 9 = .ok (.i2l, 1) := by decide +kernel
theorem dX10_family_10 : decode cX10_family 10 = .ok (.lconst 0, 1) := by decide +kernel
theorem dX10_family_11 : decode cX10_family 11 = .ok (.ldc2_w 176, 3) := by decide +kernel
theorem dX10_family_14 : decode cX10_family 14 = .ok (.invokestatic 71, 3) := by decide +kernel
theorem dX10_family_17 : decode cX10_family 17 = .ok (.ifCond .ne 5, 3) := by decide +kernel
theorem dX10_family_20 : decode cX10_family 20 = .ok (.iconst (-1), 1) := by decide +kernel
theorem dX10_family_21 : decode cX10_family 21 = .ok (.ireturn, 1) := by decide +kernel
theorem dX10_family_22 : decode cX10_family 22 = .ok (.iload_n 2, 1) := by decide +kernel
theorem dX10_family_23 : decode cX10_family 23 = .ok (.ifCond .ne 12, 3) := by decide +kernel
theorem dX10_family_26 : decode cX10_family 26 = .ok (.aload_n 0, 1) := by decide +kernel
theorem dX10_family_27 : decode cX10_family 27 = .ok (.getfield 22, 3) := by decide +kernel
theorem dX10_family_30 : decode cX10_family 30 = .ok (.iload_n 1, 1) := by decide +kernel
theorem dX10_family_31 : decode cX10_family 31 = .ok (.iaload, 1) := by decide +kernel
theorem dX10_family_32 : decode cX10_family 32 = .ok (.goto 43, 3) := by decide +kernel
theorem dX10_family_35 : decode cX10_family 35 = .ok (.iload_n 2, 1) := by decide +kernel
theorem dX10_family_36 : decode cX10_family 36 = .ok (.iconst 1, 1) := by decide +kernel
theorem dX10_family_37 : decode cX10_family 37 = .ok (.if_icmp .ne 12, 3) := by decide +kernel
theorem dX10_family_40 : decode cX10_family 40 = .ok (.aload_n 0, 1) := by decide +kernel
theorem dX10_family_41 : decode cX10_family 41 = .ok (.getfield 25, 3) := by decide +kernel
theorem dX10_family_44 : decode cX10_family 44 = .ok (.iload_n 1, 1) := by decide +kernel
theorem dX10_family_45 : decode cX10_family 45 = .ok (.iaload, 1) := by decide +kernel
theorem dX10_family_46 : decode cX10_family 46 = .ok (.goto 29, 3) := by decide +kernel
theorem dX10_family_49 : decode cX10_family 49 = .ok (.iload_n 2, 1) := by decide +kernel
theorem dX10_family_50 : decode cX10_family 50 = .ok (.iconst 2, 1) := by decide +kernel
theorem dX10_family_51 : decode cX10_family 51 = .ok (.if_icmp .ne 12, 3) := by decide +kernel
theorem dX10_family_54 : decode cX10_family 54 = .ok (.aload_n 0, 1) := by decide +kernel
theorem dX10_family_55 : decode cX10_family 55 = .ok (.getfield 28, 3) := by decide +kernel
theorem dX10_family_58 : decode cX10_family 58 = .ok (.iload_n 1, 1) := by decide +kernel
theorem dX10_family_59 : decode cX10_family 59 = .ok (.iaload, 1) := by decide +kernel
theorem dX10_family_60 : decode cX10_family 60 = .ok (.goto 15, 3) := by decide +kernel
theorem dX10_family_63 : decode cX10_family 63 = .ok (.aload_n 0, 1) := by decide +kernel
theorem dX10_family_64 : decode cX10_family 64 = .ok (.aload_n 0, 1) := by decide +kernel
theorem dX10_family_65 : decode cX10_family 65 = .ok (.getfield 31, 3) := by decide +kernel
theorem dX10_family_68 : decode cX10_family 68 = .ok (.iload_n 1, 1) := by decide +kernel
theorem dX10_family_69 : decode cX10_family 69 = .ok (.invokevirtual 178, 3) := by decide +kernel
theorem dX10_family_72 : decode cX10_family 72 = .ok (.invokestatic 182, 3) := by decide +kernel
theorem dX10_family_75 : decode cX10_family 75 = .ok (.ireturn, 1) := by decide +kernel
theorem dX10_pave_0 : decode cX10_pave 0 = .ok (.aload_n 0, 1) := by decide +kernel
theorem dX10_pave_1 : decode cX10_pave 1 = .ok (.iload_n 1, 1) := by decide +kernel
theorem dX10_pave_2 : decode cX10_pave 2 = .ok (.invokevirtual 161, 3) := by decide +kernel
theorem dX10_pave_5 : decode cX10_pave 5 = .ok (.ifCond .eq 11, 3) := by decide +kernel
theorem dX10_pave_8 : decode cX10_pave 8 = .ok (.aload_n 0, 1) := by decide +kernel
theorem dX10_pave_9 : decode cX10_pave 9 = .ok (.iload_n 2, 1) := by decide +kernel
theorem dX10_pave_10 : decode cX10_pave 10 = .ok (.invokevirtual 173, 3) := by decide +kernel
theorem dX10_pave_13 : decode cX10_pave 13 = .ok (.ifCond .ne 5, 3) := by decide +kernel
theorem dX10_pave_16 : decode cX10_pave 16 = .ok (.iconst (-1), 1) := by decide +kernel
theorem dX10_pave_17 : decode cX10_pave 17 = .ok (.ireturn, 1) := by decide +kernel
theorem dX10_pave_18 : decode cX10_pave 18 = .ok (.aload_n 0, 1) := by decide +kernel
theorem dX10_pave_19 : decode cX10_pave 19 = .ok (.iload_n 1, 1) := by decide +kernel
theorem dX10_pave_20 : decode cX10_pave 20 = .ok (.invokevirtual 170, 3) := by decide +kernel
theorem dX10_pave_23 : decode cX10_pave 23 = .ok (.ifCond .eq 6, 3) := by decide +kernel
theorem dX10_pave_26 : decode cX10_pave 26 = .ok (.bipush (-2), 2) := by decide +kernel
theorem dX10_pave_28 : decode cX10_pave 28 = .ok (.ireturn, 1) := by decide +kernel
theorem dX10_pave_29 : decode cX10_pave 29 = .ok (.aload_n 0, 1) := by decide +kernel
theorem dX10_pave_30 : decode cX10_pave 30 = .ok (.getfield 31, 3) := by decide +kernel
theorem dX10_pave_33 : decode cX10_pave 33 = .ok (.iload_n 1, 1) := by decide +kernel
theorem dX10_pave_34 : decode cX10_pave 34 = .ok (.iaload, 1) := by decide +kernel
theorem dX10_pave_35 : decode cX10_pave 35 = .ok (.istore_n 3, 1) := by decide +kernel
theorem dX10_pave_36 : decode cX10_pave 36 = .ok (.aload_n 0, 1) := by decide +kernel
theorem dX10_pave_37 : decode cX10_pave 37 = .ok (.getfield 31, 3) := by decide +kernel
theorem dX10_pave_40 : decode cX10_pave 40 = .ok (.iload_n 1, 1) := by decide +kernel
theorem dX10_pave_41 : decode cX10_pave 41 = .ok (.iload_n 2, 1) := by decide +kernel
theorem dX10_pave_42 : decode cX10_pave 42 = .ok (.iastore, 1) := by decide +kernel
theorem dX10_pave_43 : decode cX10_pave 43 = .ok (.iload_n 3, 1) := by decide +kernel
theorem dX10_pave_44 : decode cX10_pave 44 = .ok (.ireturn, 1) := by decide +kernel
theorem dX10_free_0 : decode cX10_free 0 = .ok (.aload_n 0, 1) := by decide +kernel
theorem dX10_free_1 : decode cX10_free 1 = .ok (.iload_n 1, 1) := by decide +kernel
theorem dX10_free_2 : decode cX10_free 2 = .ok (.invokevirtual 161, 3) := by decide +kernel
theorem dX10_free_5 : decode cX10_free 5 = .ok (.ifCond .ne 5, 3) := by decide +kernel
theorem dX10_free_8 : decode cX10_free 8 = .ok (.iconst (-1), 1) := by decide +kernel
theorem dX10_free_9 : decode cX10_free 9 = .ok (.ireturn, 1) := by decide +kernel
theorem dX10_free_10 : decode cX10_free 10 = .ok (.aload_n 0, 1) := by decide +kernel
theorem dX10_free_11 : decode cX10_free 11 = .ok (.getfield 31, 3) := by decide +kernel
theorem dX10_free_14 : decode cX10_free 14 = .ok (.iload_n 1, 1) := by decide +kernel
theorem dX10_free_15 : decode cX10_free 15 = .ok (.iaload, 1) := by decide +kernel
theorem dX10_free_16 : decode cX10_free 16 = .ok (.ifCond .ge 6, 3) := by decide +kernel
theorem dX10_free_19 : decode cX10_free 19 = .ok (.bipush (-2), 2) := by decide +kernel
theorem dX10_free_21 : decode cX10_free 21 = .ok (.ireturn, 1) := by decide +kernel
theorem dX10_free_22 : decode cX10_free 22 = .ok (.aload_n 0, 1) := by decide +kernel
theorem dX10_free_23 : decode cX10_free 23 = .ok (.getfield 31, 3) := by decide +kernel
theorem dX10_free_26 : decode cX10_free 26 = .ok (.iload_n 1, 1) := by decide +kernel
theorem dX10_free_27 : decode cX10_free 27 = .ok (.iaload, 1) := by decide +kernel
theorem dX10_free_28 : decode cX10_free 28 = .ok (.istore_n 2, 1) := by decide +kernel
theorem dX10_free_29 : decode cX10_free 29 = .ok (.aload_n 0, 1) := by decide +kernel
theorem dX10_free_30 : decode cX10_free 30 = .ok (.getfield 31, 3) := by decide +kernel
theorem dX10_free_33 : decode cX10_free 33 = .ok (.iload_n 1, 1) := by decide +kernel
theorem dX10_free_34 : decode cX10_free 34 = .ok (.bipush (-9), 2) := by decide +kernel
theorem dX10_free_36 : decode cX10_free 36 = .ok (.iastore, 1) := by decide +kernel
theorem dX10_free_37 : decode cX10_free 37 = .ok (.iload_n 2, 1) := by decide +kernel
theorem dX10_free_38 : decode cX10_free 38 = .ok (.ireturn, 1) := by decide +kernel
theorem dX10_stone_0 : decode cX10_stone 0 = .ok (.aload_n 0, 1) := by decide +kernel
theorem dX10_stone_1 : decode cX10_stone 1 = .ok (.iload_n 1, 1) := by decide +kernel
theorem dX10_stone_2 : decode cX10_stone 2 = .ok (.invokevirtual 161, 3) := by decide +kernel
theorem dX10_stone_5 : decode cX10_stone 5 = .ok (.ifCond .eq 13, 3) := by decide +kernel
theorem dX10_stone_8 : decode cX10_stone 8 = .ok (.iload_n 2, 1) := by decide +kernel
theorem dX10_stone_9 : decode cX10_stone 9 = .ok (.i2l, 1) := by decide +kernel
theorem dX10_stone_10 : decode cX10_stone 10 = .ok (.lconst 0, 1) := by decide +kernel
theorem dX10_stone_11 : decode cX10_stone 11 = .ok (.lconst 1, 1) := by decide +kernel
theorem dX10_stone_12 : decode cX10_stone 12 = .ok (.invokestatic 71, 3) := by decide +kernel
theorem dX10_stone_15 : decode cX10_stone 15 = .ok (.ifCond .ne 5, 3) := by decide +kernel
theorem dX10_stone_18 : decode cX10_stone 18 = .ok (.iconst (-1), 1) := by decide +kernel
theorem dX10_stone_19 : decode cX10_stone 19 = .ok (.ireturn, 1) := by decide +kernel
theorem dX10_stone_20 : decode cX10_stone 20 = .ok (.aload_n 0, 1) := by decide +kernel
theorem dX10_stone_21 : decode cX10_stone 21 = .ok (.iload_n 1, 1) := by decide +kernel
theorem dX10_stone_22 : decode cX10_stone 22 = .ok (.invokevirtual 170, 3) := by decide +kernel
theorem dX10_stone_25 : decode cX10_stone 25 = .ok (.ifCond .eq 7, 3) := by decide +kernel
theorem dX10_stone_28 : decode cX10_stone 28 = .ok (.iconst 1, 1) := by decide +kernel
theorem dX10_stone_29 : decode cX10_stone 29 = .ok (.goto 4, 3) := by decide +kernel
theorem dX10_stone_32 : decode cX10_stone 32 = .ok (.iconst 0, 1) := by decide +kernel
theorem dX10_stone_33 : decode cX10_stone 33 = .ok (.istore_n 3, 1) := by decide +kernel
theorem dX10_stone_34 : decode cX10_stone 34 = .ok (.iload_n 2, 1) := by decide +kernel
theorem dX10_stone_35 : decode cX10_stone 35 = .ok (.iconst 1, 1) := by decide +kernel
theorem dX10_stone_36 : decode cX10_stone 36 = .ok (.if_icmp .ne 14, 3) := by decide +kernel
theorem dX10_stone_39 : decode cX10_stone 39 = .ok (.aload_n 0, 1) := by decide +kernel
theorem dX10_stone_40 : decode cX10_stone 40 = .ok (.getfield 31, 3) := by decide +kernel
theorem dX10_stone_43 : decode cX10_stone 43 = .ok (.iload_n 1, 1) := by decide +kernel
theorem dX10_stone_44 : decode cX10_stone 44 = .ok (.bipush (-5), 2) := by decide +kernel
theorem dX10_stone_46 : decode cX10_stone 46 = .ok (.iastore, 1) := by decide +kernel
theorem dX10_stone_47 : decode cX10_stone 47 = .ok (.goto 16, 3) := by decide +kernel
theorem dX10_stone_50 : decode cX10_stone 50 = .ok (.iload_n 3, 1) := by decide +kernel
theorem dX10_stone_51 : decode cX10_stone 51 = .ok (.iconst 1, 1) := by decide +kernel
theorem dX10_stone_52 : decode cX10_stone 52 = .ok (.if_icmp .ne 11, 3) := by decide +kernel
theorem dX10_stone_55 : decode cX10_stone 55 = .ok (.aload_n 0, 1) := by decide +kernel
theorem dX10_stone_56 : decode cX10_stone 56 = .ok (.getfield 31, 3) := by decide +kernel
theorem dX10_stone_59 : decode cX10_stone 59 = .ok (.iload_n 1, 1) := by decide +kernel
theorem dX10_stone_60 : decode cX10_stone 60 = .ok (.bipush (-9), 2) := by decide +kernel
theorem dX10_stone_62 : decode cX10_stone 62 = .ok (.iastore, 1) := by decide +kernel
theorem dX10_stone_63 : decode cX10_stone 63 = .ok (.iload_n 3, 1) := by decide +kernel
theorem dX10_stone_64 : decode cX10_stone 64 = .ok (.ireturn, 1) := by decide +kernel
theorem dX10_flood_0 : decode cX10_flood 0 = .ok (.aload_n 0, 1) := by decide +kernel
theorem dX10_flood_1 : decode cX10_flood 1 = .ok (.iload_n 1, 1) := by decide +kernel
theorem dX10_flood_2 : decode cX10_flood 2 = .ok (.invokevirtual 161, 3) := by decide +kernel
theorem dX10_flood_5 : decode cX10_flood 5 = .ok (.ifCond .eq 15, 3) := by decide +kernel
theorem dX10_flood_8 : decode cX10_flood 8 = .ok (.iload_n 2, 1) := by decide +kernel
theorem dX10_flood_9 : decode cX10_flood 9 = .ok (.i2l, 1) := by decide +kernel
theorem dX10_flood_10 : decode cX10_flood 10 = .ok (.lconst 0, 1) := by decide +kernel
theorem dX10_flood_11 : decode cX10_flood 11 = .ok (.ldc2_w 185, 3) := by decide +kernel
theorem dX10_flood_14 : decode cX10_flood 14 = .ok (.invokestatic 71, 3) := by decide +kernel
theorem dX10_flood_17 : decode cX10_flood 17 = .ok (.ifCond .ne 5, 3) := by decide +kernel
theorem dX10_flood_20 : decode cX10_flood 20 = .ok (.iconst (-1), 1) := by decide +kernel
theorem dX10_flood_21 : decode cX10_flood 21 = .ok (.ireturn, 1) := by decide +kernel
theorem dX10_flood_22 : decode cX10_flood 22 = .ok (.aload_n 0, 1) := by decide +kernel
theorem dX10_flood_23 : decode cX10_flood 23 = .ok (.getfield 34, 3) := by decide +kernel
theorem dX10_flood_26 : decode cX10_flood 26 = .ok (.iload_n 1, 1) := by decide +kernel
theorem dX10_flood_27 : decode cX10_flood 27 = .ok (.iaload, 1) := by decide +kernel
theorem dX10_flood_28 : decode cX10_flood 28 = .ok (.istore_n 3, 1) := by decide +kernel
theorem dX10_flood_29 : decode cX10_flood 29 = .ok (.aload_n 0, 1) := by decide +kernel
theorem dX10_flood_30 : decode cX10_flood 30 = .ok (.getfield 34, 3) := by decide +kernel
theorem dX10_flood_33 : decode cX10_flood 33 = .ok (.iload_n 1, 1) := by decide +kernel
theorem dX10_flood_34 : decode cX10_flood 34 = .ok (.iload_n 2, 1) := by decide +kernel
theorem dX10_flood_35 : decode cX10_flood 35 = .ok (.iastore, 1) := by decide +kernel
theorem dX10_flood_36 : decode cX10_flood 36 = .ok (.iload_n 3, 1) := by decide +kernel
theorem dX10_flood_37 : decode cX10_flood 37 = .ok (.ireturn, 1) := by decide +kernel
theorem dX10_measures_0 : decode cX10_measures 0 = .ok (.iconst 0, 1) := by decide +kernel
theorem dX10_measures_1 : decode cX10_measures 1 = .ok (.istore_n 3, 1) := by decide +kernel
theorem dX10_measures_2 : decode cX10_measures 2 = .ok (.iload_n 3, 1) := by decide +kernel
theorem dX10_measures_3 : decode cX10_measures 3 = .ok (.bipush 6, 2) := by decide +kernel
theorem dX10_measures_5 : decode cX10_measures 5 = .ok (.if_icmp .ge 26, 3) := by decide +kernel
theorem dX10_measures_8 : decode cX10_measures 8 = .ok (.aload_n 0, 1) := by decide +kernel
theorem dX10_measures_9 : decode cX10_measures 9 = .ok (.getfield 49, 3) := by decide +kernel
theorem dX10_measures_12 : decode cX10_measures 12 = .ok (.iload_n 3, 1) := by decide +kernel
theorem dX10_measures_13 : decode cX10_measures 13 = .ok (.iload_n 3, 1) := by decide +kernel
theorem dX10_measures_14 : decode cX10_measures 14 = .ok (.iload_n 1, 1) := by decide +kernel
theorem dX10_measures_15 : decode cX10_measures 15 = .ok (.if_icmp .ne 7, 3) := by decide +kernel
theorem dX10_measures_18 : decode cX10_measures 18 = .ok (.iconst 0, 1) := by decide +kernel
theorem dX10_measures_19 : decode cX10_measures 19 = .ok (.goto 5, 3) := by decide +kernel
theorem dX10_measures_22 : decode cX10_measures 22 = .ok (.ldc 187, 2) := by decide +kernel
theorem dX10_measures_24 : decode cX10_measures 24 = .ok (.iastore, 1) := by decide +kernel
theorem dX10_measures_25 : decode cX10_measures 25 = .ok (.iinc 3 1, 3) := by decide +kernel
theorem dX10_measures_28 : decode cX10_measures 28 = .ok (.goto (-26), 3) := by decide +kernel
theorem dX10_measures_31 : decode cX10_measures 31 = .ok (.iconst 1, 1) := by decide +kernel
theorem dX10_measures_32 : decode cX10_measures 32 = .ok (.istore_n 3, 1) := by decide +kernel
theorem dX10_measures_33 : decode cX10_measures 33 = .ok (.iload_n 3, 1) := by decide +kernel
theorem dX10_measures_34 : decode cX10_measures 34 = .ok (.bipush 6, 2) := by decide +kernel
theorem dX10_measures_36 : decode cX10_measures 36 = .ok (.if_icmp .ge 200, 3) := by decide +kernel
theorem dX10_measures_39 : decode cX10_measures 39 = .ok (.iconst 0, 1) := by decide +kernel
theorem dX10_measures_40 : decode cX10_measures 40 = .ok (.istore 4, 2) := by decide +kernel
theorem dX10_measures_42 : decode cX10_measures 42 = .ok (.iload 4, 2) := by decide +kernel
theorem dX10_measures_44 : decode cX10_measures 44 = .ok (.aload_n 0, 1) := by decide +kernel
theorem dX10_measures_45 : decode cX10_measures 45 = .ok (.getfield 67, 3) := by decide +kernel
theorem dX10_measures_48 : decode cX10_measures 48 = .ok (.if_icmp .ge 182, 3) := by decide +kernel
theorem dX10_measures_51 : decode cX10_measures 51 = .ok (.iload_n 2, 1) := by decide +kernel
theorem dX10_measures_52 : decode cX10_measures 52 = .ok (.iload 4, 2) := by decide +kernel
theorem dX10_measures_54 : decode cX10_measures 54 = .ok (.ishr, 1) := by decide +kernel
theorem dX10_measures_55 : decode cX10_measures 55 = .ok (.iconst 1, 1) := by decide +kernel
theorem dX10_measures_56 : decode cX10_measures 56 = .ok (.iand, 1) := by decide +kernel
theorem dX10_measures_57 : decode cX10_measures 57 = .ok (.iconst 1, 1) := by decide +kernel
theorem dX10_measures_58 : decode cX10_measures 58 = .ok (.if_icmp .ne 8, 3) := by decide +kernel
theorem dX10_measures_61 : decode cX10_measures 61 = .ok (.ldc 187, 2) := by decide +kernel
theorem dX10_measures_63 : decode cX10_measures 63 = .ok (.goto 15, 3) := by decide +kernel
theorem dX10_measures_66 : decode cX10_measures 66 = .ok (.bipush 16, 2) := by decide +kernel
theorem dX10_measures_68 : decode cX10_measures 68 = .ok (.aload_n 0, 1) := by decide +kernel
theorem dX10_measures_69 : decode cX10_measures 69 = .ok (.getfield 19, 3) := by decide +kernel
theorem dX10_measures_72 : decode cX10_measures 72 = .ok (.iload 4, 2) := by decide +kernel
theorem dX10_measures_74 : decode cX10_measures 74 = .ok (.iaload, 1) := by decide +kernel
theorem dX10_measures_75 : decode cX10_measures 75 = .ok (.imul, 1) := by decide +kernel
theorem dX10_measures_76 : decode cX10_measures 76 = .ok (.iconst 1, 1) := by decide +kernel
theorem dX10_measures_77 : decode cX10_measures 77 = .ok (.iadd, 1) := by decide +kernel
theorem dX10_measures_78 : decode cX10_measures 78 = .ok (.istore 5, 2) := by decide +kernel
theorem dX10_measures_80 : decode cX10_measures 80 = .ok (.aload_n 0, 1) := by decide +kernel
theorem dX10_measures_81 : decode cX10_measures 81 = .ok (.getfield 49, 3) := by decide +kernel
theorem dX10_measures_84 : decode cX10_measures 84 = .ok (.aload_n 0, 1) := by decide +kernel
theorem dX10_measures_85 : decode cX10_measures 85 = .ok (.getfield 13, 3) := by decide +kernel
theorem dX10_measures_88 : decode cX10_measures 88 = .ok (.iload 4, 2) := by decide +kernel
theorem dX10_measures_90 : decode cX10_measures 90 = .ok (.iaload, 1) := by decide +kernel
theorem dX10_measures_91 : decode cX10_measures 91 = .ok (.aload_n 0, 1) := by decide +kernel
theorem dX10_measures_92 : decode cX10_measures 92 = .ok (.getfield 49, 3) := by decide +kernel
theorem dX10_measures_95 : decode cX10_measures 95 = .ok (.aload_n 0, 1) := by decide +kernel
theorem dX10_measures_96 : decode cX10_measures 96 = .ok (.getfield 16, 3) := by decide +kernel
theorem dX10_measures_99 : decode cX10_measures 99 = .ok (.iload 4, 2) := by decide +kernel
theorem dX10_measures_101 : decode cX10_measures 101 = .ok (.iaload, 1) := by decide +kernel
theorem dX10_measures_102 : decode cX10_measures 102 = .ok (.iaload, 1) := by decide +kernel
theorem dX10_measures_103 : decode cX10_measures 103 = .ok (.iload 5, 2) := by decide +kernel
theorem dX10_measures_105 : decode cX10_measures 105 = .ok (.iadd, 1) := by decide +kernel
theorem dX10_measures_106 : decode cX10_measures 106 = .ok (.aload_n 0, 1) := by decide +kernel
theorem dX10_measures_107 : decode cX10_measures 107 = .ok (.getfield 49, 3) := by decide +kernel
theorem dX10_measures_110 : decode cX10_measures 110 = .ok (.aload_n 0, 1) := by decide +kernel
theorem dX10_measures_111 : decode cX10_measures 111 = .ok (.getfield 13, 3) := by decide +kernel
theorem dX10_measures_114 : decode cX10_measures 114 = .ok (.iload 4, 2) := by decide +kernel
theorem dX10_measures_116 : decode cX10_measures 116 = .ok (.iaload, 1) := by decide +kernel
theorem dX10_measures_117 : decode cX10_measures 117 = .ok (.iaload, 1) := by decide +kernel
theorem dX10_measures_118 : decode cX10_measures 118 = .ok (.if_icmp .ge 21, 3) := by decide +kernel
theorem dX10_measures_121 : decode cX10_measures 121 = .ok (.aload_n 0, 1) := by decide +kernel
theorem dX10_measures_122 : decode cX10_measures 122 = .ok (.getfield 49, 3) := by decide +kernel
theorem dX10_measures_125 : decode cX10_measures 125 = .ok (.aload_n 0, 1) := by decide +kernel
theorem dX10_measures_126 : decode cX10_measures 126 = .ok (.getfield 16, 3) := by decide +kernel
theorem dX10_measures_129 : decode cX10_measures 129 = .ok (.iload 4, 2) := by decide +kernel
theorem dX10_measures_131 : decode cX10_measures 131 = .ok (.iaload, 1) := by decide +kernel
theorem dX10_measures_132 : decode cX10_measures 132 = .ok (.iaload, 1) := by decide +kernel
theorem dX10_measures_133 : decode cX10_measures 133 = .ok (.iload 5, 2) := by decide +kernel
theorem dX10_measures_135 : decode cX10_measures 135 = .ok (.iadd, 1) := by decide +kernel
theorem dX10_measures_136 : decode cX10_measures 136 = .ok (.goto 15, 3) := by decide +kernel
theorem dX10_measures_139 : decode cX10_measures 139 = .ok (.aload_n 0, 1) := by decide +kernel
theorem dX10_measures_140 : decode cX10_measures 140 = .ok (.getfield 49, 3) := by decide +kernel
theorem dX10_measures_143 : decode cX10_measures 143 = .ok (.aload_n 0, 1) := by decide +kernel
theorem dX10_measures_144 : decode cX10_measures 144 = .ok (.getfield 13, 3) := by decide +kernel
theorem dX10_measures_147 : decode cX10_measures 147 = .ok (.iload 4, 2) := by decide +kernel
theorem dX10_measures_149 : decode cX10_measures 149 = .ok (.iaload, 1) := by decide +kernel
theorem dX10_measures_150 : decode cX10_measures 150 = .ok (.iaload, 1) := by decide +kernel
theorem dX10_measures_151 : decode cX10_measures 151 = .ok (.iastore, 1) := by decide +kernel
theorem dX10_measures_152 : decode cX10_measures 152 = .ok (.aload_n 0, 1) := by decide +kernel
theorem dX10_measures_153 : decode cX10_measures 153 = .ok (.getfield 49, 3) := by decide +kernel
theorem dX10_measures_156 : decode cX10_measures 156 = .ok (.aload_n 0, 1) := by decide +kernel
theorem dX10_measures_157 : decode cX10_measures 157 = .ok (.getfield 16, 3) := by decide +kernel
theorem dX10_measures_160 : decode cX10_measures 160 = .ok (.iload 4, 2) := by decide +kernel
theorem dX10_measures_162 : decode cX10_measures 162 = .ok (.iaload, 1) := by decide +kernel
theorem dX10_measures_163 : decode cX10_measures 163 = .ok (.aload_n 0, 1) := by decide +kernel
theorem dX10_measures_164 : decode cX10_measures 164 = .ok (.getfield 49, 3) := by decide +kernel
theorem dX10_measures_167 : decode cX10_measures 167 = .ok (.aload_n 0, 1) := by decide +kernel
theorem dX10_measures_168 : decode cX10_measures 168 = .ok (.getfield 13, 3) := by decide +kernel
theorem dX10_measures_171 : decode cX10_measures 171 = .ok (.iload 4, 2) := by decide +kernel
theorem dX10_measures_173 : decode cX10_measures 173 = .ok (.iaload, 1) := by decide +kernel
theorem dX10_measures_174 : decode cX10_measures 174 = .ok (.iaload, 1) := by decide +kernel
theorem dX10_measures_175 : decode cX10_measures 175 = .ok (.iload 5, 2) := by decide +kernel
theorem dX10_measures_177 : decode cX10_measures 177 = .ok (.iadd, 1) := by decide +kernel
theorem dX10_measures_178 : decode cX10_measures 178 = .ok (.aload_n 0, 1) := by decide +kernel
theorem dX10_measures_179 : decode cX10_measures 179 = .ok (.getfield 49, 3) := by decide +kernel
theorem dX10_measures_182 : decode cX10_measures 182 = .ok (.aload_n 0, 1) := by decide +kernel
theorem dX10_measures_183 : decode cX10_measures 183 = .ok (.getfield 16, 3) := by decide +kernel
theorem dX10_measures_186 : decode cX10_measures 186 = .ok (.iload 4, 2) := by decide +kernel
theorem dX10_measures_188 : decode cX10_measures 188 = .ok (.iaload, 1) := by decide +kernel
theorem dX10_measures_189 : decode cX10_measures 189 = .ok (.iaload, 1) := by decide +kernel
theorem dX10_measures_190 : decode cX10_measures 190 = .ok (.if_icmp .ge 21, 3) := by decide +kernel
theorem dX10_measures_193 : decode cX10_measures 193 = .ok (.aload_n 0, 1) := by decide +kernel
theorem dX10_measures_194 : decode cX10_measures 194 = .ok (.getfield 49, 3) := by decide +kernel
theorem dX10_measures_197 : decode cX10_measures 197 = .ok (.aload_n 0, 1) := by decide +kernel
theorem dX10_measures_198 : decode cX10_measures 198 = .ok (.getfield 13, 3) := by decide +kernel
theorem dX10_measures_201 : decode cX10_measures 201 = .ok (.iload 4, 2) := by decide +kernel
theorem dX10_measures_203 : decode cX10_measures 203 = .ok (.iaload, 1) := by decide +kernel
theorem dX10_measures_204 : decode cX10_measures 204 = .ok (.iaload, 1) := by decide +kernel
theorem dX10_measures_205 : decode cX10_measures 205 = .ok (.iload 5, 2) := by decide +kernel
theorem dX10_measures_207 : decode cX10_measures 207 = .ok (.iadd, 1) := by decide +kernel
theorem dX10_measures_208 : decode cX10_measures 208 = .ok (.goto 15, 3) := by decide +kernel
theorem dX10_measures_211 : decode cX10_measures 211 = .ok (.aload_n 0, 1) := by decide +kernel
theorem dX10_measures_212 : decode cX10_measures 212 = .ok (.getfield 49, 3) := by decide +kernel
theorem dX10_measures_215 : decode cX10_measures 215 = .ok (.aload_n 0, 1) := by decide +kernel
theorem dX10_measures_216 : decode cX10_measures 216 = .ok (.getfield 16, 3) := by decide +kernel
theorem dX10_measures_219 : decode cX10_measures 219 = .ok (.iload 4, 2) := by decide +kernel
theorem dX10_measures_221 : decode cX10_measures 221 = .ok (.iaload, 1) := by decide +kernel
theorem dX10_measures_222 : decode cX10_measures 222 = .ok (.iaload, 1) := by decide +kernel
theorem dX10_measures_223 : decode cX10_measures 223 = .ok (.iastore, 1) := by decide +kernel
theorem dX10_measures_224 : decode cX10_measures 224 = .ok (.iinc 4 1, 3) := by decide +kernel
theorem dX10_measures_227 : decode cX10_measures 227 = .ok (.goto (-185), 3) := by decide +kernel
theorem dX10_measures_230 : decode cX10_measures 230 = .ok (.iinc 3 1, 3) := by decide +kernel
theorem dX10_measures_233 : decode cX10_measures 233 = .ok (.goto (-200), 3) := by decide +kernel
theorem dX10_measures_236 : decode cX10_measures 236 = .ok (.return_, 1) := by decide +kernel
theorem dX10_wayOf_0 : decode cX10_wayOf 0 = .ok (.aload_n 0, 1) := by decide +kernel
theorem dX10_wayOf_1 : decode cX10_wayOf 1 = .ok (.aload_n 0, 1) := by decide +kernel
theorem dX10_wayOf_2 : decode cX10_wayOf 2 = .ok (.getfield 25, 3) := by decide +kernel
theorem dX10_wayOf_5 : decode cX10_wayOf 5 = .ok (.iload_n 1, 1) := by decide +kernel
theorem dX10_wayOf_6 : decode cX10_wayOf 6 = .ok (.iaload, 1) := by decide +kernel
theorem dX10_wayOf_7 : decode cX10_wayOf 7 = .ok (.iload_n 2, 1) := by decide +kernel
theorem dX10_wayOf_8 : decode cX10_wayOf 8 = .ok (.invokevirtual 188, 3) := by decide +kernel
theorem dX10_wayOf_11 : decode cX10_wayOf 11 = .ok (.aload_n 0, 1) := by decide +kernel
theorem dX10_wayOf_12 : decode cX10_wayOf 12 = .ok (.getfield 49, 3) := by decide +kernel
theorem dX10_wayOf_15 : decode cX10_wayOf 15 = .ok (.aload_n 0, 1) := by decide +kernel
theorem dX10_wayOf_16 : decode cX10_wayOf 16 = .ok (.getfield 22, 3) := by decide +kernel
theorem dX10_wayOf_19 : decode cX10_wayOf 19 = .ok (.iload_n 1, 1) := by decide +kernel
theorem dX10_wayOf_20 : decode cX10_wayOf 20 = .ok (.iaload, 1) := by decide +kernel
theorem dX10_wayOf_21 : decode cX10_wayOf 21 = .ok (.iaload, 1) := by decide +kernel
theorem dX10_wayOf_22 : decode cX10_wayOf 22 = .ok (.ldc 187, 2) := by decide +kernel
theorem dX10_wayOf_24 : decode cX10_wayOf 24 = .ok (.if_icmp .lt 8, 3) := by decide +kernel
theorem dX10_wayOf_27 : decode cX10_wayOf 27 = .ok (.bipush (-9), 2) := by decide +kernel
theorem dX10_wayOf_29 : decode cX10_wayOf 29 = .ok (.goto 17, 3) := by decide +kernel
theorem dX10_wayOf_32 : decode cX10_wayOf 32 = .ok (.aload_n 0, 1) := by decide +kernel
theorem dX10_wayOf_33 : decode cX10_wayOf 33 = .ok (.getfield 49, 3) := by decide +kernel
theorem dX10_wayOf_36 : decode cX10_wayOf 36 = .ok (.aload_n 0, 1) := by decide +kernel
theorem dX10_wayOf_37 : decode cX10_wayOf 37 = .ok (.getfield 22, 3) := by decide +kernel
theorem dX10_wayOf_40 : decode cX10_wayOf 40 = .ok (.iload_n 1, 1) := by decide +kernel
theorem dX10_wayOf_41 : decode cX10_wayOf 41 = .ok (.iaload, 1) := by decide +kernel
theorem dX10_wayOf_42 : decode cX10_wayOf 42 = .ok (.iaload, 1) := by decide +kernel
theorem dX10_wayOf_43 : decode cX10_wayOf 43 = .ok (.bipush 16, 2) := by decide +kernel
theorem dX10_wayOf_45 : decode cX10_wayOf 45 = .ok (.idiv, 1) := by decide +kernel
theorem dX10_wayOf_46 : decode cX10_wayOf 46 = .ok (.ireturn, 1) := by decide +kernel
theorem dX10_way_0 : decode cX10_way 0 = .ok (.aload_n 0, 1) := by decide +kernel
theorem dX10_way_1 : decode cX10_way 1 = .ok (.iload_n 1, 1) := by decide +kernel
theorem dX10_way_2 : decode cX10_way 2 = .ok (.invokevirtual 173, 3) := by decide +kernel
theorem dX10_way_5 : decode cX10_way 5 = .ok (.ifCond .eq 20, 3) := by decide +kernel
theorem dX10_way_8 : decode cX10_way 8 = .ok (.aload_n 0, 1) := by decide +kernel
theorem dX10_way_9 : decode cX10_way 9 = .ok (.iload_n 1, 1) := by decide +kernel
theorem dX10_way_10 : decode cX10_way 10 = .ok (.aload_n 0, 1) := by decide +kernel
theorem dX10_way_11 : decode cX10_way 11 = .ok (.aload_n 0, 1) := by decide +kernel
theorem dX10_way_12 : decode cX10_way 12 = .ok (.getfield 31, 3) := by decide +kernel
theorem dX10_way_15 : decode cX10_way 15 = .ok (.iload_n 1, 1) := by decide +kernel
theorem dX10_way_16 : decode cX10_way 16 = .ok (.invokevirtual 178, 3) := by decide +kernel
theorem dX10_way_19 : decode cX10_way 19 = .ok (.invokevirtual 192, 3) := by decide +kernel
theorem dX10_way_22 : decode cX10_way 22 = .ok (.goto 4, 3) := by decide +kernel
theorem dX10_way_25 : decode cX10_way 25 = .ok (.iconst (-1), 1) := by decide +kernel
theorem dX10_way_26 : decode cX10_way 26 = .ok (.ireturn, 1) := by decide +kernel
theorem dX10_place_0 : decode cX10_place 0 = .ok (.aload_n 0, 1) := by decide +kernel
theorem dX10_place_1 : decode cX10_place 1 = .ok (.iload_n 1, 1) := by decide +kernel
theorem dX10_place_2 : decode cX10_place 2 = .ok (.invokevirtual 173, 3) := by decide +kernel
theorem dX10_place_5 : decode cX10_place 5 = .ok (.ifCond .eq 7, 3) := by decide +kernel
theorem dX10_place_8 : decode cX10_place 8 = .ok (.iload_n 2, 1) := by decide +kernel
theorem dX10_place_9 : decode cX10_place 9 = .ok (.ifCond .ge 5, 3) := by decide +kernel
theorem dX10_place_12 : decode cX10_place 12 = .ok (.iconst (-1), 1) := by decide +kernel
theorem dX10_place_13 : decode cX10_place 13 = .ok (.ireturn, 1) := by decide +kernel
theorem dX10_place_14 : decode cX10_place 14 = .ok (.aload_n 0, 1) := by decide +kernel
theorem dX10_place_15 : decode cX10_place 15 = .ok (.aload_n 0, 1) := by decide +kernel
theorem dX10_place_16 : decode cX10_place 16 = .ok (.getfield 31, 3) := by decide +kernel
theorem dX10_place_19 : decode cX10_place 19 = .ok (.iload_n 1, 1) := by decide +kernel
theorem dX10_place_20 : decode cX10_place 20 = .ok (.invokevirtual 178, 3) := by decide +kernel
theorem dX10_place_23 : decode cX10_place 23 = .ok (.istore_n 3, 1) := by decide +kernel
theorem dX10_place_24 : decode cX10_place 24 = .ok (.aload_n 0, 1) := by decide +kernel
theorem dX10_place_25 : decode cX10_place 25 = .ok (.iload_n 1, 1) := by decide +kernel
theorem dX10_place_26 : decode cX10_place 26 = .ok (.iload_n 3, 1) := by decide +kernel
theorem dX10_place_27 : decode cX10_place 27 = .ok (.invokevirtual 192, 3) := by decide +kernel
theorem dX10_place_30 : decode cX10_place 30 = .ok (.bipush (-9), 2) := by decide +kernel
theorem dX10_place_32 : decode cX10_place 32 = .ok (.if_icmp .ne 6, 3) := by decide +kernel
theorem dX10_place_35 : decode cX10_place 35 = .ok (.bipush (-9), 2) := by decide +kernel
theorem dX10_place_37 : decode cX10_place 37 = .ok (.ireturn, 1) := by decide +kernel
theorem dX10_place_38 : decode cX10_place 38 = .ok (.aload_n 0, 1) := by decide +kernel
theorem dX10_place_39 : decode cX10_place 39 = .ok (.getfield 22, 3) := by decide +kernel
theorem dX10_place_42 : decode cX10_place 42 = .ok (.iload_n 1, 1) := by decide +kernel
theorem dX10_place_43 : decode cX10_place 43 = .ok (.iaload, 1) := by decide +kernel
theorem dX10_place_44 : decode cX10_place 44 = .ok (.istore 4, 2) := by decide +kernel
theorem dX10_place_46 : decode cX10_place 46 = .ok (.iconst 0, 1) := by decide +kernel
theorem dX10_place_47 : decode cX10_place 47 = .ok (.istore 5, 2) := by decide +kernel
theorem dX10_place_49 : decode cX10_place 49 = .ok (.iload 5, 2) := by decide +kernel
theorem dX10_place_51 : decode cX10_place 51 = .ok (.iload_n 2, 1) := by decide +kernel
theorem dX10_place_52 : decode cX10_place 52 = .ok (.if_icmp .ge 170, 3) := by decide +kernel
theorem dX10_place_55 : decode cX10_place 55 = .ok (.aload_n 0, 1) := by decide +kernel
theorem dX10_place_56 : decode cX10_place 56 = .ok (.getfield 49, 3) := by decide +kernel
theorem dX10_place_59 : decode cX10_place 59 = .ok (.iload 4, 2) := by decide +kernel
theorem dX10_place_61 : decode cX10_place 61 = .ok (.iaload, 1) := by decide +kernel
theorem dX10_place_62 : decode cX10_place 62 = .ok (.ifCond .ne 6, 3) := by decide +kernel
theorem dX10_place_65 : decode cX10_place 65 = .ok (.bipush (-5), 2) := by decide +kernel
theorem dX10_place_67 : decode cX10_place 67 = .ok (.ireturn, 1) := by decide +kernel
theorem dX10_place_68 : decode cX10_place 68 = .ok (.bipush 6, 2) := by decide +kernel
theorem dX10_place_70 : decode cX10_place 70 = .ok (.istore 6, 2) := by decide +kernel
theorem dX10_place_72 : decode cX10_place 72 = .ok (.iconst 0, 1) := by decide +kernel
theorem dX10_place_73 : decode cX10_place 73 = .ok (.istore 7, 2) := by decide +kernel
theorem dX10_place_75 : decode cX10_place 75 = .ok (.iload 7, 2) := by decide +kernel
theorem dX10_place_77 : decode cX10_place 77 = .ok (.aload_n 0, 1) := by decide +kernel
theorem dX10_place_78 : decode cX10_place 78 = .ok (.getfield 67, 3) := by decide +kernel
theorem dX10_place_81 : decode cX10_place 81 = .ok (.if_icmp .ge 131, 3) := by decide +kernel
theorem dX10_place_84 : decode cX10_place 84 = .ok (.aload_n 0, 1) := by decide +kernel
theorem dX10_place_85 : decode cX10_place 85 = .ok (.getfield 13, 3) := by decide +kernel
theorem dX10_place_88 : decode cX10_place 88 = .ok (.iload 7, 2) := by decide +kernel
theorem dX10_place_90 : decode cX10_place 90 = .ok (.iaload, 1) := by decide +kernel
theorem dX10_place_91 : decode cX10_place 91 = .ok (.iload 4, 2) := by decide +kernel
theorem dX10_place_93 : decode cX10_place 93 = .ok (.if_icmp .ne 13, 3) := by decide +kernel
theorem dX10_place_96 : decode cX10_place 96 = .ok (.aload_n 0, 1) := by decide +kernel
theorem dX10_place_97 : decode cX10_place 97 = .ok (.getfield 16, 3) := by decide +kernel
theorem dX10_place_100 : decode cX10_place 100 = .ok (.iload 7, 2) := by decide +kernel
theorem dX10_place_102 : decode cX10_place 102 = .ok (.iaload, 1) := by decide +kernel
theorem dX10_place_103 : decode cX10_place 103 = .ok (.goto 27, 3) := by decide +kernel
theorem dX10_place_106 : decode cX10_place 106 = .ok (.aload_n 0, 1) := by decide +kernel
theorem dX10_place_107 : decode cX10_place 107 = .ok (.getfield 16, 3) := by decide +kernel
theorem dX10_place_110 : decode cX10_place 110 = .ok (.iload 7, 2) := by decide +kernel
theorem dX10_place_112 : decode cX10_place 112 = .ok (.iaload, 1) := by decide +kernel
theorem dX10_place_113 : decode cX10_place 113 = .ok (.iload 4, 2) := by decide +kernel
theorem dX10_place_115 : decode cX10_place 115 = .ok (.if_icmp .ne 13, 3) := by decide +kernel
theorem dX10_place_118 : decode cX10_place 118 = .ok (.aload_n 0, 1) := by decide +kernel
theorem dX10_place_119 : decode cX10_place 119 = .ok (.getfield 13, 3) := by decide +kernel
theorem dX10_place_122 : decode cX10_place 122 = .ok (.iload 7, 2) := by decide +kernel
theorem dX10_place_124 : decode cX10_place 124 = .ok (.iaload, 1) := by decide +kernel
theorem dX10_place_125 : decode cX10_place 125 = .ok (.goto 5, 3) := by decide +kernel
theorem dX10_place_128 : decode cX10_place 128 = .ok (.bipush (-9), 2) := by decide +kernel
theorem dX10_place_130 : decode cX10_place 130 = .ok (.istore 8, 2) := by decide +kernel
theorem dX10_place_132 : decode cX10_place 132 = .ok (.iload 8, 2) := by decide +kernel
theorem dX10_place_134 : decode cX10_place 134 = .ok (.bipush (-9), 2) := by decide +kernel
theorem dX10_place_136 : decode cX10_place 136 = .ok (.if_icmp .eq 46, 3) := by decide +kernel
theorem dX10_place_139 : decode cX10_place 139 = .ok (.iload_n 3, 1) := by decide +kernel
theorem dX10_place_140 : decode cX10_place 140 = .ok (.iload 7, 2) := by decide +kernel
theorem dX10_place_142 : decode cX10_place 142 = .ok (.ishr, 1) := by decide +kernel
theorem dX10_place_143 : decode cX10_place 143 = .ok (.iconst 1, 1) := by decide +kernel
theorem dX10_place_144 : decode cX10_place 144 = .ok (.iand, 1) := by decide +kernel
theorem dX10_place_145 : decode cX10_place 145 = .ok (.ifCond .ne 37, 3) := by decide +kernel
theorem dX10_place_148 : decode cX10_place 148 = .ok (.aload_n 0, 1) := by decide +kernel
theorem dX10_place_149 : decode cX10_place 149 = .ok (.getfield 49, 3) := by decide +kernel
theorem dX10_place_152 : decode cX10_place 152 = .ok (.iload 8, 2) := by decide +kernel
theorem dX10_place_154 : decode cX10_place 154 = .ok (.iaload, 1) := by decide +kernel
theorem dX10_place_155 : decode cX10_place 155 = .ok (.bipush 16, 2) := by decide +kernel
theorem dX10_place_157 : decode cX10_place 157 = .ok (.aload_n 0, 1) := by decide +kernel
theorem dX10_place_158 : decode cX10_place 158 = .ok (.getfield 19, 3) := by decide +kernel
theorem dX10_place_161 : decode cX10_place 161 = .ok (.iload 7, 2) := by decide +kernel
theorem dX10_place_163 : decode cX10_place 163 = .ok (.iaload, 1) := by decide +kernel
theorem dX10_place_164 : decode cX10_place 164 = .ok (.imul, 1) := by decide +kernel
theorem dX10_place_165 : decode cX10_place 165 = .ok (.iadd, 1) := by decide +kernel
theorem dX10_place_166 : decode cX10_place 166 = .ok (.iconst 1, 1) := by decide +kernel
theorem dX10_place_167 : decode cX10_place 167 = .ok (.iadd, 1) := by decide +kernel
theorem dX10_place_168 : decode cX10_place 168 = .ok (.aload_n 0, 1) := by decide +kernel
theorem dX10_place_169 : decode cX10_place 169 = .ok (.getfield 49, 3) := by decide +kernel
theorem dX10_place_172 : decode cX10_place 172 = .ok (.iload 4, 2) := by decide +kernel
theorem dX10_place_174 : decode cX10_place 174 = .ok (.iaload, 1) := by decide +kernel
theorem dX10_place_175 : decode cX10_place 175 = .ok (.if_icmp .ne 7, 3) := by decide +kernel
theorem dX10_place_178 : decode cX10_place 178 = .ok (.iconst 1, 1) := by decide +kernel
theorem dX10_place_179 : decode cX10_place 179 = .ok (.goto 4, 3) := by decide +kernel
theorem dX10_place_182 : decode cX10_place 182 = .ok (.iconst 0, 1) := by decide +kernel
theorem dX10_place_183 : decode cX10_place 183 = .ok (.istore 9, 2) := by decide +kernel
theorem dX10_place_185 : decode cX10_place 185 = .ok (.iload 9, 2) := by decide +kernel
theorem dX10_place_187 : decode cX10_place 187 = .ok (.ifCond .eq 15, 3) := by decide +kernel
theorem dX10_place_190 : decode cX10_place 190 = .ok (.iload 8, 2) := by decide +kernel
theorem dX10_place_192 : decode cX10_place 192 = .ok (.iload 6, 2) := by decide +kernel
theorem dX10_place_194 : decode cX10_place 194 = .ok (.if_icmp .ge 8, 3) := by decide +kernel
theorem dX10_place_197 : decode cX10_place 197 = .ok (.iload 8, 2) := by decide +kernel
theorem dX10_place_199 : decode cX10_place 199 = .ok (.goto 5, 3) := by decide +kernel
theorem dX10_place_202 : decode cX10_place 202 = .ok (.iload 6, 2) := by decide +kernel
theorem dX10_place_204 : decode cX10_place 204 = .ok (.istore 6, 2) := by decide +kernel
theorem dX10_place_206 : decode cX10_place 206 = .ok (.iinc 7 1, 3) := by decide +kernel
theorem dX10_place_209 : decode cX10_place 209 = .ok (.goto (-134), 3) := by decide +kernel
theorem dX10_place_212 : decode cX10_place 212 = .ok (.iload 6, 2) := by decide +kernel
theorem dX10_place_214 : decode cX10_place 214 = .ok (.istore 4, 2) := by decide +kernel
theorem dX10_place_216 : decode cX10_place 216 = .ok (.iinc 5 1, 3) := by decide +kernel
theorem dX10_place_219 : decode cX10_place 219 = .ok (.goto (-170), 3) := by decide +kernel
theorem dX10_place_222 : decode cX10_place 222 = .ok (.iload 4, 2) := by decide +kernel
theorem dX10_place_224 : decode cX10_place 224 = .ok (.ireturn, 1) := by decide +kernel
theorem dX10_pole_0 : decode cX10_pole 0 = .ok (.aload_n 0, 1) := by decide +kernel
theorem dX10_pole_1 : decode cX10_pole 1 = .ok (.iload_n 1, 1) := by decide +kernel
theorem dX10_pole_2 : decode cX10_pole 2 = .ok (.invokevirtual 173, 3) := by decide +kernel
theorem dX10_pole_5 : decode cX10_pole 5 = .ok (.ifCond .eq 15, 3) := by decide +kernel
theorem dX10_pole_8 : decode cX10_pole 8 = .ok (.iload_n 2, 1) := by decide +kernel
theorem dX10_pole_9 : decode cX10_pole 9 = .ok (.i2l, 1) := by decide +kernel
theorem dX10_pole_10 : decode cX10_pole 10 = .ok (.lconst 0, 1) := by decide +kernel
theorem dX10_pole_11 : decode cX10_pole 11 = .ok (.ldc2_w 196, 3) := by decide +kernel
theorem dX10_pole_14 : decode cX10_pole 14 = .ok (.invokestatic 71, 3) := by decide +kernel
theorem dX10_pole_17 : decode cX10_pole 17 = .ok (.ifCond .ne 5, 3) := by decide +kernel
theorem dX10_pole_20 : decode cX10_pole 20 = .ok (.iconst (-1), 1) := by decide +kernel
theorem dX10_pole_21 : decode cX10_pole 21 = .ok (.ireturn, 1) := by decide +kernel
theorem dX10_pole_22 : decode cX10_pole 22 = .ok (.aload_n 0, 1) := by decide +kernel
theorem dX10_pole_23 : decode cX10_pole 23 = .ok (.aload_n 0, 1) := by decide +kernel
theorem dX10_pole_24 : decode cX10_pole 24 = .ok (.getfield 31, 3) := by decide +kernel
theorem dX10_pole_27 : decode cX10_pole 27 = .ok (.iload_n 1, 1) := by decide +kernel
theorem dX10_pole_28 : decode cX10_pole 28 = .ok (.invokevirtual 178, 3) := by decide +kernel
theorem dX10_pole_31 : decode cX10_pole 31 = .ok (.istore_n 3, 1) := by decide +kernel
theorem dX10_pole_32 : decode cX10_pole 32 = .ok (.iconst 0, 1) := by decide +kernel
theorem dX10_pole_33 : decode cX10_pole 33 = .ok (.istore 4, 2) := by decide +kernel
theorem dX10_pole_35 : decode cX10_pole 35 = .ok (.iload 4, 2) := by decide +kernel
theorem dX10_pole_37 : decode cX10_pole 37 = .ok (.aload_n 0, 1) := by decide +kernel
theorem dX10_pole_38 : decode cX10_pole 38 = .ok (.getfield 67, 3) := by decide +kernel
theorem dX10_pole_41 : decode cX10_pole 41 = .ok (.if_icmp .ge 33, 3) := by decide +kernel
theorem dX10_pole_44 : decode cX10_pole 44 = .ok (.iload_n 3, 1) := by decide +kernel
theorem dX10_pole_45 : decode cX10_pole 45 = .ok (.aload_n 0, 1) := by decide +kernel
theorem dX10_pole_46 : decode cX10_pole 46 = .ok (.getfield 19, 3) := by decide +kernel
theorem dX10_pole_49 : decode cX10_pole 49 = .ok (.iload 4, 2) := by decide +kernel
theorem dX10_pole_51 : decode cX10_pole 51 = .ok (.iaload, 1) := by decide +kernel
theorem dX10_pole_52 : decode cX10_pole 52 = .ok (.iload_n 2, 1) := by decide +kernel
theorem dX10_pole_53 : decode cX10_pole 53 = .ok (.if_icmp .gt 12, 3) := by decide +kernel
theorem dX10_pole_56 : decode cX10_pole 56 = .ok (.iconst 1, 1) := by decide +kernel
theorem dX10_pole_57 : decode cX10_pole 57 = .ok (.iload 4, 2) := by decide +kernel
theorem dX10_pole_59 : decode cX10_pole 59 = .ok (.ishl, 1) := by decide +kernel
theorem dX10_pole_60 : decode cX10_pole 60 = .ok (.iconst (-1), 1) := by decide +kernel
theorem dX10_pole_61 : decode cX10_pole 61 = .ok (.ixor, 1) := by decide +kernel
theorem dX10_pole_62 : decode cX10_pole 62 = .ok (.goto 4, 3) := by decide +kernel
theorem dX10_pole_65 : decode cX10_pole 65 = .ok (.iconst (-1), 1) := by decide +kernel
theorem dX10_pole_66 : decode cX10_pole 66 = .ok (.iand, 1) := by decide +kernel
theorem dX10_pole_67 : decode cX10_pole 67 = .ok (.istore_n 3, 1) := by decide +kernel
theorem dX10_pole_68 : decode cX10_pole 68 = .ok (.iinc 4 1, 3) := by decide +kernel
theorem dX10_pole_71 : decode cX10_pole 71 = .ok (.goto (-36), 3) := by decide +kernel
theorem dX10_pole_74 : decode cX10_pole 74 = .ok (.aload_n 0, 1) := by decide +kernel
theorem dX10_pole_75 : decode cX10_pole 75 = .ok (.iload_n 1, 1) := by decide +kernel
theorem dX10_pole_76 : decode cX10_pole 76 = .ok (.iload_n 3, 1) := by decide +kernel
theorem dX10_pole_77 : decode cX10_pole 77 = .ok (.invokevirtual 192, 3) := by decide +kernel
theorem dX10_pole_80 : decode cX10_pole 80 = .ok (.ireturn, 1) := by decide +kernel
theorem dX10_costBy_0 : decode cX10_costBy 0 = .ok (.aload_n 0, 1) := by decide +kernel
theorem dX10_costBy_1 : decode cX10_costBy 1 = .ok (.iload_n 2, 1) := by decide +kernel
theorem dX10_costBy_2 : decode cX10_costBy 2 = .ok (.aload_n 0, 1) := by decide +kernel
theorem dX10_costBy_3 : decode cX10_costBy 3 = .ok (.aload_n 1, 1) := by decide +kernel
theorem dX10_costBy_4 : decode cX10_costBy 4 = .ok (.iload_n 2, 1) := by decide +kernel
theorem dX10_costBy_5 : decode cX10_costBy 5 = .ok (.invokevirtual 178, 3) := by decide +kernel
theorem dX10_costBy_8 : decode cX10_costBy 8 = .ok (.invokevirtual 192, 3) := by decide +kernel
theorem dX10_costBy_11 : decode cX10_costBy 11 = .ok (.istore_n 3, 1) := by decide +kernel
theorem dX10_costBy_12 : decode cX10_costBy 12 = .ok (.iload_n 3, 1) := by decide +kernel
theorem dX10_costBy_13 : decode cX10_costBy 13 = .ok (.bipush (-9), 2) := by decide +kernel
theorem dX10_costBy_15 : decode cX10_costBy 15 = .ok (.if_icmp .ne 8, 3) := by decide +kernel
theorem dX10_costBy_18 : decode cX10_costBy 18 = .ok (.bipush (-9), 2) := by decide +kernel
theorem dX10_costBy_20 : decode cX10_costBy 20 = .ok (.goto 11, 3) := by decide +kernel
theorem dX10_costBy_23 : decode cX10_costBy 23 = .ok (.iload_n 3, 1) := by decide +kernel
theorem dX10_costBy_24 : decode cX10_costBy 24 = .ok (.aload_n 0, 1) := by decide +kernel
theorem dX10_costBy_25 : decode cX10_costBy 25 = .ok (.getfield 28, 3) := by decide +kernel
theorem dX10_costBy_28 : decode cX10_costBy 28 = .ok (.iload_n 2, 1) := by decide +kernel
theorem dX10_costBy_29 : decode cX10_costBy 29 = .ok (.iaload, 1) := by decide +kernel
theorem dX10_costBy_30 : decode cX10_costBy 30 = .ok (.imul, 1) := by decide +kernel
theorem dX10_costBy_31 : decode cX10_costBy 31 = .ok (.ireturn, 1) := by decide +kernel
theorem dX10_judge_0 : decode cX10_judge 0 = .ok (.iload_n 1, 1) := by decide +kernel
theorem dX10_judge_1 : decode cX10_judge 1 = .ok (.i2l, 1) := by decide +kernel
theorem dX10_judge_2 : decode cX10_judge 2 = .ok (.lconst 0, 1) := by decide +kernel
theorem dX10_judge_3 : decode cX10_judge 3 = .ok (.ldc2_w 198, 3) := by decide +kernel
theorem dX10_judge_6 : decode cX10_judge 6 = .ok (.invokestatic 71, 3) := by decide +kernel
theorem dX10_judge_9 : decode cX10_judge 9 = .ok (.ifCond .ne 5, 3) := by decide +kernel
theorem dX10_judge_12 : decode cX10_judge 12 = .ok (.iconst (-1), 1) := by decide +kernel
theorem dX10_judge_13 : decode cX10_judge 13 = .ok (.ireturn, 1) := by decide +kernel
theorem dX10_judge_14 : decode cX10_judge 14 = .ok (.iconst 0, 1) := by decide +kernel
theorem dX10_judge_15 : decode cX10_judge 15 = .ok (.istore_n 2, 1) := by decide +kernel
theorem dX10_judge_16 : decode cX10_judge 16 = .ok (.iconst 0, 1) := by decide +kernel
theorem dX10_judge_17 : decode cX10_judge 17 = .ok (.istore_n 3, 1) := by decide +kernel
theorem dX10_judge_18 : decode cX10_judge 18 = .ok (.iconst 0, 1) := by decide +kernel
theorem dX10_judge_19 : decode cX10_judge 19 = .ok (.istore 4, 2) := by decide +kernel
theorem dX10_judge_21 : decode cX10_judge 21 = .ok (.iconst 0, 1) := by decide +kernel
theorem dX10_judge_22 : decode cX10_judge 22 = .ok (.istore 5, 2) := by decide +kernel
theorem dX10_judge_24 : decode cX10_judge 24 = .ok (.iload 5, 2) := by decide +kernel
theorem dX10_judge_26 : decode cX10_judge 26 = .ok (.aload_n 0, 1) := by decide +kernel
theorem dX10_judge_27 : decode cX10_judge 27 = .ok (.getfield 75, 3) := by decide +kernel
theorem dX10_judge_30 : decode cX10_judge 30 = .ok (.if_icmp .ge 73, 3) := by decide +kernel
theorem dX10_judge_33 : decode cX10_judge 33 = .ok (.aload_n 0, 1) := by decide +kernel
theorem dX10_judge_34 : decode cX10_judge 34 = .ok (.iload 5, 2) := by decide +kernel
theorem dX10_judge_36 : decode cX10_judge 36 = .ok (.aload_n 0, 1) := by decide +kernel
theorem dX10_judge_37 : decode cX10_judge 37 = .ok (.aload_n 0, 1) := by decide +kernel
theorem dX10_judge_38 : decode cX10_judge 38 = .ok (.getfield 31, 3) := by decide +kernel
theorem dX10_judge_41 : decode cX10_judge 41 = .ok (.iload 5, 2) := by decide +kernel
theorem dX10_judge_43 : decode cX10_judge 43 = .ok (.invokevirtual 178, 3) := by decide +kernel
theorem dX10_judge_46 : decode cX10_judge 46 = .ok (.invokevirtual 192, 3) := by decide +kernel
theorem dX10_judge_49 : decode cX10_judge 49 = .ok (.istore 6, 2) := by decide +kernel
theorem dX10_judge_51 : decode cX10_judge 51 = .ok (.iload 4, 2) := by decide +kernel
theorem dX10_judge_53 : decode cX10_judge 53 = .ok (.iload 6, 2) := by decide +kernel
theorem dX10_judge_55 : decode cX10_judge 55 = .ok (.bipush (-9), 2) := by decide +kernel
theorem dX10_judge_57 : decode cX10_judge 57 = .ok (.if_icmp .ne 10, 3) := by decide +kernel
theorem dX10_judge_60 : decode cX10_judge 60 = .ok (.iconst 1, 1) := by decide +kernel
theorem dX10_judge_61 : decode cX10_judge 61 = .ok (.iload 5, 2) := by decide +kernel
theorem dX10_judge_63 : decode cX10_judge 63 = .ok (.ishl, 1) := by decide +kernel
theorem dX10_judge_64 : decode cX10_judge 64 = .ok (.goto 4, 3) := by decide +kernel
theorem dX10_judge_67 : decode cX10_judge 67 = .ok (.iconst 0, 1) := by decide +kernel
theorem dX10_judge_68 : decode cX10_judge 68 = .ok (.ior, 1) := by decide +kernel
theorem dX10_judge_69 : decode cX10_judge 69 = .ok (.istore 4, 2) := by decide +kernel
theorem dX10_judge_71 : decode cX10_judge 71 = .ok (.iload_n 2, 1) := by decide +kernel
theorem dX10_judge_72 : decode cX10_judge 72 = .ok (.iload 6, 2) := by decide +kernel
theorem dX10_judge_74 : decode cX10_judge 74 = .ok (.aload_n 0, 1) := by decide +kernel
theorem dX10_judge_75 : decode cX10_judge 75 = .ok (.getfield 28, 3) := by decide +kernel
theorem dX10_judge_78 : decode cX10_judge 78 = .ok (.iload 5, 2) := by decide +kernel
theorem dX10_judge_80 : decode cX10_judge 80 = .ok (.iaload, 1) := by decide +kernel
theorem dX10_judge_81 : decode cX10_judge 81 = .ok (.imul, 1) := by decide +kernel
theorem dX10_judge_82 : decode cX10_judge 82 = .ok (.iadd, 1) := by decide +kernel
theorem dX10_judge_83 : decode cX10_judge 83 = .ok (.istore_n 2, 1) := by decide +kernel
theorem dX10_judge_84 : decode cX10_judge 84 = .ok (.iload 6, 2) := by decide +kernel
theorem dX10_judge_86 : decode cX10_judge 86 = .ok (.iload_n 3, 1) := by decide +kernel
theorem dX10_judge_87 : decode cX10_judge 87 = .ok (.if_icmp .le 8, 3) := by decide +kernel
theorem dX10_judge_90 : decode cX10_judge 90 = .ok (.iload 6, 2) := by decide +kernel
theorem dX10_judge_92 : decode cX10_judge 92 = .ok (.goto 4, 3) := by decide +kernel
theorem dX10_judge_95 : decode cX10_judge 95 = .ok (.iload_n 3, 1) := by decide +kernel
theorem dX10_judge_96 : decode cX10_judge 96 = .ok (.istore_n 3, 1) := by decide +kernel
theorem dX10_judge_97 : decode cX10_judge 97 = .ok (.iinc 5 1, 3) := by decide +kernel
theorem dX10_judge_100 : decode cX10_judge 100 = .ok (.goto (-76), 3) := by decide +kernel
theorem dX10_judge_103 : decode cX10_judge 103 = .ok (.iload_n 1, 1) := by decide +kernel
theorem dX10_judge_104 : decode cX10_judge 104 = .ok (.iconst 2, 1) := by decide +kernel
theorem dX10_judge_105 : decode cX10_judge 105 = .ok (.if_icmp .ne 8, 3) := by decide +kernel
theorem dX10_judge_108 : decode cX10_judge 108 = .ok (.iload 4, 2) := by decide +kernel
theorem dX10_judge_110 : decode cX10_judge 110 = .ok (.goto 22, 3) := by decide +kernel
theorem dX10_judge_113 : decode cX10_judge 113 = .ok (.iload 4, 2) := by decide +kernel
theorem dX10_judge_115 : decode cX10_judge 115 = .ok (.ifCond .eq 8, 3) := by decide +kernel
theorem dX10_judge_118 : decode cX10_judge 118 = .ok (.bipush (-9), 2) := by decide +kernel
theorem dX10_judge_120 : decode cX10_judge 120 = .ok (.goto 12, 3) := by decide +kernel
theorem dX10_judge_123 : decode cX10_judge 123 = .ok (.iload_n 1, 1) := by decide +kernel
theorem dX10_judge_124 : decode cX10_judge 124 = .ok (.ifCond .ne 7, 3) := by decide +kernel
theorem dX10_judge_127 : decode cX10_judge 127 = .ok (.iload_n 2, 1) := by decide +kernel
theorem dX10_judge_128 : decode cX10_judge 128 = .ok (.goto 4, 3) := by decide +kernel
theorem dX10_judge_131 : decode cX10_judge 131 = .ok (.iload_n 3, 1) := by decide +kernel
theorem dX10_judge_132 : decode cX10_judge 132 = .ok (.ireturn, 1) := by decide +kernel
theorem dX10_tells_0 : decode cX10_tells 0 = .ok (.iconst 0, 1) := by decide +kernel
theorem dX10_tells_1 : decode cX10_tells 1 = .ok (.istore_n 1, 1) := by decide +kernel
theorem dX10_tells_2 : decode cX10_tells 2 = .ok (.iload_n 1, 1) := by decide +kernel
theorem dX10_tells_3 : decode cX10_tells 3 = .ok (.aload_n 0, 1) := by decide +kernel
theorem dX10_tells_4 : decode cX10_tells 4 = .ok (.getfield 75, 3) := by decide +kernel
theorem dX10_tells_7 : decode cX10_tells 7 = .ok (.if_icmp .ge 45, 3) := by decide +kernel
theorem dX10_tells_10 : decode cX10_tells 10 = .ok (.iconst 0, 1) := by decide +kernel
theorem dX10_tells_11 : decode cX10_tells 11 = .ok (.istore_n 2, 1) := by decide +kernel
theorem dX10_tells_12 : decode cX10_tells 12 = .ok (.iload_n 2, 1) := by decide +kernel
theorem dX10_tells_13 : decode cX10_tells 13 = .ok (.iconst 1, 1) := by decide +kernel
theorem dX10_tells_14 : decode cX10_tells 14 = .ok (.aload_n 0, 1) := by decide +kernel
theorem dX10_tells_15 : decode cX10_tells 15 = .ok (.getfield 67, 3) := by decide +kernel
theorem dX10_tells_18 : decode cX10_tells 18 = .ok (.ishl, 1) := by decide +kernel
theorem dX10_tells_19 : decode cX10_tells 19 = .ok (.if_icmp .ge 27, 3) := by decide +kernel
theorem dX10_tells_22 : decode cX10_tells 22 = .ok (.aload_n 0, 1) := by decide +kernel
theorem dX10_tells_23 : decode cX10_tells 23 = .ok (.getfield 52, 3) := by decide +kernel
theorem dX10_tells_26 : decode cX10_tells 26 = .ok (.sipush 256, 3) := by decide +kernel
theorem dX10_tells_29 : decode cX10_tells 29 = .ok (.iload_n 1, 1) := by decide +kernel
theorem dX10_tells_30 : decode cX10_tells 30 = .ok (.imul, 1) := by decide +kernel
theorem dX10_tells_31 : decode cX10_tells 31 = .ok (.iload_n 2, 1) := by decide +kernel
theorem dX10_tells_32 : decode cX10_tells 32 = .ok (.iadd, 1) := by decide +kernel
theorem dX10_tells_33 : decode cX10_tells 33 = .ok (.aload_n 0, 1) := by decide +kernel
theorem dX10_tells_34 : decode cX10_tells 34 = .ok (.iload_n 1, 1) := by decide +kernel
theorem dX10_tells_35 : decode cX10_tells 35 = .ok (.iload_n 2, 1) := by decide +kernel
theorem dX10_tells_36 : decode cX10_tells 36 = .ok (.invokevirtual 192, 3) := by decide +kernel
theorem dX10_tells_39 : decode cX10_tells 39 = .ok (.iastore, 1) := by decide +kernel
theorem dX10_tells_40 : decode cX10_tells 40 = .ok (.iinc 2 1, 3) := by decide +kernel
theorem dX10_tells_43 : decode cX10_tells 43 = .ok (.goto (-31), 3) := by decide +kernel
theorem dX10_tells_46 : decode cX10_tells 46 = .ok (.iinc 1 1, 3) := by decide +kernel
theorem dX10_tells_49 : decode cX10_tells 49 = .ok (.goto (-47), 3) := by decide +kernel
theorem dX10_tells_52 : decode cX10_tells 52 = .ok (.return_, 1) := by decide +kernel
theorem dX10_bestOfOne_0 : decode cX10_bestOfOne 0 = .ok (.aload_n 0, 1) := by decide +kernel
theorem dX10_bestOfOne_1 : decode cX10_bestOfOne 1 = .ok (.invokevirtual 200, 3) := by decide +kernel
theorem dX10_bestOfOne_4 : decode cX10_bestOfOne 4 = .ok (.bipush (-9), 2) := by decide +kernel
theorem dX10_bestOfOne_6 : decode cX10_bestOfOne 6 = .ok (.istore_n 2, 1) := by decide +kernel
theorem dX10_bestOfOne_7 : decode cX10_bestOfOne 7 = .ok (.iconst 1, 1) := by decide +kernel
theorem dX10_bestOfOne_8 : decode cX10_bestOfOne 8 = .ok (.istore_n 3, 1) := by decide +kernel
theorem dX10_bestOfOne_9 : decode cX10_bestOfOne 9 = .ok (.iconst 0, 1) := by decide +kernel
theorem dX10_bestOfOne_10 : decode cX10_bestOfOne 10 = .ok (.istore 4, 2) := by decide +kernel
theorem dX10_bestOfOne_12 : decode cX10_bestOfOne 12 = .ok (.iload 4, 2) := by decide +kernel
theorem dX10_bestOfOne_14 : decode cX10_bestOfOne 14 = .ok (.aload_n 0, 1) := by decide +kernel
theorem dX10_bestOfOne_15 : decode cX10_bestOfOne 15 = .ok (.getfield 75, 3) := by decide +kernel
theorem dX10_bestOfOne_18 : decode cX10_bestOfOne 18 = .ok (.if_icmp .ge 16, 3) := by decide +kernel
theorem dX10_bestOfOne_21 : decode cX10_bestOfOne 21 = .ok (.iload_n 3, 1) := by decide +kernel
theorem dX10_bestOfOne_22 : decode cX10_bestOfOne 22 = .ok (.aload_n 0, 1) := by decide +kernel
theorem dX10_bestOfOne_23 : decode cX10_bestOfOne 23 = .ok (.getfield 67, 3) := by decide +kernel
theorem dX10_bestOfOne_26 : decode cX10_bestOfOne 26 = .ok (.imul, 1) := by decide +kernel
theorem dX10_bestOfOne_27 : decode cX10_bestOfOne 27 = .ok (.istore_n 3, 1) := by decide +kernel
theorem dX10_bestOfOne_28 : decode cX10_bestOfOne 28 = .ok (.iinc 4 1, 3) := by decide +kernel
theorem dX10_bestOfOne_31 : decode cX10_bestOfOne 31 = .ok (.goto (-19), 3) := by decide +kernel
theorem dX10_bestOfOne_34 : decode cX10_bestOfOne 34 = .ok (.iconst 0, 1) := by decide +kernel
theorem dX10_bestOfOne_35 : decode cX10_bestOfOne 35 = .ok (.istore 4, 2) := by decide +kernel
theorem dX10_bestOfOne_37 : decode cX10_bestOfOne 37 = .ok (.iload 4, 2) := by decide +kernel
theorem dX10_bestOfOne_39 : decode cX10_bestOfOne 39 = .ok (.iload_n 3, 1) := by decide +kernel
theorem dX10_bestOfOne_40 : decode cX10_bestOfOne 40 = .ok (.if_icmp .ge 231, 3) := by decide +kernel
theorem dX10_bestOfOne_43 : decode cX10_bestOfOne 43 = .ok (.iload_n 3, 1) := by decide +kernel
theorem dX10_bestOfOne_44 : decode cX10_bestOfOne 44 = .ok (.istore 5, 2) := by decide +kernel
theorem dX10_bestOfOne_46 : decode cX10_bestOfOne 46 = .ok (.iconst 0, 1) := by decide +kernel
theorem dX10_bestOfOne_47 : decode cX10_bestOfOne 47 = .ok (.istore 6, 2) := by decide +kernel
theorem dX10_bestOfOne_49 : decode cX10_bestOfOne 49 = .ok (.iconst 0, 1) := by decide +kernel
theorem dX10_bestOfOne_50 : decode cX10_bestOfOne 50 = .ok (.istore 7, 2) := by decide +kernel
theorem dX10_bestOfOne_52 : decode cX10_bestOfOne 52 = .ok (.iconst 1, 1) := by decide +kernel
theorem dX10_bestOfOne_53 : decode cX10_bestOfOne 53 = .ok (.istore 8, 2) := by decide +kernel
theorem dX10_bestOfOne_55 : decode cX10_bestOfOne 55 = .ok (.iconst 0, 1) := by decide +kernel
theorem dX10_bestOfOne_56 : decode cX10_bestOfOne 56 = .ok (.istore 9, 2) := by decide +kernel
theorem dX10_bestOfOne_58 : decode cX10_bestOfOne 58 = .ok (.iload 9, 2) := by decide +kernel
theorem dX10_bestOfOne_60 : decode cX10_bestOfOne 60 = .ok (.aload_n 0, 1) := by decide +kernel
theorem dX10_bestOfOne_61 : decode cX10_bestOfOne 61 = .ok (.getfield 75, 3) := by decide +kernel
theorem dX10_bestOfOne_64 : decode cX10_bestOfOne 64 = .ok (.if_icmp .ge 131, 3) := by decide +kernel
theorem dX10_bestOfOne_67 : decode cX10_bestOfOne 67 = .ok (.iload 8, 2) := by decide +kernel
theorem dX10_bestOfOne_69 : decode cX10_bestOfOne 69 = .ok (.ifCond .eq 126, 3) := by decide +kernel
theorem dX10_bestOfOne_72 : decode cX10_bestOfOne 72 = .ok (.iload 5, 2) := by decide +kernel
theorem dX10_bestOfOne_74 : decode cX10_bestOfOne 74 = .ok (.aload_n 0, 1) := by decide +kernel
theorem dX10_bestOfOne_75 : decode cX10_bestOfOne 75 = .ok (.getfield 67, 3) := by decide +kernel
theorem dX10_bestOfOne_78 : decode cX10_bestOfOne 78 = .ok (.idiv, 1) := by decide +kernel
theorem dX10_bestOfOne_79 : decode cX10_bestOfOne 79 = .ok (.istore 5, 2) := by decide +kernel
theorem dX10_bestOfOne_81 : decode cX10_bestOfOne 81 = .ok (.iload 4, 2) := by decide +kernel
theorem dX10_bestOfOne_83 : decode cX10_bestOfOne 83 = .ok (.iload 5, 2) := by decide +kernel
theorem dX10_bestOfOne_85 : decode cX10_bestOfOne 85 = .ok (.idiv, 1) := by decide +kernel
theorem dX10_bestOfOne_86 : decode cX10_bestOfOne 86 = .ok (.aload_n 0, 1) := by decide +kernel
theorem dX10_bestOfOne_87 : decode cX10_bestOfOne 87 = .ok (.getfield 67, 3) := by decide +kernel
theorem dX10_bestOfOne_90 : decode cX10_bestOfOne 90 = .ok (.irem, 1) := by decide +kernel
theorem dX10_bestOfOne_91 : decode cX10_bestOfOne 91 = .ok (.istore 10, 2) := by decide +kernel
theorem dX10_bestOfOne_93 : decode cX10_bestOfOne 93 = .ok (.aload_n 0, 1) := by decide +kernel
theorem dX10_bestOfOne_94 : decode cX10_bestOfOne 94 = .ok (.getfield 52, 3) := by decide +kernel
theorem dX10_bestOfOne_97 : decode cX10_bestOfOne 97 = .ok (.sipush 256, 3) := by decide +kernel
theorem dX10_bestOfOne_100 : decode cX10_bestOfOne 100 = .ok (.iload 9, 2) := by decide +kernel
theorem dX10_bestOfOne_102 : decode cX10_bestOfOne 102 = .ok (.imul, 1) := by decide +kernel
theorem dX10_bestOfOne_103 : decode cX10_bestOfOne 103 = .ok (.iconst 1, 1) := by decide +kernel
theorem dX10_bestOfOne_104 : decode cX10_bestOfOne 104 = .ok (.iload 10, 2) := by decide +kernel
theorem dX10_bestOfOne_106 : decode cX10_bestOfOne 106 = .ok (.ishl, 1) := by decide +kernel
theorem dX10_bestOfOne_107 : decode cX10_bestOfOne 107 = .ok (.iadd, 1) := by decide +kernel
theorem dX10_bestOfOne_108 : decode cX10_bestOfOne 108 = .ok (.iaload, 1) := by decide +kernel
theorem dX10_bestOfOne_109 : decode cX10_bestOfOne 109 = .ok (.istore 11, 2) := by decide +kernel
theorem dX10_bestOfOne_111 : decode cX10_bestOfOne 111 = .ok (.aload_n 0, 1) := by decide +kernel
theorem dX10_bestOfOne_112 : decode cX10_bestOfOne 112 = .ok (.iload 10, 2) := by decide +kernel
theorem dX10_bestOfOne_114 : decode cX10_bestOfOne 114 = .ok (.invokevirtual 170, 3) := by decide +kernel
theorem dX10_bestOfOne_117 : decode cX10_bestOfOne 117 = .ok (.ifCond .ne 24, 3) := by decide +kernel
theorem dX10_bestOfOne_120 : decode cX10_bestOfOne 120 = .ok (.iload 6, 2) := by decide +kernel
theorem dX10_bestOfOne_122 : decode cX10_bestOfOne 122 = .ok (.iload 10, 2) := by decide +kernel
theorem dX10_bestOfOne_124 : decode cX10_bestOfOne 124 = .ok (.ishr, 1) := by decide +kernel
theorem dX10_bestOfOne_125 : decode cX10_bestOfOne 125 = .ok (.iconst 1, 1) := by decide +kernel
theorem dX10_bestOfOne_126 : decode cX10_bestOfOne 126 = .ok (.iand, 1) := by decide +kernel
theorem dX10_bestOfOne_127 : decode cX10_bestOfOne 127 = .ok (.ifCond .ne 14, 3) := by decide +kernel
theorem dX10_bestOfOne_130 : decode cX10_bestOfOne 130 = .ok (.iload 11, 2) := by decide +kernel
theorem dX10_bestOfOne_132 : decode cX10_bestOfOne 132 = .ok (.bipush (-9), 2) := by decide +kernel
theorem dX10_bestOfOne_134 : decode cX10_bestOfOne 134 = .ok (.if_icmp .eq 7, 3) := by decide +kernel
theorem dX10_bestOfOne_137 : decode cX10_bestOfOne 137 = .ok (.iconst 1, 1) := by decide +kernel
theorem dX10_bestOfOne_138 : decode cX10_bestOfOne 138 = .ok (.goto 4, 3) := by decide +kernel
theorem dX10_bestOfOne_141 : decode cX10_bestOfOne 141 = .ok (.iconst 0, 1) := by decide +kernel
theorem dX10_bestOfOne_142 : decode cX10_bestOfOne 142 = .ok (.istore 8, 2) := by decide +kernel
theorem dX10_bestOfOne_144 : decode cX10_bestOfOne 144 = .ok (.iload 6, 2) := by decide +kernel
theorem dX10_bestOfOne_146 : decode cX10_bestOfOne 146 = .ok (.iconst 1, 1) := by decide +kernel
theorem dX10_bestOfOne_147 : decode cX10_bestOfOne 147 = .ok (.iload 10, 2) := by decide +kernel
theorem dX10_bestOfOne_149 : decode cX10_bestOfOne 149 = .ok (.ishl, 1) := by decide +kernel
theorem dX10_bestOfOne_150 : decode cX10_bestOfOne 150 = .ok (.ior, 1) := by decide +kernel
theorem dX10_bestOfOne_151 : decode cX10_bestOfOne 151 = .ok (.istore 6, 2) := by decide +kernel
theorem dX10_bestOfOne_153 : decode cX10_bestOfOne 153 = .ok (.iload_n 1, 1) := by decide +kernel
theorem dX10_bestOfOne_154 : decode cX10_bestOfOne 154 = .ok (.ifCond .ne 19, 3) := by decide +kernel
theorem dX10_bestOfOne_157 : decode cX10_bestOfOne 157 = .ok (.iload 7, 2) := by decide +kernel
theorem dX10_bestOfOne_159 : decode cX10_bestOfOne 159 = .ok (.iload 11, 2) := by decide +kernel
theorem dX10_bestOfOne_161 : decode cX10_bestOfOne 161 = .ok (.aload_n 0, 1) := by decide +kernel
theorem dX10_bestOfOne_162 : decode cX10_bestOfOne 162 = .ok (.getfield 28, 3) := by decide +kernel
theorem dX10_bestOfOne_165 : decode cX10_bestOfOne 165 = .ok (.iload 9, 2) := by decide +kernel
theorem dX10_bestOfOne_167 : decode cX10_bestOfOne 167 = .ok (.iaload, 1) := by decide +kernel
theorem dX10_bestOfOne_168 : decode cX10_bestOfOne 168 = .ok (.imul, 1) := by decide +kernel
theorem dX10_bestOfOne_169 : decode cX10_bestOfOne 169 = .ok (.iadd, 1) := by decide +kernel
theorem dX10_bestOfOne_170 : decode cX10_bestOfOne 170 = .ok (.goto 17, 3) := by decide +kernel
theorem dX10_bestOfOne_173 : decode cX10_bestOfOne 173 = .ok (.iload 11, 2) := by decide +kernel
theorem dX10_bestOfOne_175 : decode cX10_bestOfOne 175 = .ok (.iload 7, 2) := by decide +kernel
theorem dX10_bestOfOne_177 : decode cX10_bestOfOne 177 = .ok (.if_icmp .le 8, 3) := by decide +kernel
theorem dX10_bestOfOne_180 : decode cX10_bestOfOne 180 = .ok (.iload 11, 2) := by decide +kernel
theorem dX10_bestOfOne_182 : decode cX10_bestOfOne 182 = .ok (.goto 5, 3) := by decide +kernel
theorem dX10_bestOfOne_185 : decode cX10_bestOfOne 185 = .ok (.iload 7, 2) := by decide +kernel
theorem dX10_bestOfOne_187 : decode cX10_bestOfOne 187 = .ok (.istore 7, 2) := by decide +kernel
theorem dX10_bestOfOne_189 : decode cX10_bestOfOne 189 = .ok (.iinc 9 1, 3) := by decide +kernel
theorem dX10_bestOfOne_192 : decode cX10_bestOfOne 192 = .ok (.goto (-134), 3) := by decide +kernel
theorem dX10_bestOfOne_195 : decode cX10_bestOfOne 195 = .ok (.iload 8, 2) := by decide +kernel
theorem dX10_bestOfOne_197 : decode cX10_bestOfOne 197 = .ok (.ifCond .eq 68, 3) := by decide +kernel
theorem dX10_bestOfOne_200 : decode cX10_bestOfOne 200 = .ok (.iload_n 2, 1) := by decide +kernel
theorem dX10_bestOfOne_201 : decode cX10_bestOfOne 201 = .ok (.bipush (-9), 2) := by decide +kernel
theorem dX10_bestOfOne_203 : decode cX10_bestOfOne 203 = .ok (.if_icmp .eq 12, 3) := by decide +kernel
theorem dX10_bestOfOne_206 : decode cX10_bestOfOne 206 = .ok (.iload 7, 2) := by decide +kernel
theorem dX10_bestOfOne_208 : decode cX10_bestOfOne 208 = .ok (.iload_n 2, 1) := by decide +kernel
theorem dX10_bestOfOne_209 : decode cX10_bestOfOne 209 = .ok (.if_icmp .lt 6, 3) := by decide +kernel
theorem dX10_bestOfOne_212 : decode cX10_bestOfOne 212 = .ok (.goto 53, 3) := by decide +kernel
theorem dX10_bestOfOne_215 : decode cX10_bestOfOne 215 = .ok (.iload 7, 2) := by decide +kernel
theorem dX10_bestOfOne_217 : decode cX10_bestOfOne 217 = .ok (.istore_n 2, 1) := by decide +kernel
theorem dX10_bestOfOne_218 : decode cX10_bestOfOne 218 = .ok (.iload_n 3, 1) := by decide +kernel
theorem dX10_bestOfOne_219 : decode cX10_bestOfOne 219 = .ok (.istore 5, 2) := by decide +kernel
theorem dX10_bestOfOne_221 : decode cX10_bestOfOne 221 = .ok (.iconst 0, 1) := by decide +kernel
theorem dX10_bestOfOne_222 : decode cX10_bestOfOne 222 = .ok (.istore 9, 2) := by decide +kernel
theorem dX10_bestOfOne_224 : decode cX10_bestOfOne 224 = .ok (.iload 9, 2) := by decide +kernel
theorem dX10_bestOfOne_226 : decode cX10_bestOfOne 226 = .ok (.aload_n 0, 1) := by decide +kernel
theorem dX10_bestOfOne_227 : decode cX10_bestOfOne 227 = .ok (.getfield 75, 3) := by decide +kernel
theorem dX10_bestOfOne_230 : decode cX10_bestOfOne 230 = .ok (.if_icmp .ge 35, 3) := by decide +kernel
theorem dX10_bestOfOne_233 : decode cX10_bestOfOne 233 = .ok (.iload 5, 2) := by decide +kernel
theorem dX10_bestOfOne_235 : decode cX10_bestOfOne 235 = .ok (.aload_n 0, 1) := by decide +kernel
theorem dX10_bestOfOne_236 : decode cX10_bestOfOne 236 = .ok (.getfield 67, 3) := by decide +kernel
theorem dX10_bestOfOne_239 : decode cX10_bestOfOne 239 = .ok (.idiv, 1) := by decide +kernel
theorem dX10_bestOfOne_240 : decode cX10_bestOfOne 240 = .ok (.istore 5, 2) := by decide +kernel
theorem dX10_bestOfOne_242 : decode cX10_bestOfOne 242 = .ok (.aload_n 0, 1) := by decide +kernel
theorem dX10_bestOfOne_243 : decode cX10_bestOfOne 243 = .ok (.getfield 55, 3) := by decide +kernel
theorem dX10_bestOfOne_246 : decode cX10_bestOfOne 246 = .ok (.iload 9, 2) := by decide +kernel
theorem dX10_bestOfOne_248 : decode cX10_bestOfOne 248 = .ok (.iload 4, 2) := by decide +kernel
theorem dX10_bestOfOne_250 : decode cX10_bestOfOne 250 = .ok (.iload 5, 2) := by decide +kernel
theorem dX10_bestOfOne_252 : decode cX10_bestOfOne 252 = .ok (.idiv, 1) := by decide +kernel
theorem dX10_bestOfOne_253 : decode cX10_bestOfOne 253 = .ok (.aload_n 0, 1) := by decide +kernel
theorem dX10_bestOfOne_254 : decode cX10_bestOfOne 254 = .ok (.getfield 67, 3) := by decide +kernel
theorem dX10_bestOfOne_257 : decode cX10_bestOfOne 257 = .ok (.irem, 1) := by decide +kernel
theorem dX10_bestOfOne_258 : decode cX10_bestOfOne 258 = .ok (.iastore, 1) := by decide +kernel
theorem dX10_bestOfOne_259 : decode cX10_bestOfOne 259 = .ok (.iinc 9 1, 3) := by decide +kernel
theorem dX10_bestOfOne_262 : decode cX10_bestOfOne 262 = .ok (.goto (-38), 3) := by decide +kernel
theorem dX10_bestOfOne_265 : decode cX10_bestOfOne 265 = .ok (.iinc 4 1, 3) := by decide +kernel
theorem dX10_bestOfOne_268 : decode cX10_bestOfOne 268 = .ok (.goto (-231), 3) := by decide +kernel
theorem dX10_bestOfOne_271 : decode cX10_bestOfOne 271 = .ok (.iload_n 2, 1) := by decide +kernel
theorem dX10_bestOfOne_272 : decode cX10_bestOfOne 272 = .ok (.ireturn, 1) := by decide +kernel
theorem dX10_one_0 : decode cX10_one 0 = .ok (.iload_n 1, 1) := by decide +kernel
theorem dX10_one_1 : decode cX10_one 1 = .ok (.i2l, 1) := by decide +kernel
theorem dX10_one_2 : decode cX10_one 2 = .ok (.lconst 0, 1) := by decide +kernel
theorem dX10_one_3 : decode cX10_one 3 = .ok (.lconst 1, 1) := by decide +kernel
theorem dX10_one_4 : decode cX10_one 4 = .ok (.invokestatic 71, 3) := by decide +kernel
theorem dX10_one_7 : decode cX10_one 7 = .ok (.ifCond .eq 21, 3) := by decide +kernel
theorem dX10_one_10 : decode cX10_one 10 = .ok (.iload_n 2, 1) := by decide +kernel
theorem dX10_one_11 : decode cX10_one 11 = .ok (.i2l, 1) := by decide +kernel
theorem dX10_one_12 : decode cX10_one 12 = .ok (.ldc2_w 109, 3) := by decide +kernel
theorem dX10_one_15 : decode cX10_one 15 = .ok (.aload_n 0, 1) := by decide +kernel
theorem dX10_one_16 : decode cX10_one 16 = .ok (.getfield 75, 3) := by decide +kernel
theorem dX10_one_19 : decode cX10_one 19 = .ok (.iconst 1, 1) := by decide +kernel
theorem dX10_one_20 : decode cX10_one 20 = .ok (.isub, 1) := by decide +kernel
theorem dX10_one_21 : decode cX10_one 21 = .ok (.i2l, 1) := by decide +kernel
theorem dX10_one_22 : decode cX10_one 22 = .ok (.invokestatic 71, 3) := by decide +kernel
theorem dX10_one_25 : decode cX10_one 25 = .ok (.ifCond .ne 5, 3) := by decide +kernel
theorem dX10_one_28 : decode cX10_one 28 = .ok (.iconst (-1), 1) := by decide +kernel
theorem dX10_one_29 : decode cX10_one 29 = .ok (.ireturn, 1) := by decide +kernel
theorem dX10_one_30 : decode cX10_one 30 = .ok (.aload_n 0, 1) := by decide +kernel
theorem dX10_one_31 : decode cX10_one 31 = .ok (.iload_n 1, 1) := by decide +kernel
theorem dX10_one_32 : decode cX10_one 32 = .ok (.invokevirtual 203, 3) := by decide +kernel
theorem dX10_one_35 : decode cX10_one 35 = .ok (.istore_n 3, 1) := by decide +kernel
theorem dX10_one_36 : decode cX10_one 36 = .ok (.iload_n 3, 1) := by decide +kernel
theorem dX10_one_37 : decode cX10_one 37 = .ok (.bipush (-9), 2) := by decide +kernel
theorem dX10_one_39 : decode cX10_one 39 = .ok (.if_icmp .eq 7, 3) := by decide +kernel
theorem dX10_one_42 : decode cX10_one 42 = .ok (.iload_n 2, 1) := by decide +kernel
theorem dX10_one_43 : decode cX10_one 43 = .ok (.ifCond .ge 7, 3) := by decide +kernel
theorem dX10_one_46 : decode cX10_one 46 = .ok (.iload_n 3, 1) := by decide +kernel
theorem dX10_one_47 : decode cX10_one 47 = .ok (.goto 9, 3) := by decide +kernel
theorem dX10_one_50 : decode cX10_one 50 = .ok (.aload_n 0, 1) := by decide +kernel
theorem dX10_one_51 : decode cX10_one 51 = .ok (.getfield 55, 3) := by decide +kernel
theorem dX10_one_54 : decode cX10_one 54 = .ok (.iload_n 2, 1) := by decide +kernel
theorem dX10_one_55 : decode cX10_one 55 = .ok (.iaload, 1) := by decide +kernel
theorem dX10_one_56 : decode cX10_one 56 = .ok (.ireturn, 1) := by decide +kernel
theorem dX10_rowsOfAll_0 : decode cX10_rowsOfAll 0 = .ok (.iconst 1, 1) := by decide +kernel
theorem dX10_rowsOfAll_1 : decode cX10_rowsOfAll 1 = .ok (.istore_n 1, 1) := by decide +kernel
theorem dX10_rowsOfAll_2 : decode cX10_rowsOfAll 2 = .ok (.iconst 0, 1) := by decide +kernel
theorem dX10_rowsOfAll_3 : decode cX10_rowsOfAll 3 = .ok (.istore_n 2, 1) := by decide +kernel
theorem dX10_rowsOfAll_4 : decode cX10_rowsOfAll 4 = .ok (.iload_n 2, 1) := by decide +kernel
theorem dX10_rowsOfAll_5 : decode cX10_rowsOfAll 5 = .ok (.aload_n 0, 1) := by decide +kernel
theorem dX10_rowsOfAll_6 : decode cX10_rowsOfAll 6 = .ok (.getfield 67, 3) := by decide +kernel
theorem dX10_rowsOfAll_9 : decode cX10_rowsOfAll 9 = .ok (.if_icmp .ge 28, 3) := by decide +kernel
theorem dX10_rowsOfAll_12 : decode cX10_rowsOfAll 12 = .ok (.iload_n 1, 1) := by decide +kernel
theorem dX10_rowsOfAll_13 : decode cX10_rowsOfAll 13 = .ok (.aload_n 0, 1) := by decide +kernel
theorem dX10_rowsOfAll_14 : decode cX10_rowsOfAll 14 = .ok (.iload_n 2, 1) := by decide +kernel
theorem dX10_rowsOfAll_15 : decode cX10_rowsOfAll 15 = .ok (.invokevirtual 170, 3) := by decide +kernel
theorem dX10_rowsOfAll_18 : decode cX10_rowsOfAll 18 = .ok (.ifCond .eq 7, 3) := by decide +kernel
theorem dX10_rowsOfAll_21 : decode cX10_rowsOfAll 21 = .ok (.iconst 1, 1) := by decide +kernel
theorem dX10_rowsOfAll_22 : decode cX10_rowsOfAll 22 = .ok (.goto 7, 3) := by decide +kernel
theorem dX10_rowsOfAll_25 : decode cX10_rowsOfAll 25 = .ok (.aload_n 0, 1) := by decide +kernel
theorem dX10_rowsOfAll_26 : decode cX10_rowsOfAll 26 = .ok (.getfield 75, 3) := by decide +kernel
theorem dX10_rowsOfAll_29 : decode cX10_rowsOfAll 29 = .ok (.imul, 1) := by decide +kernel
theorem dX10_rowsOfAll_30 : decode cX10_rowsOfAll 30 = .ok (.istore_n 1, 1) := by decide +kernel
theorem dX10_rowsOfAll_31 : decode cX10_rowsOfAll 31 = .ok (.iinc 2 1, 3) := by decide +kernel
theorem dX10_rowsOfAll_34 : decode cX10_rowsOfAll 34 = .ok (.goto (-30), 3) := by decide +kernel
theorem dX10_rowsOfAll_37 : decode cX10_rowsOfAll 37 = .ok (.iload_n 1, 1) := by decide +kernel
theorem dX10_rowsOfAll_38 : decode cX10_rowsOfAll 38 = .ok (.ireturn, 1) := by decide +kernel
theorem dX10_lays_0 : decode cX10_lays 0 = .ok (.iload_n 1, 1) := by decide +kernel
theorem dX10_lays_1 : decode cX10_lays 1 = .ok (.istore_n 2, 1) := by decide +kernel
theorem dX10_lays_2 : decode cX10_lays 2 = .ok (.aload_n 0, 1) := by decide +kernel
theorem dX10_lays_3 : decode cX10_lays 3 = .ok (.getfield 67, 3) := by decide +kernel
theorem dX10_lays_6 : decode cX10_lays 6 = .ok (.iconst 1, 1) := by decide +kernel
theorem dX10_lays_7 : decode cX10_lays 7 = .ok (.isub, 1) := by decide +kernel
theorem dX10_lays_8 : decode cX10_lays 8 = .ok (.istore_n 3, 1) := by decide +kernel
theorem dX10_lays_9 : decode cX10_lays 9 = .ok (.iload_n 3, 1) := by decide +kernel
theorem dX10_lays_10 : decode cX10_lays 10 = .ok (.ifCond .lt 44, 3) := by decide +kernel
theorem dX10_lays_13 : decode cX10_lays 13 = .ok (.aload_n 0, 1) := by decide +kernel
theorem dX10_lays_14 : decode cX10_lays 14 = .ok (.getfield 58, 3) := by decide +kernel
theorem dX10_lays_17 : decode cX10_lays 17 = .ok (.iload_n 3, 1) := by decide +kernel
theorem dX10_lays_18 : decode cX10_lays 18 = .ok (.bipush (-5), 2) := by decide +kernel
theorem dX10_lays_20 : decode cX10_lays 20 = .ok (.iastore, 1) := by decide +kernel
theorem dX10_lays_21 : decode cX10_lays 21 = .ok (.aload_n 0, 1) := by decide +kernel
theorem dX10_lays_22 : decode cX10_lays 22 = .ok (.iload_n 3, 1) := by decide +kernel
theorem dX10_lays_23 : decode cX10_lays 23 = .ok (.invokevirtual 170, 3) := by decide +kernel
theorem dX10_lays_26 : decode cX10_lays 26 = .ok (.ifCond .ne 22, 3) := by decide +kernel
theorem dX10_lays_29 : decode cX10_lays 29 = .ok (.aload_n 0, 1) := by decide +kernel
theorem dX10_lays_30 : decode cX10_lays 30 = .ok (.getfield 58, 3) := by decide +kernel
theorem dX10_lays_33 : decode cX10_lays 33 = .ok (.iload_n 3, 1) := by decide +kernel
theorem dX10_lays_34 : decode cX10_lays 34 = .ok (.iload_n 2, 1) := by decide +kernel
theorem dX10_lays_35 : decode cX10_lays 35 = .ok (.aload_n 0, 1) := by decide +kernel
theorem dX10_lays_36 : decode cX10_lays 36 = .ok (.getfield 75, 3) := by decide +kernel
theorem dX10_lays_39 : decode cX10_lays 39 = .ok (.irem, 1) := by decide +kernel
theorem dX10_lays_40 : decode cX10_lays 40 = .ok (.iastore, 1) := by decide +kernel
theorem dX10_lays_41 : decode cX10_lays 41 = .ok (.iload_n 2, 1) := by decide +kernel
theorem dX10_lays_42 : decode cX10_lays 42 = .ok (.aload_n 0, 1) := by decide +kernel
theorem dX10_lays_43 : decode cX10_lays 43 = .ok (.getfield 75, 3) := by decide +kernel
theorem dX10_lays_46 : decode cX10_lays 46 = .ok (.idiv, 1) := by decide +kernel
theorem dX10_lays_47 : decode cX10_lays 47 = .ok (.istore_n 2, 1) := by decide +kernel
theorem dX10_lays_48 : decode cX10_lays 48 = .ok (.iinc 3 (-1), 3) := by decide +kernel
theorem dX10_lays_51 : decode cX10_lays 51 = .ok (.goto (-42), 3) := by decide +kernel
theorem dX10_lays_54 : decode cX10_lays 54 = .ok (.return_, 1) := by decide +kernel
theorem dX10_all_0 : decode cX10_all 0 = .ok (.iload_n 1, 1) := by decide +kernel
theorem dX10_all_1 : decode cX10_all 1 = .ok (.i2l, 1) := by decide +kernel
theorem dX10_all_2 : decode cX10_all 2 = .ok (.ldc2_w 109, 3) := by decide +kernel
theorem dX10_all_5 : decode cX10_all 5 = .ok (.aload_n 0, 1) := by decide +kernel
theorem dX10_all_6 : decode cX10_all 6 = .ok (.getfield 67, 3) := by decide +kernel
theorem dX10_all_9 : decode cX10_all 9 = .ok (.iconst 1, 1) := by decide +kernel
theorem dX10_all_10 : decode cX10_all 10 = .ok (.isub, 1) := by decide +kernel
theorem dX10_all_11 : decode cX10_all 11 = .ok (.i2l, 1) := by decide +kernel
theorem dX10_all_12 : decode cX10_all 12 = .ok (.invokestatic 71, 3) := by decide +kernel
theorem dX10_all_15 : decode cX10_all 15 = .ok (.ifCond .ne 5, 3) := by decide +kernel
theorem dX10_all_18 : decode cX10_all 18 = .ok (.iconst (-1), 1) := by decide +kernel
theorem dX10_all_19 : decode cX10_all 19 = .ok (.ireturn, 1) := by decide +kernel
theorem dX10_all_20 : decode cX10_all 20 = .ok (.aload_n 0, 1) := by decide +kernel
theorem dX10_all_21 : decode cX10_all 21 = .ok (.invokevirtual 200, 3) := by decide +kernel
theorem dX10_all_24 : decode cX10_all 24 = .ok (.bipush (-9), 2) := by decide +kernel
theorem dX10_all_26 : decode cX10_all 26 = .ok (.istore_n 2, 1) := by decide +kernel
theorem dX10_all_27 : decode cX10_all 27 = .ok (.aload_n 0, 1) := by decide +kernel
theorem dX10_all_28 : decode cX10_all 28 = .ok (.invokevirtual 206, 3) := by decide +kernel
theorem dX10_all_31 : decode cX10_all 31 = .ok (.istore_n 3, 1) := by decide +kernel
theorem dX10_all_32 : decode cX10_all 32 = .ok (.iconst 0, 1) := by decide +kernel
theorem dX10_all_33 : decode cX10_all 33 = .ok (.istore 4, 2) := by decide +kernel
theorem dX10_all_35 : decode cX10_all 35 = .ok (.iload 4, 2) := by decide +kernel
theorem dX10_all_37 : decode cX10_all 37 = .ok (.iload_n 3, 1) := by decide +kernel
theorem dX10_all_38 : decode cX10_all 38 = .ok (.if_icmp .ge 151, 3) := by decide +kernel
theorem dX10_all_41 : decode cX10_all 41 = .ok (.aload_n 0, 1) := by decide +kernel
theorem dX10_all_42 : decode cX10_all 42 = .ok (.iload 4, 2) := by decide +kernel
theorem dX10_all_44 : decode cX10_all 44 = .ok (.invokevirtual 209, 3) := by decide +kernel
theorem dX10_all_47 : decode cX10_all 47 = .ok (.iconst 0, 1) := by decide +kernel
theorem dX10_all_48 : decode cX10_all 48 = .ok (.istore 5, 2) := by decide +kernel
theorem dX10_all_50 : decode cX10_all 50 = .ok (.iconst 0, 1) := by decide +kernel
theorem dX10_all_51 : decode cX10_all 51 = .ok (.istore 6, 2) := by decide +kernel
theorem dX10_all_53 : decode cX10_all 53 = .ok (.iload 6, 2) := by decide +kernel
theorem dX10_all_55 : decode cX10_all 55 = .ok (.aload_n 0, 1) := by decide +kernel
theorem dX10_all_56 : decode cX10_all 56 = .ok (.getfield 75, 3) := by decide +kernel
theorem dX10_all_59 : decode cX10_all 59 = .ok (.if_icmp .ge 67, 3) := by decide +kernel
theorem dX10_all_62 : decode cX10_all 62 = .ok (.iload 5, 2) := by decide +kernel
theorem dX10_all_64 : decode cX10_all 64 = .ok (.bipush (-9), 2) := by decide +kernel
theorem dX10_all_66 : decode cX10_all 66 = .ok (.if_icmp .eq 60, 3) := by decide +kernel
theorem dX10_all_69 : decode cX10_all 69 = .ok (.aload_n 0, 1) := by decide +kernel
theorem dX10_all_70 : decode cX10_all 70 = .ok (.getfield 52, 3) := by decide +kernel
theorem dX10_all_73 : decode cX10_all 73 = .ok (.sipush 256, 3) := by decide +kernel
theorem dX10_all_76 : decode cX10_all 76 = .ok (.iload 6, 2) := by decide +kernel
theorem dX10_all_78 : decode cX10_all 78 = .ok (.imul, 1) := by decide +kernel
theorem dX10_all_79 : decode cX10_all 79 = .ok (.aload_n 0, 1) := by decide +kernel
theorem dX10_all_80 : decode cX10_all 80 = .ok (.aload_n 0, 1) := by decide +kernel
theorem dX10_all_81 : decode cX10_all 81 = .ok (.getfield 58, 3) := by decide +kernel
theorem dX10_all_84 : decode cX10_all 84 = .ok (.iload 6, 2) := by decide +kernel
theorem dX10_all_86 : decode cX10_all 86 = .ok (.invokevirtual 178, 3) := by decide +kernel
theorem dX10_all_89 : decode cX10_all 89 = .ok (.iadd, 1) := by decide +kernel
theorem dX10_all_90 : decode cX10_all 90 = .ok (.iaload, 1) := by decide +kernel
theorem dX10_all_91 : decode cX10_all 91 = .ok (.istore 7, 2) := by decide +kernel
theorem dX10_all_93 : decode cX10_all 93 = .ok (.iload 7, 2) := by decide +kernel
theorem dX10_all_95 : decode cX10_all 95 = .ok (.bipush (-9), 2) := by decide +kernel
theorem dX10_all_97 : decode cX10_all 97 = .ok (.if_icmp .ne 8, 3) := by decide +kernel
theorem dX10_all_100 : decode cX10_all 100 = .ok (.bipush (-9), 2) := by decide +kernel
theorem dX10_all_102 : decode cX10_all 102 = .ok (.goto 16, 3) := by decide +kernel
theorem dX10_all_105 : decode cX10_all 105 = .ok (.iload 5, 2) := by decide +kernel
theorem dX10_all_107 : decode cX10_all 107 = .ok (.iload 7, 2) := by decide +kernel
theorem dX10_all_109 : decode cX10_all 109 = .ok (.aload_n 0, 1) := by decide +kernel
theorem dX10_all_110 : decode cX10_all 110 = .ok (.getfield 28, 3) := by decide +kernel
theorem dX10_all_113 : decode cX10_all 113 = .ok (.iload 6, 2) := by decide +kernel
theorem dX10_all_115 : decode cX10_all 115 = .ok (.iaload, 1) := by decide +kernel
theorem dX10_all_116 : decode cX10_all 116 = .ok (.imul, 1) := by decide +kernel
theorem dX10_all_117 : decode cX10_all 117 = .ok (.iadd, 1) := by decide +kernel
theorem dX10_all_118 : decode cX10_all 118 = .ok (.istore 5, 2) := by decide +kernel
theorem dX10_all_120 : decode cX10_all 120 = .ok (.iinc 6 1, 3) := by decide +kernel
theorem dX10_all_123 : decode cX10_all 123 = .ok (.goto (-70), 3) := by decide +kernel
theorem dX10_all_126 : decode cX10_all 126 = .ok (.iload 5, 2) := by decide +kernel
theorem dX10_all_128 : decode cX10_all 128 = .ok (.bipush (-9), 2) := by decide +kernel
theorem dX10_all_130 : decode cX10_all 130 = .ok (.if_icmp .eq 53, 3) := by decide +kernel
theorem dX10_all_133 : decode cX10_all 133 = .ok (.iload_n 2, 1) := by decide +kernel
theorem dX10_all_134 : decode cX10_all 134 = .ok (.bipush (-9), 2) := by decide +kernel
theorem dX10_all_136 : decode cX10_all 136 = .ok (.if_icmp .eq 12, 3) := by decide +kernel
theorem dX10_all_139 : decode cX10_all 139 = .ok (.iload 5, 2) := by decide +kernel
theorem dX10_all_141 : decode cX10_all 141 = .ok (.iload_n 2, 1) := by decide +kernel
theorem dX10_all_142 : decode cX10_all 142 = .ok (.if_icmp .lt 6, 3) := by decide +kernel
theorem dX10_all_145 : decode cX10_all 145 = .ok (.goto 38, 3) := by decide +kernel
theorem dX10_all_148 : decode cX10_all 148 = .ok (.iload 5, 2) := by decide +kernel
theorem dX10_all_150 : decode cX10_all 150 = .ok (.istore_n 2, 1) := by decide +kernel
theorem dX10_all_151 : decode cX10_all 151 = .ok (.iconst 0, 1) := by decide +kernel
theorem dX10_all_152 : decode cX10_all 152 = .ok (.istore 6, 2) := by decide +kernel
theorem dX10_all_154 : decode cX10_all 154 = .ok (.iload 6, 2) := by decide +kernel
theorem dX10_all_156 : decode cX10_all 156 = .ok (.aload_n 0, 1) := by decide +kernel
theorem dX10_all_157 : decode cX10_all 157 = .ok (.getfield 67, 3) := by decide +kernel
theorem dX10_all_160 : decode cX10_all 160 = .ok (.if_icmp .ge 23, 3) := by decide +kernel
theorem dX10_all_163 : decode cX10_all 163 = .ok (.aload_n 0, 1) := by decide +kernel
theorem dX10_all_164 : decode cX10_all 164 = .ok (.getfield 55, 3) := by decide +kernel
theorem dX10_all_167 : decode cX10_all 167 = .ok (.iload 6, 2) := by decide +kernel
theorem dX10_all_169 : decode cX10_all 169 = .ok (.aload_n 0, 1) := by decide +kernel
theorem dX10_all_170 : decode cX10_all 170 = .ok (.getfield 58, 3) := by decide +kernel
theorem dX10_all_173 : decode cX10_all 173 = .ok (.iload 6, 2) := by decide +kernel
theorem dX10_all_175 : decode cX10_all 175 = .ok (.iaload, 1) := by decide +kernel
theorem dX10_all_176 : decode cX10_all 176 = .ok (.iastore, 1) := by decide +kernel
theorem dX10_all_177 : decode cX10_all 177 = .ok (.iinc 6 1, 3) := by decide +kernel
theorem dX10_all_180 : decode cX10_all 180 = .ok (.goto (-26), 3) := by decide +kernel
theorem dX10_all_183 : decode cX10_all 183 = .ok (.iinc 4 1, 3) := by decide +kernel
theorem dX10_all_186 : decode cX10_all 186 = .ok (.goto (-151), 3) := by decide +kernel
theorem dX10_all_189 : decode cX10_all 189 = .ok (.iload_n 2, 1) := by decide +kernel
theorem dX10_all_190 : decode cX10_all 190 = .ok (.bipush (-9), 2) := by decide +kernel
theorem dX10_all_192 : decode cX10_all 192 = .ok (.if_icmp .eq 7, 3) := by decide +kernel
theorem dX10_all_195 : decode cX10_all 195 = .ok (.iload_n 1, 1) := by decide +kernel
theorem dX10_all_196 : decode cX10_all 196 = .ok (.ifCond .ge 7, 3) := by decide +kernel
theorem dX10_all_199 : decode cX10_all 199 = .ok (.iload_n 2, 1) := by decide +kernel
theorem dX10_all_200 : decode cX10_all 200 = .ok (.goto 9, 3) := by decide +kernel
theorem dX10_all_203 : decode cX10_all 203 = .ok (.aload_n 0, 1) := by decide +kernel
theorem dX10_all_204 : decode cX10_all 204 = .ok (.getfield 55, 3) := by decide +kernel
theorem dX10_all_207 : decode cX10_all 207 = .ok (.iload_n 1, 1) := by decide +kernel
theorem dX10_all_208 : decode cX10_all 208 = .ok (.iaload, 1) := by decide +kernel
theorem dX10_all_209 : decode cX10_all 209 = .ok (.ireturn, 1) := by decide +kernel
theorem dX10_isLess_0 : decode cX10_isLess 0 = .ok (.iload_n 0, 1) := by decide +kernel
theorem dX10_isLess_1 : decode cX10_isLess 1 = .ok (.bipush (-9), 2) := by decide +kernel
theorem dX10_isLess_3 : decode cX10_isLess 3 = .ok (.if_icmp .eq 18, 3) := by decide +kernel
theorem dX10_isLess_6 : decode cX10_isLess 6 = .ok (.iload_n 1, 1) := by decide +kernel
theorem dX10_isLess_7 : decode cX10_isLess 7 = .ok (.bipush (-9), 2) := by decide +kernel
theorem dX10_isLess_9 : decode cX10_isLess 9 = .ok (.if_icmp .eq 8, 3) := by decide +kernel
theorem dX10_isLess_12 : decode cX10_isLess 12 = .ok (.iload_n 0, 1) := by decide +kernel
theorem dX10_isLess_13 : decode cX10_isLess 13 = .ok (.iload_n 1, 1) := by decide +kernel
theorem dX10_isLess_14 : decode cX10_isLess 14 = .ok (.if_icmp .ge 7, 3) := by decide +kernel
theorem dX10_isLess_17 : decode cX10_isLess 17 = .ok (.iconst 1, 1) := by decide +kernel
theorem dX10_isLess_18 : decode cX10_isLess 18 = .ok (.goto 4, 3) := by decide +kernel
theorem dX10_isLess_21 : decode cX10_isLess 21 = .ok (.iconst 0, 1) := by decide +kernel
theorem dX10_isLess_22 : decode cX10_isLess 22 = .ok (.ireturn, 1) := by decide +kernel
theorem dX10_changeBy_0 : decode cX10_changeBy 0 = .ok (.iconst 0, 1) := by decide +kernel
theorem dX10_changeBy_1 : decode cX10_changeBy 1 = .ok (.istore_n 2, 1) := by decide +kernel
theorem dX10_changeBy_2 : decode cX10_changeBy 2 = .ok (.iload_n 2, 1) := by decide +kernel
theorem dX10_changeBy_3 : decode cX10_changeBy 3 = .ok (.aload_n 0, 1) := by decide +kernel
theorem dX10_changeBy_4 : decode cX10_changeBy 4 = .ok (.getfield 67, 3) := by decide +kernel
theorem dX10_changeBy_7 : decode cX10_changeBy 7 = .ok (.if_icmp .ge 144, 3) := by decide +kernel
theorem dX10_changeBy_10 : decode cX10_changeBy 10 = .ok (.iload_n 2, 1) := by decide +kernel
theorem dX10_changeBy_11 : decode cX10_changeBy 11 = .ok (.iconst 1, 1) := by decide +kernel
theorem dX10_changeBy_12 : decode cX10_changeBy 12 = .ok (.iadd, 1) := by decide +kernel
theorem dX10_changeBy_13 : decode cX10_changeBy 13 = .ok (.istore_n 3, 1) := by decide +kernel
theorem dX10_changeBy_14 : decode cX10_changeBy 14 = .ok (.iload_n 3, 1) := by decide +kernel
theorem dX10_changeBy_15 : decode cX10_changeBy 15 = .ok (.aload_n 0, 1) := by decide +kernel
theorem dX10_changeBy_16 : decode cX10_changeBy 16 = .ok (.getfield 67, 3) := by decide +kernel
theorem dX10_changeBy_19 : decode cX10_changeBy 19 = .ok (.if_icmp .ge 126, 3) := by decide +kernel
theorem dX10_changeBy_22 : decode cX10_changeBy 22 = .ok (.aload_n 1, 1) := by decide +kernel
theorem dX10_changeBy_23 : decode cX10_changeBy 23 = .ok (.iload_n 2, 1) := by decide +kernel
theorem dX10_changeBy_24 : decode cX10_changeBy 24 = .ok (.iaload, 1) := by decide +kernel
theorem dX10_changeBy_25 : decode cX10_changeBy 25 = .ok (.istore 4, 2) := by decide +kernel
theorem dX10_changeBy_27 : decode cX10_changeBy 27 = .ok (.aload_n 1, 1) := by decide +kernel
theorem dX10_changeBy_28 : decode cX10_changeBy 28 = .ok (.iload_n 3, 1) := by decide +kernel
theorem dX10_changeBy_29 : decode cX10_changeBy 29 = .ok (.iaload, 1) := by decide +kernel
theorem dX10_changeBy_30 : decode cX10_changeBy 30 = .ok (.istore 5, 2) := by decide +kernel
theorem dX10_changeBy_32 : decode cX10_changeBy 32 = .ok (.iload 4, 2) := by decide +kernel
theorem dX10_changeBy_34 : decode cX10_changeBy 34 = .ok (.ifCond .lt 105, 3) := by decide +kernel
theorem dX10_changeBy_37 : decode cX10_changeBy 37 = .ok (.iload 5, 2) := by decide +kernel
theorem dX10_changeBy_39 : decode cX10_changeBy 39 = .ok (.ifCond .lt 100, 3) := by decide +kernel
theorem dX10_changeBy_42 : decode cX10_changeBy 42 = .ok (.iload 4, 2) := by decide +kernel
theorem dX10_changeBy_44 : decode cX10_changeBy 44 = .ok (.iload 5, 2) := by decide +kernel
theorem dX10_changeBy_46 : decode cX10_changeBy 46 = .ok (.if_icmp .ne 6, 3) := by decide +kernel
theorem dX10_changeBy_49 : decode cX10_changeBy 49 = .ok (.goto 90, 3) := by decide +kernel
theorem dX10_changeBy_52 : decode cX10_changeBy 52 = .ok (.aload_n 0, 1) := by decide +kernel
theorem dX10_changeBy_53 : decode cX10_changeBy 53 = .ok (.aload_n 1, 1) := by decide +kernel
theorem dX10_changeBy_54 : decode cX10_changeBy 54 = .ok (.iload 4, 2) := by decide +kernel
theorem dX10_changeBy_56 : decode cX10_changeBy 56 = .ok (.invokevirtual 213, 3) := by decide +kernel
theorem dX10_changeBy_59 : decode cX10_changeBy 59 = .ok (.istore 6, 2) := by decide +kernel
theorem dX10_changeBy_61 : decode cX10_changeBy 61 = .ok (.aload_n 0, 1) := by decide +kernel
theorem dX10_changeBy_62 : decode cX10_changeBy 62 = .ok (.aload_n 1, 1) := by decide +kernel
theorem dX10_changeBy_63 : decode cX10_changeBy 63 = .ok (.iload 5, 2) := by decide +kernel
theorem dX10_changeBy_65 : decode cX10_changeBy 65 = .ok (.invokevirtual 213, 3) := by decide +kernel
theorem dX10_changeBy_68 : decode cX10_changeBy 68 = .ok (.istore 7, 2) := by decide +kernel
theorem dX10_changeBy_70 : decode cX10_changeBy 70 = .ok (.aload_n 1, 1) := by decide +kernel
theorem dX10_changeBy_71 : decode cX10_changeBy 71 = .ok (.iload_n 2, 1) := by decide +kernel
theorem dX10_changeBy_72 : decode cX10_changeBy 72 = .ok (.iload 5, 2) := by decide +kernel
theorem dX10_changeBy_74 : decode cX10_changeBy 74 = .ok (.iastore, 1) := by decide +kernel
theorem dX10_changeBy_75 : decode cX10_changeBy 75 = .ok (.aload_n 1, 1) := by decide +kernel
theorem dX10_changeBy_76 : decode cX10_changeBy 76 = .ok (.iload_n 3, 1) := by decide +kernel
theorem dX10_changeBy_77 : decode cX10_changeBy 77 = .ok (.iload 4, 2) := by decide +kernel
theorem dX10_changeBy_79 : decode cX10_changeBy 79 = .ok (.iastore, 1) := by decide +kernel
theorem dX10_changeBy_80 : decode cX10_changeBy 80 = .ok (.aload_n 0, 1) := by decide +kernel
theorem dX10_changeBy_81 : decode cX10_changeBy 81 = .ok (.aload_n 1, 1) := by decide +kernel
theorem dX10_changeBy_82 : decode cX10_changeBy 82 = .ok (.iload 4, 2) := by decide +kernel
theorem dX10_changeBy_84 : decode cX10_changeBy 84 = .ok (.invokevirtual 213, 3) := by decide +kernel
theorem dX10_changeBy_87 : decode cX10_changeBy 87 = .ok (.iload 6, 2) := by decide +kernel
theorem dX10_changeBy_89 : decode cX10_changeBy 89 = .ok (.invokestatic 216, 3) := by decide +kernel
theorem dX10_changeBy_92 : decode cX10_changeBy 92 = .ok (.ifCond .eq 22, 3) := by decide +kernel
theorem dX10_changeBy_95 : decode cX10_changeBy 95 = .ok (.aload_n 0, 1) := by decide +kernel
theorem dX10_changeBy_96 : decode cX10_changeBy 96 = .ok (.aload_n 1, 1) := by decide +kernel
theorem dX10_changeBy_97 : decode cX10_changeBy 97 = .ok (.iload 5, 2) := by decide +kernel
theorem dX10_changeBy_99 : decode cX10_changeBy 99 = .ok (.invokevirtual 213, 3) := by decide +kernel
theorem dX10_changeBy_102 : decode cX10_changeBy 102 = .ok (.iload 7, 2) := by decide +kernel
theorem dX10_changeBy_104 : decode cX10_changeBy 104 = .ok (.invokestatic 216, 3) := by decide +kernel
theorem dX10_changeBy_107 : decode cX10_changeBy 107 = .ok (.ifCond .eq 7, 3) := by decide +kernel
theorem dX10_changeBy_110 : decode cX10_changeBy 110 = .ok (.iconst 1, 1) := by decide +kernel
theorem dX10_changeBy_111 : decode cX10_changeBy 111 = .ok (.goto 4, 3) := by decide +kernel
theorem dX10_changeBy_114 : decode cX10_changeBy 114 = .ok (.iconst 0, 1) := by decide +kernel
theorem dX10_changeBy_115 : decode cX10_changeBy 115 = .ok (.istore 8, 2) := by decide +kernel
theorem dX10_changeBy_117 : decode cX10_changeBy 117 = .ok (.aload_n 1, 1) := by decide +kernel
theorem dX10_changeBy_118 : decode cX10_changeBy 118 = .ok (.iload_n 2, 1) := by decide +kernel
theorem dX10_changeBy_119 : decode cX10_changeBy 119 = .ok (.iload 4, 2) := by decide +kernel
theorem dX10_changeBy_121 : decode cX10_changeBy 121 = .ok (.iastore, 1) := by decide +kernel
theorem dX10_changeBy_122 : decode cX10_changeBy 122 = .ok (.aload_n 1, 1) := by decide +kernel
theorem dX10_changeBy_123 : decode cX10_changeBy 123 = .ok (.iload_n 3, 1) := by decide +kernel
theorem dX10_changeBy_124 : decode cX10_changeBy 124 = .ok (.iload 5, 2) := by decide +kernel
theorem dX10_changeBy_126 : decode cX10_changeBy 126 = .ok (.iastore, 1) := by decide +kernel
theorem dX10_changeBy_127 : decode cX10_changeBy 127 = .ok (.iload 8, 2) := by decide +kernel
theorem dX10_changeBy_129 : decode cX10_changeBy 129 = .ok (.ifCond .eq 10, 3) := by decide +kernel
theorem dX10_changeBy_132 : decode cX10_changeBy 132 = .ok (.bipush 10, 2) := by decide +kernel
theorem dX10_changeBy_134 : decode cX10_changeBy 134 = .ok (.iload_n 2, 1) := by decide +kernel
theorem dX10_changeBy_135 : decode cX10_changeBy 135 = .ok (.imul, 1) := by decide +kernel
theorem dX10_changeBy_136 : decode cX10_changeBy 136 = .ok (.iload_n 3, 1) := by decide +kernel
theorem dX10_changeBy_137 : decode cX10_changeBy 137 = .ok (.iadd, 1) := by decide +kernel
theorem dX10_changeBy_138 : decode cX10_changeBy 138 = .ok (.ireturn, 1) := by decide +kernel
theorem dX10_changeBy_139 : decode cX10_changeBy 139 = .ok (.iinc 3 1, 3) := by decide +kernel
theorem dX10_changeBy_142 : decode cX10_changeBy 142 = .ok (.goto (-128), 3) := by decide +kernel
theorem dX10_changeBy_145 : decode cX10_changeBy 145 = .ok (.iinc 2 1, 3) := by decide +kernel
theorem dX10_changeBy_148 : decode cX10_changeBy 148 = .ok (.goto (-146), 3) := by decide +kernel
theorem dX10_changeBy_151 : decode cX10_changeBy 151 = .ok (.bipush (-9), 2) := by decide +kernel
theorem dX10_changeBy_153 : decode cX10_changeBy 153 = .ok (.ireturn, 1) := by decide +kernel
theorem dX10_change_0 : decode cX10_change 0 = .ok (.aload_n 0, 1) := by decide +kernel
theorem dX10_change_1 : decode cX10_change 1 = .ok (.aload_n 0, 1) := by decide +kernel
theorem dX10_change_2 : decode cX10_change 2 = .ok (.getfield 31, 3) := by decide +kernel
theorem dX10_change_5 : decode cX10_change 5 = .ok (.invokevirtual 219, 3) := by decide +kernel
theorem dX10_change_8 : decode cX10_change 8 = .ok (.ireturn, 1) := by decide +kernel
theorem dX10_rest_0 : decode cX10_rest 0 = .ok (.iconst 0, 1) := by decide +kernel
theorem dX10_rest_1 : decode cX10_rest 1 = .ok (.istore_n 1, 1) := by decide +kernel
theorem dX10_rest_2 : decode cX10_rest 2 = .ok (.iload_n 1, 1) := by decide +kernel
theorem dX10_rest_3 : decode cX10_rest 3 = .ok (.aload_n 0, 1) := by decide +kernel
theorem dX10_rest_4 : decode cX10_rest 4 = .ok (.getfield 67, 3) := by decide +kernel
theorem dX10_rest_7 : decode cX10_rest 7 = .ok (.if_icmp .ge 21, 3) := by decide +kernel
theorem dX10_rest_10 : decode cX10_rest 10 = .ok (.aload_n 0, 1) := by decide +kernel
theorem dX10_rest_11 : decode cX10_rest 11 = .ok (.getfield 58, 3) := by decide +kernel
theorem dX10_rest_14 : decode cX10_rest 14 = .ok (.iload_n 1, 1) := by decide +kernel
theorem dX10_rest_15 : decode cX10_rest 15 = .ok (.aload_n 0, 1) := by decide +kernel
theorem dX10_rest_16 : decode cX10_rest 16 = .ok (.getfield 31, 3) := by decide +kernel
theorem dX10_rest_19 : decode cX10_rest 19 = .ok (.iload_n 1, 1) := by decide +kernel
theorem dX10_rest_20 : decode cX10_rest 20 = .ok (.iaload, 1) := by decide +kernel
theorem dX10_rest_21 : decode cX10_rest 21 = .ok (.iastore, 1) := by decide +kernel
theorem dX10_rest_22 : decode cX10_rest 22 = .ok (.iinc 1 1, 3) := by decide +kernel
theorem dX10_rest_25 : decode cX10_rest 25 = .ok (.goto (-23), 3) := by decide +kernel
theorem dX10_rest_28 : decode cX10_rest 28 = .ok (.iconst 0, 1) := by decide +kernel
theorem dX10_rest_29 : decode cX10_rest 29 = .ok (.istore_n 1, 1) := by decide +kernel
theorem dX10_rest_30 : decode cX10_rest 30 = .ok (.aload_n 0, 1) := by decide +kernel
theorem dX10_rest_31 : decode cX10_rest 31 = .ok (.aload_n 0, 1) := by decide +kernel
theorem dX10_rest_32 : decode cX10_rest 32 = .ok (.getfield 58, 3) := by decide +kernel
theorem dX10_rest_35 : decode cX10_rest 35 = .ok (.invokevirtual 219, 3) := by decide +kernel
theorem dX10_rest_38 : decode cX10_rest 38 = .ok (.istore_n 2, 1) := by decide +kernel
theorem dX10_rest_39 : decode cX10_rest 39 = .ok (.iload_n 2, 1) := by decide +kernel
theorem dX10_rest_40 : decode cX10_rest 40 = .ok (.bipush (-9), 2) := by decide +kernel
theorem dX10_rest_42 : decode cX10_rest 42 = .ok (.if_icmp .eq 56, 3) := by decide +kernel
theorem dX10_rest_45 : decode cX10_rest 45 = .ok (.aload_n 0, 1) := by decide +kernel
theorem dX10_rest_46 : decode cX10_rest 46 = .ok (.getfield 58, 3) := by decide +kernel
theorem dX10_rest_49 : decode cX10_rest 49 = .ok (.iload_n 2, 1) := by decide +kernel
theorem dX10_rest_50 : decode cX10_rest 50 = .ok (.bipush 10, 2) := by decide +kernel
theorem dX10_rest_52 : decode cX10_rest 52 = .ok (.idiv, 1) := by decide +kernel
theorem dX10_rest_53 : decode cX10_rest 53 = .ok (.iaload, 1) := by decide +kernel
theorem dX10_rest_54 : decode cX10_rest 54 = .ok (.istore_n 3, 1) := by decide +kernel
theorem dX10_rest_55 : decode cX10_rest 55 = .ok (.aload_n 0, 1) := by decide +kernel
theorem dX10_rest_56 : decode cX10_rest 56 = .ok (.getfield 58, 3) := by decide +kernel
theorem dX10_rest_59 : decode cX10_rest 59 = .ok (.iload_n 2, 1) := by decide +kernel
theorem dX10_rest_60 : decode cX10_rest 60 = .ok (.bipush 10, 2) := by decide +kernel
theorem dX10_rest_62 : decode cX10_rest 62 = .ok (.idiv, 1) := by decide +kernel
theorem dX10_rest_63 : decode cX10_rest 63 = .ok (.aload_n 0, 1) := by decide +kernel
theorem dX10_rest_64 : decode cX10_rest 64 = .ok (.getfield 58, 3) := by decide +kernel
theorem dX10_rest_67 : decode cX10_rest 67 = .ok (.iload_n 2, 1) := by decide +kernel
theorem dX10_rest_68 : decode cX10_rest 68 = .ok (.bipush 10, 2) := by decide +kernel
theorem dX10_rest_70 : decode cX10_rest 70 = .ok (.irem, 1) := by decide +kernel
theorem dX10_rest_71 : decode cX10_rest 71 = .ok (.iaload, 1) := by decide +kernel
theorem dX10_rest_72 : decode cX10_rest 72 = .ok (.iastore, 1) := by decide +kernel
theorem dX10_rest_73 : decode cX10_rest 73 = .ok (.aload_n 0, 1) := by decide +kernel
theorem dX10_rest_74 : decode cX10_rest 74 = .ok (.getfield 58, 3) := by decide +kernel
theorem dX10_rest_77 : decode cX10_rest 77 = .ok (.iload_n 2, 1) := by decide +kernel
theorem dX10_rest_78 : decode cX10_rest 78 = .ok (.bipush 10, 2) := by decide +kernel
theorem dX10_rest_80 : decode cX10_rest 80 = .ok (.irem, 1) := by decide +kernel
theorem dX10_rest_81 : decode cX10_rest 81 = .ok (.iload_n 3, 1) := by decide +kernel
theorem dX10_rest_82 : decode cX10_rest 82 = .ok (.iastore, 1) := by decide +kernel
theorem dX10_rest_83 : decode cX10_rest 83 = .ok (.iinc 1 1, 3) := by decide +kernel
theorem dX10_rest_86 : decode cX10_rest 86 = .ok (.aload_n 0, 1) := by decide +kernel
theorem dX10_rest_87 : decode cX10_rest 87 = .ok (.aload_n 0, 1) := by decide +kernel
theorem dX10_rest_88 : decode cX10_rest 88 = .ok (.getfield 58, 3) := by decide +kernel
theorem dX10_rest_91 : decode cX10_rest 91 = .ok (.invokevirtual 219, 3) := by decide +kernel
theorem dX10_rest_94 : decode cX10_rest 94 = .ok (.istore_n 2, 1) := by decide +kernel
theorem dX10_rest_95 : decode cX10_rest 95 = .ok (.goto (-56), 3) := by decide +kernel
theorem dX10_rest_98 : decode cX10_rest 98 = .ok (.iload_n 1, 1) := by decide +kernel
theorem dX10_rest_99 : decode cX10_rest 99 = .ok (.ireturn, 1) := by decide +kernel
theorem dX10_match_0 : decode cX10_match 0 = .ok (.aload_n 0, 1) := by decide +kernel
theorem dX10_match_1 : decode cX10_match 1 = .ok (.iload_n 1, 1) := by decide +kernel
theorem dX10_match_2 : decode cX10_match 2 = .ok (.invokevirtual 173, 3) := by decide +kernel
theorem dX10_match_5 : decode cX10_match 5 = .ok (.ifCond .eq 16, 3) := by decide +kernel
theorem dX10_match_8 : decode cX10_match 8 = .ok (.aload_n 0, 1) := by decide +kernel
theorem dX10_match_9 : decode cX10_match 9 = .ok (.iload_n 2, 1) := by decide +kernel
theorem dX10_match_10 : decode cX10_match 10 = .ok (.invokevirtual 173, 3) := by decide +kernel
theorem dX10_match_13 : decode cX10_match 13 = .ok (.ifCond .eq 8, 3) := by decide +kernel
theorem dX10_match_16 : decode cX10_match 16 = .ok (.iload_n 1, 1) := by decide +kernel
theorem dX10_match_17 : decode cX10_match 17 = .ok (.iload_n 2, 1) := by decide +kernel
theorem dX10_match_18 : decode cX10_match 18 = .ok (.if_icmp .ne 5, 3) := by decide +kernel
theorem dX10_match_21 : decode cX10_match 21 = .ok (.iconst (-1), 1) := by decide +kernel
theorem dX10_match_22 : decode cX10_match 22 = .ok (.ireturn, 1) := by decide +kernel
theorem dX10_match_23 : decode cX10_match 23 = .ok (.aload_n 0, 1) := by decide +kernel
theorem dX10_match_24 : decode cX10_match 24 = .ok (.aload_n 0, 1) := by decide +kernel
theorem dX10_match_25 : decode cX10_match 25 = .ok (.getfield 31, 3) := by decide +kernel
theorem dX10_match_28 : decode cX10_match 28 = .ok (.iload_n 1, 1) := by decide +kernel
theorem dX10_match_29 : decode cX10_match 29 = .ok (.invokevirtual 178, 3) := by decide +kernel
theorem dX10_match_32 : decode cX10_match 32 = .ok (.aload_n 0, 1) := by decide +kernel
theorem dX10_match_33 : decode cX10_match 33 = .ok (.aload_n 0, 1) := by decide +kernel
theorem dX10_match_34 : decode cX10_match 34 = .ok (.getfield 31, 3) := by decide +kernel
theorem dX10_match_37 : decode cX10_match 37 = .ok (.iload_n 2, 1) := by decide +kernel
theorem dX10_match_38 : decode cX10_match 38 = .ok (.invokevirtual 178, 3) := by decide +kernel
theorem dX10_match_41 : decode cX10_match 41 = .ok (.ior, 1) := by decide +kernel
theorem dX10_match_42 : decode cX10_match 42 = .ok (.istore_n 3, 1) := by decide +kernel
theorem dX10_match_43 : decode cX10_match 43 = .ok (.aload_n 0, 1) := by decide +kernel
theorem dX10_match_44 : decode cX10_match 44 = .ok (.iload_n 1, 1) := by decide +kernel
theorem dX10_match_45 : decode cX10_match 45 = .ok (.iload_n 3, 1) := by decide +kernel
theorem dX10_match_46 : decode cX10_match 46 = .ok (.invokevirtual 192, 3) := by decide +kernel
theorem dX10_match_49 : decode cX10_match 49 = .ok (.istore 4, 2) := by decide +kernel
theorem dX10_match_51 : decode cX10_match 51 = .ok (.aload_n 0, 1) := by decide +kernel
theorem dX10_match_52 : decode cX10_match 52 = .ok (.iload_n 2, 1) := by decide +kernel
theorem dX10_match_53 : decode cX10_match 53 = .ok (.iload_n 3, 1) := by decide +kernel
theorem dX10_match_54 : decode cX10_match 54 = .ok (.invokevirtual 192, 3) := by decide +kernel
theorem dX10_match_57 : decode cX10_match 57 = .ok (.istore 5, 2) := by decide +kernel
theorem dX10_match_59 : decode cX10_match 59 = .ok (.iload 4, 2) := by decide +kernel
theorem dX10_match_61 : decode cX10_match 61 = .ok (.bipush (-9), 2) := by decide +kernel
theorem dX10_match_63 : decode cX10_match 63 = .ok (.if_icmp .eq 10, 3) := by decide +kernel
theorem dX10_match_66 : decode cX10_match 66 = .ok (.iload 5, 2) := by decide +kernel
theorem dX10_match_68 : decode cX10_match 68 = .ok (.bipush (-9), 2) := by decide +kernel
theorem dX10_match_70 : decode cX10_match 70 = .ok (.if_icmp .ne 6, 3) := by decide +kernel
theorem dX10_match_73 : decode cX10_match 73 = .ok (.bipush (-9), 2) := by decide +kernel
theorem dX10_match_75 : decode cX10_match 75 = .ok (.ireturn, 1) := by decide +kernel
theorem dX10_match_76 : decode cX10_match 76 = .ok (.iload 4, 2) := by decide +kernel
theorem dX10_match_78 : decode cX10_match 78 = .ok (.aload_n 0, 1) := by decide +kernel
theorem dX10_match_79 : decode cX10_match 79 = .ok (.getfield 28, 3) := by decide +kernel
theorem dX10_match_82 : decode cX10_match 82 = .ok (.iload_n 1, 1) := by decide +kernel
theorem dX10_match_83 : decode cX10_match 83 = .ok (.iaload, 1) := by decide +kernel
theorem dX10_match_84 : decode cX10_match 84 = .ok (.imul, 1) := by decide +kernel
theorem dX10_match_85 : decode cX10_match 85 = .ok (.iload 5, 2) := by decide +kernel
theorem dX10_match_87 : decode cX10_match 87 = .ok (.aload_n 0, 1) := by decide +kernel
theorem dX10_match_88 : decode cX10_match 88 = .ok (.getfield 28, 3) := by decide +kernel
theorem dX10_match_91 : decode cX10_match 91 = .ok (.iload_n 2, 1) := by decide +kernel
theorem dX10_match_92 : decode cX10_match 92 = .ok (.iaload, 1) := by decide +kernel
theorem dX10_match_93 : decode cX10_match 93 = .ok (.imul, 1) := by decide +kernel
theorem dX10_match_94 : decode cX10_match 94 = .ok (.iadd, 1) := by decide +kernel
theorem dX10_match_95 : decode cX10_match 95 = .ok (.aload_n 0, 1) := by decide +kernel
theorem dX10_match_96 : decode cX10_match 96 = .ok (.aload_n 0, 1) := by decide +kernel
theorem dX10_match_97 : decode cX10_match 97 = .ok (.getfield 31, 3) := by decide +kernel
theorem dX10_match_100 : decode cX10_match 100 = .ok (.iload_n 1, 1) := by decide +kernel
theorem dX10_match_101 : decode cX10_match 101 = .ok (.invokevirtual 213, 3) := by decide +kernel
theorem dX10_match_104 : decode cX10_match 104 = .ok (.isub, 1) := by decide +kernel
theorem dX10_match_105 : decode cX10_match 105 = .ok (.aload_n 0, 1) := by decide +kernel
theorem dX10_match_106 : decode cX10_match 106 = .ok (.aload_n 0, 1) := by decide +kernel
theorem dX10_match_107 : decode cX10_match 107 = .ok (.getfield 31, 3) := by decide +kernel
theorem dX10_match_110 : decode cX10_match 110 = .ok (.iload_n 2, 1) := by decide +kernel
theorem dX10_match_111 : decode cX10_match 111 = .ok (.invokevirtual 213, 3) := by decide +kernel
theorem dX10_match_114 : decode cX10_match 114 = .ok (.isub, 1) := by decide +kernel
theorem dX10_match_115 : decode cX10_match 115 = .ok (.ireturn, 1) := by decide +kernel
theorem dX10_always_0 : decode cX10_always 0 = .ok (.iconst 0, 1) := by decide +kernel
theorem dX10_always_1 : decode cX10_always 1 = .ok (.istore_n 1, 1) := by decide +kernel
theorem dX10_always_2 : decode cX10_always 2 = .ok (.iconst 0, 1) := by decide +kernel
theorem dX10_always_3 : decode cX10_always 3 = .ok (.istore_n 2, 1) := by decide +kernel
theorem dX10_always_4 : decode cX10_always 4 = .ok (.iload_n 2, 1) := by decide +kernel
theorem dX10_always_5 : decode cX10_always 5 = .ok (.aload_n 0, 1) := by decide +kernel
theorem dX10_always_6 : decode cX10_always 6 = .ok (.getfield 75, 3) := by decide +kernel
theorem dX10_always_9 : decode cX10_always 9 = .ok (.if_icmp .ge 62, 3) := by decide +kernel
theorem dX10_always_12 : decode cX10_always 12 = .ok (.aload_n 0, 1) := by decide +kernel
theorem dX10_always_13 : decode cX10_always 13 = .ok (.iload_n 2, 1) := by decide +kernel
theorem dX10_always_14 : decode cX10_always 14 = .ok (.iconst 0, 1) := by decide +kernel
theorem dX10_always_15 : decode cX10_always 15 = .ok (.invokevirtual 192, 3) := by decide +kernel
theorem dX10_always_18 : decode cX10_always 18 = .ok (.bipush (-9), 2) := by decide +kernel
theorem dX10_always_20 : decode cX10_always 20 = .ok (.if_icmp .ne 6, 3) := by decide +kernel
theorem dX10_always_23 : decode cX10_always 23 = .ok (.bipush (-9), 2) := by decide +kernel
theorem dX10_always_25 : decode cX10_always 25 = .ok (.ireturn, 1) := by decide +kernel
theorem dX10_always_26 : decode cX10_always 26 = .ok (.iconst 0, 1) := by decide +kernel
theorem dX10_always_27 : decode cX10_always 27 = .ok (.istore_n 3, 1) := by decide +kernel
theorem dX10_always_28 : decode cX10_always 28 = .ok (.iload_n 3, 1) := by decide +kernel
theorem dX10_always_29 : decode cX10_always 29 = .ok (.aload_n 0, 1) := by decide +kernel
theorem dX10_always_30 : decode cX10_always 30 = .ok (.getfield 67, 3) := by decide +kernel
theorem dX10_always_33 : decode cX10_always 33 = .ok (.if_icmp .ge 32, 3) := by decide +kernel
theorem dX10_always_36 : decode cX10_always 36 = .ok (.iload_n 1, 1) := by decide +kernel
theorem dX10_always_37 : decode cX10_always 37 = .ok (.aload_n 0, 1) := by decide +kernel
theorem dX10_always_38 : decode cX10_always 38 = .ok (.iload_n 2, 1) := by decide +kernel
theorem dX10_always_39 : decode cX10_always 39 = .ok (.iconst 1, 1) := by decide +kernel
theorem dX10_always_40 : decode cX10_always 40 = .ok (.iload_n 3, 1) := by decide +kernel
theorem dX10_always_41 : decode cX10_always 41 = .ok (.ishl, 1) := by decide +kernel
theorem dX10_always_42 : decode cX10_always 42 = .ok (.invokevirtual 192, 3) := by decide +kernel
theorem dX10_always_45 : decode cX10_always 45 = .ok (.bipush (-9), 2) := by decide +kernel
theorem dX10_always_47 : decode cX10_always 47 = .ok (.if_icmp .ne 9, 3) := by decide +kernel
theorem dX10_always_50 : decode cX10_always 50 = .ok (.iconst 1, 1) := by decide +kernel
theorem dX10_always_51 : decode cX10_always 51 = .ok (.iload_n 3, 1) := by decide +kernel
theorem dX10_always_52 : decode cX10_always 52 = .ok (.ishl, 1) := by decide +kernel
theorem dX10_always_53 : decode cX10_always 53 = .ok (.goto 4, 3) := by decide +kernel
theorem dX10_always_56 : decode cX10_always 56 = .ok (.iconst 0, 1) := by decide +kernel
theorem dX10_always_57 : decode cX10_always 57 = .ok (.ior, 1) := by decide +kernel
theorem dX10_always_58 : decode cX10_always 58 = .ok (.istore_n 1, 1) := by decide +kernel
theorem dX10_always_59 : decode cX10_always 59 = .ok (.iinc 3 1, 3) := by decide +kernel
theorem dX10_always_62 : decode cX10_always 62 = .ok (.goto (-34), 3) := by decide +kernel
theorem dX10_always_65 : decode cX10_always 65 = .ok (.iinc 2 1, 3) := by decide +kernel
theorem dX10_always_68 : decode cX10_always 68 = .ok (.goto (-64), 3) := by decide +kernel
theorem dX10_always_71 : decode cX10_always 71 = .ok (.iload_n 1, 1) := by decide +kernel
theorem dX10_always_72 : decode cX10_always 72 = .ok (.aload_n 0, 1) := by decide +kernel
theorem dX10_always_73 : decode cX10_always 73 = .ok (.aload_n 0, 1) := by decide +kernel
theorem dX10_always_74 : decode cX10_always 74 = .ok (.getfield 31, 3) := by decide +kernel
theorem dX10_always_77 : decode cX10_always 77 = .ok (.bipush (-5), 2) := by decide +kernel
theorem dX10_always_79 : decode cX10_always 79 = .ok (.invokevirtual 178, 3) := by decide +kernel
theorem dX10_always_82 : decode cX10_always 82 = .ok (.ior, 1) := by decide +kernel
theorem dX10_always_83 : decode cX10_always 83 = .ok (.ireturn, 1) := by decide +kernel
theorem dX10_shut_0 : decode cX10_shut 0 = .ok (.aload_n 0, 1) := by decide +kernel
theorem dX10_shut_1 : decode cX10_shut 1 = .ok (.iload_n 1, 1) := by decide +kernel
theorem dX10_shut_2 : decode cX10_shut 2 = .ok (.invokevirtual 173, 3) := by decide +kernel
theorem dX10_shut_5 : decode cX10_shut 5 = .ok (.ifCond .eq 13, 3) := by decide +kernel
theorem dX10_shut_8 : decode cX10_shut 8 = .ok (.iload_n 2, 1) := by decide +kernel
theorem dX10_shut_9 : decode cX10_shut 9 = .ok (.i2l, 1) := by decide +kernel
theorem dX10_shut_10 : decode cX10_shut 10 = .ok (.lconst 0, 1) := by decide +kernel
theorem dX10_shut_11 : decode cX10_shut 11 = .ok (.lconst 1, 1) := by decide +kernel
theorem dX10_shut_12 : decode cX10_shut 12 = .ok (.invokestatic 71, 3) := by decide +kernel
theorem dX10_shut_15 : decode cX10_shut 15 = .ok (.ifCond .ne 7, 3) := by decide +kernel
theorem dX10_shut_18 : decode cX10_shut 18 = .ok (.ldc2_w 109, 3) := by decide +kernel
theorem dX10_shut_21 : decode cX10_shut 21 = .ok (.lreturn, 1) := by decide +kernel
theorem dX10_shut_22 : decode cX10_shut 22 = .ok (.aload_n 0, 1) := by decide +kernel
theorem dX10_shut_23 : decode cX10_shut 23 = .ok (.aload_n 0, 1) := by decide +kernel
theorem dX10_shut_24 : decode cX10_shut 24 = .ok (.getfield 31, 3) := by decide +kernel
theorem dX10_shut_27 : decode cX10_shut 27 = .ok (.iload_n 1, 1) := by decide +kernel
theorem dX10_shut_28 : decode cX10_shut 28 = .ok (.invokevirtual 178, 3) := by decide +kernel
theorem dX10_shut_31 : decode cX10_shut 31 = .ok (.istore_n 3, 1) := by decide +kernel
theorem dX10_shut_32 : decode cX10_shut 32 = .ok (.lconst 0, 1) := by decide +kernel
theorem dX10_shut_33 : decode cX10_shut 33 = .ok (.lstore 4, 2) := by decide +kernel
theorem dX10_shut_35 : decode cX10_shut 35 = .ok (.lconst 1, 1) := by decide +kernel
theorem dX10_shut_36 : decode cX10_shut 36 = .ok (.lstore 6, 2) := by decide +kernel
theorem dX10_shut_38 : decode cX10_shut 38 = .ok (.iconst 0, 1) := by decide +kernel
theorem dX10_shut_39 : decode cX10_shut 39 = .ok (.istore 8, 2) := by decide +kernel
theorem dX10_shut_41 : decode cX10_shut 41 = .ok (.iload 8, 2) := by decide +kernel
theorem dX10_shut_43 : decode cX10_shut 43 = .ok (.aload_n 0, 1) := by decide +kernel
theorem dX10_shut_44 : decode cX10_shut 44 = .ok (.getfield 67, 3) := by decide +kernel
theorem dX10_shut_47 : decode cX10_shut 47 = .ok (.if_icmp .ge 17, 3) := by decide +kernel
theorem dX10_shut_50 : decode cX10_shut 50 = .ok (.lload 6, 2) := by decide +kernel
theorem dX10_shut_52 : decode cX10_shut 52 = .ok (.ldc2_w 111, 3) := by decide +kernel
theorem dX10_shut_55 : decode cX10_shut 55 = .ok (.lmul, 1) := by decide +kernel
theorem dX10_shut_56 : decode cX10_shut 56 = .ok (.lstore 6, 2) := by decide +kernel
theorem dX10_shut_58 : decode cX10_shut 58 = .ok (.iinc 8 1, 3) := by decide +kernel
theorem dX10_shut_61 : decode cX10_shut 61 = .ok (.goto (-20), 3) := by decide +kernel
theorem dX10_shut_64 : decode cX10_shut 64 = .ok (.iconst 0, 1) := by decide +kernel
theorem dX10_shut_65 : decode cX10_shut 65 = .ok (.istore 8, 2) := by decide +kernel
theorem dX10_shut_67 : decode cX10_shut 67 = .ok (.iload 8, 2) := by decide +kernel
theorem dX10_shut_69 : decode cX10_shut 69 = .ok (.iconst 1, 1) := by decide +kernel
theorem dX10_shut_70 : decode cX10_shut 70 = .ok (.aload_n 0, 1) := by decide +kernel
theorem dX10_shut_71 : decode cX10_shut 71 = .ok (.getfield 67, 3) := by decide +kernel
theorem dX10_shut_74 : decode cX10_shut 74 = .ok (.ishl, 1) := by decide +kernel
theorem dX10_shut_75 : decode cX10_shut 75 = .ok (.if_icmp .ge 93, 3) := by decide +kernel
theorem dX10_shut_78 : decode cX10_shut 78 = .ok (.lconst 1, 1) := by decide +kernel
theorem dX10_shut_79 : decode cX10_shut 79 = .ok (.lstore 9, 2) := by decide +kernel
theorem dX10_shut_81 : decode cX10_shut 81 = .ok (.iconst 0, 1) := by decide +kernel
theorem dX10_shut_82 : decode cX10_shut 82 = .ok (.istore 11, 2) := by decide +kernel
theorem dX10_shut_84 : decode cX10_shut 84 = .ok (.iload 11, 2) := by decide +kernel
theorem dX10_shut_86 : decode cX10_shut 86 = .ok (.aload_n 0, 1) := by decide +kernel
theorem dX10_shut_87 : decode cX10_shut 87 = .ok (.getfield 67, 3) := by decide +kernel
theorem dX10_shut_90 : decode cX10_shut 90 = .ok (.if_icmp .ge 47, 3) := by decide +kernel
theorem dX10_shut_93 : decode cX10_shut 93 = .ok (.lload 9, 2) := by decide +kernel
theorem dX10_shut_95 : decode cX10_shut 95 = .ok (.iload 8, 2) := by decide +kernel
theorem dX10_shut_97 : decode cX10_shut 97 = .ok (.iload 11, 2) := by decide +kernel
theorem dX10_shut_99 : decode cX10_shut 99 = .ok (.ishr, 1) := by decide +kernel
theorem dX10_shut_100 : decode cX10_shut 100 = .ok (.iconst 1, 1) := by decide +kernel
theorem dX10_shut_101 : decode cX10_shut 101 = .ok (.iand, 1) := by decide +kernel
theorem dX10_shut_102 : decode cX10_shut 102 = .ok (.iconst 1, 1) := by decide +kernel
theorem dX10_shut_103 : decode cX10_shut 103 = .ok (.if_icmp .ne 14, 3) := by decide +kernel
theorem dX10_shut_106 : decode cX10_shut 106 = .ok (.aload_n 0, 1) := by decide +kernel
theorem dX10_shut_107 : decode cX10_shut 107 = .ok (.getfield 34, 3) := by decide +kernel
theorem dX10_shut_110 : decode cX10_shut 110 = .ok (.iload 11, 2) := by decide +kernel
theorem dX10_shut_112 : decode cX10_shut 112 = .ok (.iaload, 1) := by decide +kernel
theorem dX10_shut_113 : decode cX10_shut 113 = .ok (.i2l, 1) := by decide +kernel
theorem dX10_shut_114 : decode cX10_shut 114 = .ok (.goto 14, 3) := by decide +kernel
theorem dX10_shut_117 : decode cX10_shut 117 = .ok (.bipush 10, 2) := by decide +kernel
theorem dX10_shut_119 : decode cX10_shut 119 = .ok (.aload_n 0, 1) := by decide +kernel
theorem dX10_shut_120 : decode cX10_shut 120 = .ok (.getfield 34, 3) := by decide +kernel
theorem dX10_shut_123 : decode cX10_shut 123 = .ok (.iload 11, 2) := by decide +kernel
theorem dX10_shut_125 : decode cX10_shut 125 = .ok (.iaload, 1) := by decide +kernel
theorem dX10_shut_126 : decode cX10_shut 126 = .ok (.isub, 1) := by decide +kernel
theorem dX10_shut_127 : decode cX10_shut 127 = .ok (.i2l, 1) := by decide +kernel
theorem dX10_shut_128 : decode cX10_shut 128 = .ok (.lmul, 1) := by decide +kernel
theorem dX10_shut_129 : decode cX10_shut 129 = .ok (.lstore 9, 2) := by decide +kernel
theorem dX10_shut_131 : decode cX10_shut 131 = .ok (.iinc 11 1, 3) := by decide +kernel
theorem dX10_shut_134 : decode cX10_shut 134 = .ok (.goto (-50), 3) := by decide +kernel
theorem dX10_shut_137 : decode cX10_shut 137 = .ok (.lload 4, 2) := by decide +kernel
theorem dX10_shut_139 : decode cX10_shut 139 = .ok (.aload_n 0, 1) := by decide +kernel
theorem dX10_shut_140 : decode cX10_shut 140 = .ok (.iload_n 1, 1) := by decide +kernel
theorem dX10_shut_141 : decode cX10_shut 141 = .ok (.iload_n 3, 1) := by decide +kernel
theorem dX10_shut_142 : decode cX10_shut 142 = .ok (.iload 8, 2) := by decide +kernel
theorem dX10_shut_144 : decode cX10_shut 144 = .ok (.ior, 1) := by decide +kernel
theorem dX10_shut_145 : decode cX10_shut 145 = .ok (.invokevirtual 192, 3) := by decide +kernel
theorem dX10_shut_148 : decode cX10_shut 148 = .ok (.bipush (-9), 2) := by decide +kernel
theorem dX10_shut_150 : decode cX10_shut 150 = .ok (.if_icmp .ne 8, 3) := by decide +kernel
theorem dX10_shut_153 : decode cX10_shut 153 = .ok (.lload 9, 2) := by decide +kernel
theorem dX10_shut_155 : decode cX10_shut 155 = .ok (.goto 4, 3) := by decide +kernel
theorem dX10_shut_158 : decode cX10_shut 158 = .ok (.lconst 0, 1) := by decide +kernel
theorem dX10_shut_159 : decode cX10_shut 159 = .ok (.ladd, 1) := by decide +kernel
theorem dX10_shut_160 : decode cX10_shut 160 = .ok (.lstore 4, 2) := by decide +kernel
theorem dX10_shut_162 : decode cX10_shut 162 = .ok (.iinc 8 1, 3) := by decide +kernel
theorem dX10_shut_165 : decode cX10_shut 165 = .ok (.goto (-98), 3) := by decide +kernel
theorem dX10_shut_168 : decode cX10_shut 168 = .ok (.lload 4, 2) := by decide +kernel
theorem dX10_shut_170 : decode cX10_shut 170 = .ok (.lstore 8, 2) := by decide +kernel
theorem dX10_shut_172 : decode cX10_shut 172 = .ok (.lload 6, 2) := by decide +kernel
theorem dX10_shut_174 : decode cX10_shut 174 = .ok (.lstore 10, 2) := by decide +kernel
theorem dX10_shut_176 : decode cX10_shut 176 = .ok (.lload 10, 2) := by decide +kernel
theorem dX10_shut_178 : decode cX10_shut 178 = .ok (.lconst 0, 1) := by decide +kernel
theorem dX10_shut_179 : decode cX10_shut 179 = .ok (.lcmp, 1) := by decide +kernel
theorem dX10_shut_180 : decode cX10_shut 180 = .ok (.ifCond .eq 21, 3) := by decide +kernel
theorem dX10_shut_183 : decode cX10_shut 183 = .ok (.lload 8, 2) := by decide +kernel
theorem dX10_shut_185 : decode cX10_shut 185 = .ok (.lload 10, 2) := by decide +kernel
theorem dX10_shut_187 : decode cX10_shut 187 = .ok (.lrem, 1) := by decide +kernel
theorem dX10_shut_188 : decode cX10_shut 188 = .ok (.lstore 12, 2) := by decide +kernel
theorem dX10_shut_190 : decode cX10_shut 190 = .ok (.lload 10, 2) := by decide +kernel
theorem dX10_shut_192 : decode cX10_shut 192 = .ok (.lstore 8, 2) := by decide +kernel
theorem dX10_shut_194 : decode cX10_shut 194 = .ok (.lload 12, 2) := by decide +kernel
theorem dX10_shut_196 : decode cX10_shut 196 = .ok (.lstore 10, 2) := by decide +kernel
theorem dX10_shut_198 : decode cX10_shut 198 = .ok (.goto (-22), 3) := by decide +kernel
theorem dX10_shut_201 : decode cX10_shut 201 = .ok (.iload_n 2, 1) := by decide +kernel
theorem dX10_shut_202 : decode cX10_shut 202 = .ok (.ifCond .ne 11, 3) := by decide +kernel
theorem dX10_shut_205 : decode cX10_shut 205 = .ok (.lload 4, 2) := by decide +kernel
theorem dX10_shut_207 : decode cX10_shut 207 = .ok (.lload 8, 2) := by decide +kernel
theorem dX10_shut_209 : decode cX10_shut 209 = .ok (.ldiv, 1) := by decide +kernel
theorem dX10_shut_210 : decode cX10_shut 210 = .ok (.goto 8, 3) := by decide +kernel
theorem dX10_shut_213 : decode cX10_shut 213 = .ok (.lload 6, 2) := by decide +kernel
theorem dX10_shut_215 : decode cX10_shut 215 = .ok (.lload 8, 2) := by decide +kernel
theorem dX10_shut_217 : decode cX10_shut 217 = .ok (.ldiv, 1) := by decide +kernel
theorem dX10_shut_218 : decode cX10_shut 218 = .ok (.lreturn, 1) := by decide +kernel
theorem dX10_saw_0 : decode cX10_saw 0 = .ok (.aload_n 0, 1) := by decide +kernel
theorem dX10_saw_1 : decode cX10_saw 1 = .ok (.iload_n 1, 1) := by decide +kernel
theorem dX10_saw_2 : decode cX10_saw 2 = .ok (.invokevirtual 173, 3) := by decide +kernel
theorem dX10_saw_5 : decode cX10_saw 5 = .ok (.ifCond .eq 21, 3) := by decide +kernel
theorem dX10_saw_8 : decode cX10_saw 8 = .ok (.iload_n 2, 1) := by decide +kernel
theorem dX10_saw_9 : decode cX10_saw 9 = .ok (.i2l, 1) := by decide +kernel
theorem dX10_saw_10 : decode cX10_saw 10 = .ok (.lconst 0, 1) := by decide +kernel
theorem dX10_saw_11 : decode cX10_saw 11 = .ok (.iconst 1, 1) := by decide +kernel
theorem dX10_saw_12 : decode cX10_saw 12 = .ok (.aload_n 0, 1) := by decide +kernel
theorem dX10_saw_13 : decode cX10_saw 13 = .ok (.getfield 67, 3) := by decide +kernel
theorem dX10_saw_16 : decode cX10_saw 16 = .ok (.ishl, 1) := by decide +kernel
theorem dX10_saw_17 : decode cX10_saw 17 = .ok (.iconst 1, 1) := by decide +kernel
theorem dX10_saw_18 : decode cX10_saw 18 = .ok (.isub, 1) := by decide +kernel
theorem dX10_saw_19 : decode cX10_saw 19 = .ok (.i2l, 1) := by decide +kernel
theorem dX10_saw_20 : decode cX10_saw 20 = .ok (.invokestatic 71, 3) := by decide +kernel
theorem dX10_saw_23 : decode cX10_saw 23 = .ok (.ifCond .ne 5, 3) := by decide +kernel
theorem dX10_saw_26 : decode cX10_saw 26 = .ok (.iconst (-1), 1) := by decide +kernel
theorem dX10_saw_27 : decode cX10_saw 27 = .ok (.ireturn, 1) := by decide +kernel
theorem dX10_saw_28 : decode cX10_saw 28 = .ok (.aload_n 0, 1) := by decide +kernel
theorem dX10_saw_29 : decode cX10_saw 29 = .ok (.getfield 158, 3) := by decide +kernel
theorem dX10_saw_32 : decode cX10_saw 32 = .ok (.bipush 10, 2) := by decide +kernel
theorem dX10_saw_34 : decode cX10_saw 34 = .ok (.if_icmp .ne 6, 3) := by decide +kernel
theorem dX10_saw_37 : decode cX10_saw 37 = .ok (.bipush (-3), 2) := by decide +kernel
theorem dX10_saw_39 : decode cX10_saw 39 = .ok (.ireturn, 1) := by decide +kernel
theorem dX10_saw_40 : decode cX10_saw 40 = .ok (.aload_n 0, 1) := by decide +kernel
theorem dX10_saw_41 : decode cX10_saw 41 = .ok (.getfield 37, 3) := by decide +kernel
theorem dX10_saw_44 : decode cX10_saw 44 = .ok (.aload_n 0, 1) := by decide +kernel
theorem dX10_saw_45 : decode cX10_saw 45 = .ok (.getfield 158, 3) := by decide +kernel
theorem dX10_saw_48 : decode cX10_saw 48 = .ok (.iload_n 1, 1) := by decide +kernel
theorem dX10_saw_49 : decode cX10_saw 49 = .ok (.iastore, 1) := by decide +kernel
theorem dX10_saw_50 : decode cX10_saw 50 = .ok (.aload_n 0, 1) := by decide +kernel
theorem dX10_saw_51 : decode cX10_saw 51 = .ok (.getfield 40, 3) := by decide +kernel
theorem dX10_saw_54 : decode cX10_saw 54 = .ok (.aload_n 0, 1) := by decide +kernel
theorem dX10_saw_55 : decode cX10_saw 55 = .ok (.getfield 158, 3) := by decide +kernel
theorem dX10_saw_58 : decode cX10_saw 58 = .ok (.iload_n 2, 1) := by decide +kernel
theorem dX10_saw_59 : decode cX10_saw 59 = .ok (.iastore, 1) := by decide +kernel
theorem dX10_saw_60 : decode cX10_saw 60 = .ok (.aload_n 0, 1) := by decide +kernel
theorem dX10_saw_61 : decode cX10_saw 61 = .ok (.dup, 1) := by decide +kernel
theorem dX10_saw_62 : decode cX10_saw 62 = .ok (.getfield 158, 3) := by decide +kernel
theorem dX10_saw_65 : decode cX10_saw 65 = .ok (.iconst 1, 1) := by decide +kernel
theorem dX10_saw_66 : decode cX10_saw 66 = .ok (.iadd, 1) := by decide +kernel
theorem dX10_saw_67 : decode cX10_saw 67 = .ok (.putfield 158, 3) := by decide +kernel
theorem dX10_saw_70 : decode cX10_saw 70 = .ok (.aload_n 0, 1) := by decide +kernel
theorem dX10_saw_71 : decode cX10_saw 71 = .ok (.getfield 158, 3) := by decide +kernel
theorem dX10_saw_74 : decode cX10_saw 74 = .ok (.ireturn, 1) := by decide +kernel
theorem dX10_forget_0 : decode cX10_forget 0 = .ok (.aload_n 0, 1) := by decide +kernel
theorem dX10_forget_1 : decode cX10_forget 1 = .ok (.getfield 158, 3) := by decide +kernel
theorem dX10_forget_4 : decode cX10_forget 4 = .ok (.istore_n 1, 1) := by decide +kernel
theorem dX10_forget_5 : decode cX10_forget 5 = .ok (.aload_n 0, 1) := by decide +kernel
theorem dX10_forget_6 : decode cX10_forget 6 = .ok (.iconst 0, 1) := by decide +kernel
theorem dX10_forget_7 : decode cX10_forget 7 = .ok (.putfield 158, 3) := by decide +kernel
theorem dX10_forget_10 : decode cX10_forget 10 = .ok (.iload_n 1, 1) := by decide +kernel
theorem dX10_forget_11 : decode cX10_forget 11 = .ok (.ireturn, 1) := by decide +kernel
theorem dX10_paves_0 : decode cX10_paves 0 = .ok (.iconst 0, 1) := by decide +kernel
theorem dX10_paves_1 : decode cX10_paves 1 = .ok (.istore_n 1, 1) := by decide +kernel
theorem dX10_paves_2 : decode cX10_paves 2 = .ok (.iload_n 1, 1) := by decide +kernel
theorem dX10_paves_3 : decode cX10_paves 3 = .ok (.iconst 4, 1) := by decide +kernel
theorem dX10_paves_4 : decode cX10_paves 4 = .ok (.if_icmp .ge 16, 3) := by decide +kernel
theorem dX10_paves_7 : decode cX10_paves 7 = .ok (.aload_n 0, 1) := by decide +kernel
theorem dX10_paves_8 : decode cX10_paves 8 = .ok (.getfield 61, 3) := by decide +kernel
theorem dX10_paves_11 : decode cX10_paves 11 = .ok (.iload_n 1, 1) := by decide +kernel
theorem dX10_paves_12 : decode cX10_paves 12 = .ok (.iconst 0, 1) := by decide +kernel
theorem dX10_paves_13 : decode cX10_paves 13 = .ok (.iastore, 1) := by decide +kernel
theorem dX10_paves_14 : decode cX10_paves 14 = .ok (.iinc 1 1, 3) := by decide +kernel
theorem dX10_paves_17 : decode cX10_paves 17 = .ok (.goto (-15), 3) := by decide +kernel
theorem dX10_paves_20 : decode cX10_paves 20 = .ok (.iconst 0, 1) := by decide +kernel
theorem dX10_paves_21 : decode cX10_paves 21 = .ok (.istore_n 1, 1) := by decide +kernel
theorem dX10_paves_22 : decode cX10_paves 22 = .ok (.iload_n 1, 1) := by decide +kernel
theorem dX10_paves_23 : decode cX10_paves 23 = .ok (.aload_n 0, 1) := by decide +kernel
theorem dX10_paves_24 : decode cX10_paves 24 = .ok (.getfield 158, 3) := by decide +kernel
theorem dX10_paves_27 : decode cX10_paves 27 = .ok (.if_icmp .ge 29, 3) := by decide +kernel
theorem dX10_paves_30 : decode cX10_paves 30 = .ok (.aload_n 0, 1) := by decide +kernel
theorem dX10_paves_31 : decode cX10_paves 31 = .ok (.getfield 61, 3) := by decide +kernel
theorem dX10_paves_34 : decode cX10_paves 34 = .ok (.aload_n 0, 1) := by decide +kernel
theorem dX10_paves_35 : decode cX10_paves 35 = .ok (.getfield 37, 3) := by decide +kernel
theorem dX10_paves_38 : decode cX10_paves 38 = .ok (.iload_n 1, 1) := by decide +kernel
theorem dX10_paves_39 : decode cX10_paves 39 = .ok (.iaload, 1) := by decide +kernel
theorem dX10_paves_40 : decode cX10_paves 40 = .ok (.dup2, 1) := by decide +kernel
theorem dX10_paves_41 : decode cX10_paves 41 = .ok (.iaload, 1) := by decide +kernel
theorem dX10_paves_42 : decode cX10_paves 42 = .ok (.aload_n 0, 1) := by decide +kernel
theorem dX10_paves_43 : decode cX10_paves 43 = .ok (.getfield 40, 3) := by decide +kernel
theorem dX10_paves_46 : decode cX10_paves 46 = .ok (.iload_n 1, 1) := by decide +kernel
theorem dX10_paves_47 : decode cX10_paves 47 = .ok (.iaload, 1) := by decide +kernel
theorem dX10_paves_48 : decode cX10_paves 48 = .ok (.ior, 1) := by decide +kernel
theorem dX10_paves_49 : decode cX10_paves 49 = .ok (.iastore, 1) := by decide +kernel
theorem dX10_paves_50 : decode cX10_paves 50 = .ok (.iinc 1 1, 3) := by decide +kernel
theorem dX10_paves_53 : decode cX10_paves 53 = .ok (.goto (-31), 3) := by decide +kernel
theorem dX10_paves_56 : decode cX10_paves 56 = .ok (.iconst 0, 1) := by decide +kernel
theorem dX10_paves_57 : decode cX10_paves 57 = .ok (.istore_n 1, 1) := by decide +kernel
theorem dX10_paves_58 : decode cX10_paves 58 = .ok (.iload_n 1, 1) := by decide +kernel
theorem dX10_paves_59 : decode cX10_paves 59 = .ok (.bipush 8, 2) := by decide +kernel
theorem dX10_paves_61 : decode cX10_paves 61 = .ok (.if_icmp .ge 16, 3) := by decide +kernel
theorem dX10_paves_64 : decode cX10_paves 64 = .ok (.aload_n 0, 1) := by decide +kernel
theorem dX10_paves_65 : decode cX10_paves 65 = .ok (.getfield 64, 3) := by decide +kernel
theorem dX10_paves_68 : decode cX10_paves 68 = .ok (.iload_n 1, 1) := by decide +kernel
theorem dX10_paves_69 : decode cX10_paves 69 = .ok (.iconst 0, 1) := by decide +kernel
theorem dX10_paves_70 : decode cX10_paves 70 = .ok (.iastore, 1) := by decide +kernel
theorem dX10_paves_71 : decode cX10_paves 71 = .ok (.iinc 1 1, 3) := by decide +kernel
theorem dX10_paves_74 : decode cX10_paves 74 = .ok (.goto (-16), 3) := by decide +kernel
theorem dX10_paves_77 : decode cX10_paves 77 = .ok (.iconst 0, 1) := by decide +kernel
theorem dX10_paves_78 : decode cX10_paves 78 = .ok (.istore_n 1, 1) := by decide +kernel
theorem dX10_paves_79 : decode cX10_paves 79 = .ok (.aload_n 0, 1) := by decide +kernel
theorem dX10_paves_80 : decode cX10_paves 80 = .ok (.invokevirtual 206, 3) := by decide +kernel
theorem dX10_paves_83 : decode cX10_paves 83 = .ok (.istore_n 2, 1) := by decide +kernel
theorem dX10_paves_84 : decode cX10_paves 84 = .ok (.iconst 0, 1) := by decide +kernel
theorem dX10_paves_85 : decode cX10_paves 85 = .ok (.istore_n 3, 1) := by decide +kernel
theorem dX10_paves_86 : decode cX10_paves 86 = .ok (.iload_n 3, 1) := by decide +kernel
theorem dX10_paves_87 : decode cX10_paves 87 = .ok (.iload_n 2, 1) := by decide +kernel
theorem dX10_paves_88 : decode cX10_paves 88 = .ok (.if_icmp .ge 139, 3) := by decide +kernel
theorem dX10_paves_91 : decode cX10_paves 91 = .ok (.aload_n 0, 1) := by decide +kernel
theorem dX10_paves_92 : decode cX10_paves 92 = .ok (.iload_n 3, 1) := by decide +kernel
theorem dX10_paves_93 : decode cX10_paves 93 = .ok (.invokevirtual 209, 3) := by decide +kernel
theorem dX10_paves_96 : decode cX10_paves 96 = .ok (.iconst 1, 1) := by decide +kernel
theorem dX10_paves_97 : decode cX10_paves 97 = .ok (.istore 4, 2) := by decide +kernel
theorem dX10_paves_99 : decode cX10_paves 99 = .ok (.iconst 0, 1) := by decide +kernel
theorem dX10_paves_100 : decode cX10_paves 100 = .ok (.istore 5, 2) := by decide +kernel
theorem dX10_paves_102 : decode cX10_paves 102 = .ok (.iload 5, 2) := by decide +kernel
theorem dX10_paves_104 : decode cX10_paves 104 = .ok (.aload_n 0, 1) := by decide +kernel
theorem dX10_paves_105 : decode cX10_paves 105 = .ok (.getfield 75, 3) := by decide +kernel
theorem dX10_paves_108 : decode cX10_paves 108 = .ok (.if_icmp .ge 51, 3) := by decide +kernel
theorem dX10_paves_111 : decode cX10_paves 111 = .ok (.iload 4, 2) := by decide +kernel
theorem dX10_paves_113 : decode cX10_paves 113 = .ok (.ifCond .eq 46, 3) := by decide +kernel
theorem dX10_paves_116 : decode cX10_paves 116 = .ok (.aload_n 0, 1) := by decide +kernel
theorem dX10_paves_117 : decode cX10_paves 117 = .ok (.aload_n 0, 1) := by decide +kernel
theorem dX10_paves_118 : decode cX10_paves 118 = .ok (.getfield 58, 3) := by decide +kernel
theorem dX10_paves_121 : decode cX10_paves 121 = .ok (.iload 5, 2) := by decide +kernel
theorem dX10_paves_123 : decode cX10_paves 123 = .ok (.invokevirtual 178, 3) := by decide +kernel
theorem dX10_paves_126 : decode cX10_paves 126 = .ok (.istore 6, 2) := by decide +kernel
theorem dX10_paves_128 : decode cX10_paves 128 = .ok (.iload 6, 2) := by decide +kernel
theorem dX10_paves_130 : decode cX10_paves 130 = .ok (.ifCond .eq 20, 3) := by decide +kernel
theorem dX10_paves_133 : decode cX10_paves 133 = .ok (.iload 6, 2) := by decide +kernel
theorem dX10_paves_135 : decode cX10_paves 135 = .ok (.aload_n 0, 1) := by decide +kernel
theorem dX10_paves_136 : decode cX10_paves 136 = .ok (.getfield 61, 3) := by decide +kernel
theorem dX10_paves_139 : decode cX10_paves 139 = .ok (.iload 5, 2) := by decide +kernel
theorem dX10_paves_141 : decode cX10_paves 141 = .ok (.iaload, 1) := by decide +kernel
theorem dX10_paves_142 : decode cX10_paves 142 = .ok (.iand, 1) := by decide +kernel
theorem dX10_paves_143 : decode cX10_paves 143 = .ok (.ifCond .ne 7, 3) := by decide +kernel
theorem dX10_paves_146 : decode cX10_paves 146 = .ok (.iconst 1, 1) := by decide +kernel
theorem dX10_paves_147 : decode cX10_paves 147 = .ok (.goto 4, 3) := by decide +kernel
theorem dX10_paves_150 : decode cX10_paves 150 = .ok (.iconst 0, 1) := by decide +kernel
theorem dX10_paves_151 : decode cX10_paves 151 = .ok (.istore 4, 2) := by decide +kernel
theorem dX10_paves_153 : decode cX10_paves 153 = .ok (.iinc 5 1, 3) := by decide +kernel
theorem dX10_paves_156 : decode cX10_paves 156 = .ok (.goto (-54), 3) := by decide +kernel
theorem dX10_paves_159 : decode cX10_paves 159 = .ok (.iload 4, 2) := by decide +kernel
theorem dX10_paves_161 : decode cX10_paves 161 = .ok (.ifCond .ne 6, 3) := by decide +kernel
theorem dX10_paves_164 : decode cX10_paves 164 = .ok (.goto 57, 3) := by decide +kernel
theorem dX10_paves_167 : decode cX10_paves 167 = .ok (.iinc 1 1, 3) := by decide +kernel
theorem dX10_paves_170 : decode cX10_paves 170 = .ok (.iconst 0, 1) := by decide +kernel
theorem dX10_paves_171 : decode cX10_paves 171 = .ok (.istore 5, 2) := by decide +kernel
theorem dX10_paves_173 : decode cX10_paves 173 = .ok (.iload 5, 2) := by decide +kernel
theorem dX10_paves_175 : decode cX10_paves 175 = .ok (.aload_n 0, 1) := by decide +kernel
theorem dX10_paves_176 : decode cX10_paves 176 = .ok (.getfield 67, 3) := by decide +kernel
theorem dX10_paves_179 : decode cX10_paves 179 = .ok (.if_icmp .ge 42, 3) := by decide +kernel
theorem dX10_paves_182 : decode cX10_paves 182 = .ok (.aload_n 0, 1) := by decide +kernel
theorem dX10_paves_183 : decode cX10_paves 183 = .ok (.getfield 64, 3) := by decide +kernel
theorem dX10_paves_186 : decode cX10_paves 186 = .ok (.iload 5, 2) := by decide +kernel
theorem dX10_paves_188 : decode cX10_paves 188 = .ok (.dup2, 1) := by decide +kernel
theorem dX10_paves_189 : decode cX10_paves 189 = .ok (.iaload, 1) := by decide +kernel
theorem dX10_paves_190 : decode cX10_paves 190 = .ok (.aload_n 0, 1) := by decide +kernel
theorem dX10_paves_191 : decode cX10_paves 191 = .ok (.getfield 58, 3) := by decide +kernel
theorem dX10_paves_194 : decode cX10_paves 194 = .ok (.iload 5, 2) := by decide +kernel
theorem dX10_paves_196 : decode cX10_paves 196 = .ok (.iaload, 1) := by decide +kernel
theorem dX10_paves_197 : decode cX10_paves 197 = .ok (.ifCond .ge 7, 3) := by decide +kernel
theorem dX10_paves_200 : decode cX10_paves 200 = .ok (.iconst 0, 1) := by decide +kernel
theorem dX10_paves_201 : decode cX10_paves 201 = .ok (.goto 12, 3) := by decide +kernel
theorem dX10_paves_204 : decode cX10_paves 204 = .ok (.iconst 1, 1) := by decide +kernel
theorem dX10_paves_205 : decode cX10_paves 205 = .ok (.aload_n 0, 1) := by decide +kernel
theorem dX10_paves_206 : decode cX10_paves 206 = .ok (.getfield 58, 3) := by decide +kernel
theorem dX10_paves_209 : decode cX10_paves 209 = .ok (.iload 5, 2) := by decide +kernel
theorem dX10_paves_211 : decode cX10_paves 211 = .ok (.iaload, 1) := by decide +kernel
theorem dX10_paves_212 : decode cX10_paves 212 = .ok (.ishl, 1) := by decide +kernel
theorem dX10_paves_213 : decode cX10_paves 213 = .ok (.ior, 1) := by decide +kernel
theorem dX10_paves_214 : decode cX10_paves 214 = .ok (.iastore, 1) := by decide +kernel
theorem dX10_paves_215 : decode cX10_paves 215 = .ok (.iinc 5 1, 3) := by decide +kernel
theorem dX10_paves_218 : decode cX10_paves 218 = .ok (.goto (-45), 3) := by decide +kernel
theorem dX10_paves_221 : decode cX10_paves 221 = .ok (.iinc 3 1, 3) := by decide +kernel
theorem dX10_paves_224 : decode cX10_paves 224 = .ok (.goto (-138), 3) := by decide +kernel
theorem dX10_paves_227 : decode cX10_paves 227 = .ok (.iload_n 1, 1) := by decide +kernel
theorem dX10_paves_228 : decode cX10_paves 228 = .ok (.ireturn, 1) := by decide +kernel
theorem dX10_fits_0 : decode cX10_fits 0 = .ok (.aload_n 0, 1) := by decide +kernel
theorem dX10_fits_1 : decode cX10_fits 1 = .ok (.invokevirtual 223, 3) := by decide +kernel
theorem dX10_fits_4 : decode cX10_fits 4 = .ok (.ireturn, 1) := by decide +kernel
theorem dX10_who_0 : decode cX10_who 0 = .ok (.aload_n 0, 1) := by decide +kernel
theorem dX10_who_1 : decode cX10_who 1 = .ok (.iload_n 1, 1) := by decide +kernel
theorem dX10_who_2 : decode cX10_who 2 = .ok (.invokevirtual 161, 3) := by decide +kernel
theorem dX10_who_5 : decode cX10_who 5 = .ok (.ifCond .ne 5, 3) := by decide +kernel
theorem dX10_who_8 : decode cX10_who 8 = .ok (.iconst (-1), 1) := by decide +kernel
theorem dX10_who_9 : decode cX10_who 9 = .ok (.ireturn, 1) := by decide +kernel
theorem dX10_who_10 : decode cX10_who 10 = .ok (.aload_n 0, 1) := by decide +kernel
theorem dX10_who_11 : decode cX10_who 11 = .ok (.iload_n 1, 1) := by decide +kernel
theorem dX10_who_12 : decode cX10_who 12 = .ok (.invokevirtual 170, 3) := by decide +kernel
theorem dX10_who_15 : decode cX10_who 15 = .ok (.ifCond .eq 6, 3) := by decide +kernel
theorem dX10_who_18 : decode cX10_who 18 = .ok (.bipush (-2), 2) := by decide +kernel
theorem dX10_who_20 : decode cX10_who 20 = .ok (.ireturn, 1) := by decide +kernel
theorem dX10_who_21 : decode cX10_who 21 = .ok (.aload_n 0, 1) := by decide +kernel
theorem dX10_who_22 : decode cX10_who 22 = .ok (.invokevirtual 223, 3) := by decide +kernel
theorem dX10_who_25 : decode cX10_who 25 = .ok (.istore_n 2, 1) := by decide +kernel
theorem dX10_who_26 : decode cX10_who 26 = .ok (.iconst 0, 1) := by decide +kernel
theorem dX10_who_27 : decode cX10_who 27 = .ok (.istore_n 3, 1) := by decide +kernel
theorem dX10_who_28 : decode cX10_who 28 = .ok (.iload_n 3, 1) := by decide +kernel
theorem dX10_who_29 : decode cX10_who 29 = .ok (.aload_n 0, 1) := by decide +kernel
theorem dX10_who_30 : decode cX10_who 30 = .ok (.getfield 75, 3) := by decide +kernel
theorem dX10_who_33 : decode cX10_who 33 = .ok (.if_icmp .ge 27, 3) := by decide +kernel
theorem dX10_who_36 : decode cX10_who 36 = .ok (.iload_n 2, 1) := by decide +kernel
theorem dX10_who_37 : decode cX10_who 37 = .ok (.ifCond .le 23, 3) := by decide +kernel
theorem dX10_who_40 : decode cX10_who 40 = .ok (.aload_n 0, 1) := by decide +kernel
theorem dX10_who_41 : decode cX10_who 41 = .ok (.getfield 64, 3) := by decide +kernel
theorem dX10_who_44 : decode cX10_who 44 = .ok (.iload_n 1, 1) := by decide +kernel
theorem dX10_who_45 : decode cX10_who 45 = .ok (.iaload, 1) := by decide +kernel
theorem dX10_who_46 : decode cX10_who 46 = .ok (.iconst 1, 1) := by decide +kernel
theorem dX10_who_47 : decode cX10_who 47 = .ok (.iload_n 3, 1) := by decide +kernel
theorem dX10_who_48 : decode cX10_who 48 = .ok (.ishl, 1) := by decide +kernel
theorem dX10_who_49 : decode cX10_who 49 = .ok (.if_icmp .ne 5, 3) := by decide +kernel
theorem dX10_who_52 : decode cX10_who 52 = .ok (.iload_n 3, 1) := by decide +kernel
theorem dX10_who_53 : decode cX10_who 53 = .ok (.ireturn, 1) := by decide +kernel
theorem dX10_who_54 : decode cX10_who 54 = .ok (.iinc 3 1, 3) := by decide +kernel
theorem dX10_who_57 : decode cX10_who 57 = .ok (.goto (-29), 3) := by decide +kernel
theorem dX10_who_60 : decode cX10_who 60 = .ok (.bipush (-9), 2) := by decide +kernel
theorem dX10_who_62 : decode cX10_who 62 = .ok (.ireturn, 1) := by decide +kernel
theorem dX10_mark_0 : decode cX10_mark 0 = .ok (.iload_n 1, 1) := by decide +kernel
theorem dX10_mark_1 : decode cX10_mark 1 = .ok (.i2l, 1) := by decide +kernel
theorem dX10_mark_2 : decode cX10_mark 2 = .ok (.lconst 0, 1) := by decide +kernel
theorem dX10_mark_3 : decode cX10_mark 3 = .ok (.ldc2_w 164, 3) := by decide +kernel
theorem dX10_mark_6 : decode cX10_mark 6 = .ok (.invokestatic 71, 3) := by decide +kernel
theorem dX10_mark_9 : decode cX10_mark 9 = .ok (.ifCond .eq 11, 3) := by decide +kernel
theorem dX10_mark_12 : decode cX10_mark 12 = .ok (.aload_n 0, 1) := by decide +kernel
theorem dX10_mark_13 : decode cX10_mark 13 = .ok (.iload_n 2, 1) := by decide +kernel
theorem dX10_mark_14 : decode cX10_mark 14 = .ok (.invokevirtual 173, 3) := by decide +kernel
theorem dX10_mark_17 : decode cX10_mark 17 = .ok (.ifCond .ne 6, 3) := by decide +kernel
theorem dX10_mark_20 : decode cX10_mark 20 = .ok (.ldc 226, 2) := by decide +kernel
theorem dX10_mark_22 : decode cX10_mark 22 = .ok (.ireturn, 1) := by decide +kernel
theorem dX10_mark_23 : decode cX10_mark 23 = .ok (.aload_n 0, 1) := by decide +kernel
theorem dX10_mark_24 : decode cX10_mark 24 = .ok (.aload_n 0, 1) := by decide +kernel
theorem dX10_mark_25 : decode cX10_mark 25 = .ok (.getfield 31, 3) := by decide +kernel
theorem dX10_mark_28 : decode cX10_mark 28 = .ok (.iload_n 2, 1) := by decide +kernel
theorem dX10_mark_29 : decode cX10_mark 29 = .ok (.invokevirtual 178, 3) := by decide +kernel
theorem dX10_mark_32 : decode cX10_mark 32 = .ok (.istore_n 3, 1) := by decide +kernel
theorem dX10_mark_33 : decode cX10_mark 33 = .ok (.aload_n 0, 1) := by decide +kernel
theorem dX10_mark_34 : decode cX10_mark 34 = .ok (.iload_n 2, 1) := by decide +kernel
theorem dX10_mark_35 : decode cX10_mark 35 = .ok (.iload_n 3, 1) := by decide +kernel
theorem dX10_mark_36 : decode cX10_mark 36 = .ok (.invokevirtual 192, 3) := by decide +kernel
theorem dX10_mark_39 : decode cX10_mark 39 = .ok (.istore 4, 2) := by decide +kernel
theorem dX10_mark_41 : decode cX10_mark 41 = .ok (.iconst 0, 1) := by decide +kernel
theorem dX10_mark_42 : decode cX10_mark 42 = .ok (.istore 5, 2) := by decide +kernel
theorem dX10_mark_44 : decode cX10_mark 44 = .ok (.iconst 0, 1) := by decide +kernel
theorem dX10_mark_45 : decode cX10_mark 45 = .ok (.istore 6, 2) := by decide +kernel
theorem dX10_mark_47 : decode cX10_mark 47 = .ok (.iload 6, 2) := by decide +kernel
theorem dX10_mark_49 : decode cX10_mark 49 = .ok (.aload_n 0, 1) := by decide +kernel
theorem dX10_mark_50 : decode cX10_mark 50 = .ok (.getfield 67, 3) := by decide +kernel
theorem dX10_mark_53 : decode cX10_mark 53 = .ok (.if_icmp .ge 35, 3) := by decide +kernel
theorem dX10_mark_56 : decode cX10_mark 56 = .ok (.iload 5, 2) := by decide +kernel
theorem dX10_mark_58 : decode cX10_mark 58 = .ok (.iload_n 3, 1) := by decide +kernel
theorem dX10_mark_59 : decode cX10_mark 59 = .ok (.iload 6, 2) := by decide +kernel
theorem dX10_mark_61 : decode cX10_mark 61 = .ok (.ishr, 1) := by decide +kernel
theorem dX10_mark_62 : decode cX10_mark 62 = .ok (.iconst 1, 1) := by decide +kernel
theorem dX10_mark_63 : decode cX10_mark 63 = .ok (.iand, 1) := by decide +kernel
theorem dX10_mark_64 : decode cX10_mark 64 = .ok (.iconst 1, 1) := by decide +kernel
theorem dX10_mark_65 : decode cX10_mark 65 = .ok (.if_icmp .ne 13, 3) := by decide +kernel
theorem dX10_mark_68 : decode cX10_mark 68 = .ok (.aload_n 0, 1) := by decide +kernel
theorem dX10_mark_69 : decode cX10_mark 69 = .ok (.getfield 19, 3) := by decide +kernel
theorem dX10_mark_72 : decode cX10_mark 72 = .ok (.iload 6, 2) := by decide +kernel
theorem dX10_mark_74 : decode cX10_mark 74 = .ok (.iaload, 1) := by decide +kernel
theorem dX10_mark_75 : decode cX10_mark 75 = .ok (.goto 4, 3) := by decide +kernel
theorem dX10_mark_78 : decode cX10_mark 78 = .ok (.iconst 0, 1) := by decide +kernel
theorem dX10_mark_79 : decode cX10_mark 79 = .ok (.iadd, 1) := by decide +kernel
theorem dX10_mark_80 : decode cX10_mark 80 = .ok (.istore 5, 2) := by decide +kernel
theorem dX10_mark_82 : decode cX10_mark 82 = .ok (.iinc 6 1, 3) := by decide +kernel
theorem dX10_mark_85 : decode cX10_mark 85 = .ok (.goto (-38), 3) := by decide +kernel
theorem dX10_mark_88 : decode cX10_mark 88 = .ok (.aload_n 0, 1) := by decide +kernel
theorem dX10_mark_89 : decode cX10_mark 89 = .ok (.getfield 28, 3) := by decide +kernel
theorem dX10_mark_92 : decode cX10_mark 92 = .ok (.iload_n 2, 1) := by decide +kernel
theorem dX10_mark_93 : decode cX10_mark 93 = .ok (.iaload, 1) := by decide +kernel
theorem dX10_mark_94 : decode cX10_mark 94 = .ok (.iload_n 3, 1) := by decide +kernel
theorem dX10_mark_95 : decode cX10_mark 95 = .ok (.invokestatic 182, 3) := by decide +kernel
theorem dX10_mark_98 : decode cX10_mark 98 = .ok (.iadd, 1) := by decide +kernel
theorem dX10_mark_99 : decode cX10_mark 99 = .ok (.istore 6, 2) := by decide +kernel
theorem dX10_mark_101 : decode cX10_mark 101 = .ok (.aload_n 0, 1) := by decide +kernel
theorem dX10_mark_102 : decode cX10_mark 102 = .ok (.getfield 28, 3) := by decide +kernel
theorem dX10_mark_105 : decode cX10_mark 105 = .ok (.iload_n 2, 1) := by decide +kernel
theorem dX10_mark_106 : decode cX10_mark 106 = .ok (.iaload, 1) := by decide +kernel
theorem dX10_mark_107 : decode cX10_mark 107 = .ok (.iload 4, 2) := by decide +kernel
theorem dX10_mark_109 : decode cX10_mark 109 = .ok (.bipush (-9), 2) := by decide +kernel
theorem dX10_mark_111 : decode cX10_mark 111 = .ok (.if_icmp .ne 7, 3) := by decide +kernel
theorem dX10_mark_114 : decode cX10_mark 114 = .ok (.iconst 0, 1) := by decide +kernel
theorem dX10_mark_115 : decode cX10_mark 115 = .ok (.goto 5, 3) := by decide +kernel
theorem dX10_mark_118 : decode cX10_mark 118 = .ok (.iload 4, 2) := by decide +kernel
theorem dX10_mark_120 : decode cX10_mark 120 = .ok (.iadd, 1) := by decide +kernel
theorem dX10_mark_121 : decode cX10_mark 121 = .ok (.istore 7, 2) := by decide +kernel
theorem dX10_mark_123 : decode cX10_mark 123 = .ok (.aload_n 0, 1) := by decide +kernel
theorem dX10_mark_124 : decode cX10_mark 124 = .ok (.dup, 1) := by decide +kernel
theorem dX10_mark_125 : decode cX10_mark 125 = .ok (.getfield 227, 3) := by decide +kernel
theorem dX10_mark_128 : decode cX10_mark 128 = .ok (.iload_n 1, 1) := by decide +kernel
theorem dX10_mark_129 : decode cX10_mark 129 = .ok (.ifCond .ne 7, 3) := by decide +kernel
theorem dX10_mark_132 : decode cX10_mark 132 = .ok (.lconst 1, 1) := by decide +kernel
theorem dX10_mark_133 : decode cX10_mark 133 = .ok (.goto 50, 3) := by decide +kernel
theorem dX10_mark_136 : decode cX10_mark 136 = .ok (.iload_n 1, 1) := by decide +kernel
theorem dX10_mark_137 : decode cX10_mark 137 = .ok (.iconst 1, 1) := by decide +kernel
theorem dX10_mark_138 : decode cX10_mark 138 = .ok (.if_icmp .ne 9, 3) := by decide +kernel
theorem dX10_mark_141 : decode cX10_mark 141 = .ok (.ldc2_w 230, 3) := by decide +kernel
theorem dX10_mark_144 : decode cX10_mark 144 = .ok (.goto 39, 3) := by decide +kernel
theorem dX10_mark_147 : decode cX10_mark 147 = .ok (.iload_n 1, 1) := by decide +kernel
theorem dX10_mark_148 : decode cX10_mark 148 = .ok (.iconst 2, 1) := by decide +kernel
theorem dX10_mark_149 : decode cX10_mark 149 = .ok (.if_icmp .ne 9, 3) := by decide +kernel
theorem dX10_mark_152 : decode cX10_mark 152 = .ok (.ldc2_w 232, 3) := by decide +kernel
theorem dX10_mark_155 : decode cX10_mark 155 = .ok (.goto 28, 3) := by decide +kernel
theorem dX10_mark_158 : decode cX10_mark 158 = .ok (.iload_n 1, 1) := by decide +kernel
theorem dX10_mark_159 : decode cX10_mark 159 = .ok (.iconst 3, 1) := by decide +kernel
theorem dX10_mark_160 : decode cX10_mark 160 = .ok (.if_icmp .ne 9, 3) := by decide +kernel
theorem dX10_mark_163 : decode cX10_mark 163 = .ok (.ldc2_w 234, 3) := by decide +kernel
theorem dX10_mark_166 : decode cX10_mark 166 = .ok (.goto 17, 3) := by decide +kernel
theorem dX10_mark_169 : decode cX10_mark 169 = .ok (.iload_n 1, 1) := by decide +kernel
theorem dX10_mark_170 : decode cX10_mark 170 = .ok (.iconst 4, 1) := by decide +kernel
theorem dX10_mark_171 : decode cX10_mark 171 = .ok (.if_icmp .ne 9, 3) := by decide +kernel
theorem dX10_mark_174 : decode cX10_mark 174 = .ok (.ldc2_w 236, 3) := by decide +kernel
theorem dX10_mark_177 : decode cX10_mark 177 = .ok (.goto 6, 3) := by decide +kernel
theorem dX10_mark_180 : decode cX10_mark 180 = .ok (.ldc2_w 238, 3) := by decide +kernel
theorem dX10_mark_183 : decode cX10_mark 183 = .ok (.ladd, 1) := by decide +kernel
theorem dX10_mark_184 : decode cX10_mark 184 = .ok (.putfield 227, 3) := by decide +kernel
theorem dX10_mark_187 : decode cX10_mark 187 = .ok (.iload_n 1, 1) := by decide +kernel
theorem dX10_mark_188 : decode cX10_mark 188 = .ok (.ifCond .ne 12, 3) := by decide +kernel
theorem dX10_mark_191 : decode cX10_mark 191 = .ok (.aload_n 0, 1) := by decide +kernel
theorem dX10_mark_192 : decode cX10_mark 192 = .ok (.getfield 28, 3) := by decide +kernel
theorem dX10_mark_195 : decode cX10_mark 195 = .ok (.iload_n 2, 1) := by decide +kernel
theorem dX10_mark_196 : decode cX10_mark 196 = .ok (.iaload, 1) := by decide +kernel
theorem dX10_mark_197 : decode cX10_mark 197 = .ok (.goto 61, 3) := by decide +kernel
theorem dX10_mark_200 : decode cX10_mark 200 = .ok (.iload_n 1, 1) := by decide +kernel
theorem dX10_mark_201 : decode cX10_mark 201 = .ok (.iconst 1, 1) := by decide +kernel
theorem dX10_mark_202 : decode cX10_mark 202 = .ok (.if_icmp .ne 8, 3) := by decide +kernel
theorem dX10_mark_205 : decode cX10_mark 205 = .ok (.iload 6, 2) := by decide +kernel
theorem dX10_mark_207 : decode cX10_mark 207 = .ok (.goto 51, 3) := by decide +kernel
theorem dX10_mark_210 : decode cX10_mark 210 = .ok (.iload_n 1, 1) := by decide +kernel
theorem dX10_mark_211 : decode cX10_mark 211 = .ok (.iconst 2, 1) := by decide +kernel
theorem dX10_mark_212 : decode cX10_mark 212 = .ok (.if_icmp .ne 8, 3) := by decide +kernel
theorem dX10_mark_215 : decode cX10_mark 215 = .ok (.iload 7, 2) := by decide +kernel
theorem dX10_mark_217 : decode cX10_mark 217 = .ok (.goto 41, 3) := by decide +kernel
theorem dX10_mark_220 : decode cX10_mark 220 = .ok (.iload_n 1, 1) := by decide +kernel
theorem dX10_mark_221 : decode cX10_mark 221 = .ok (.iconst 3, 1) := by decide +kernel
theorem dX10_mark_222 : decode cX10_mark 222 = .ok (.if_icmp .ne 10, 3) := by decide +kernel
theorem dX10_mark_225 : decode cX10_mark 225 = .ok (.iconst 2, 1) := by decide +kernel
theorem dX10_mark_226 : decode cX10_mark 226 = .ok (.iload 6, 2) := by decide +kernel
theorem dX10_mark_228 : decode cX10_mark 228 = .ok (.imul, 1) := by decide +kernel
theorem dX10_mark_229 : decode cX10_mark 229 = .ok (.goto 29, 3) := by decide +kernel
theorem dX10_mark_232 : decode cX10_mark 232 = .ok (.iload_n 1, 1) := by decide +kernel
theorem dX10_mark_233 : decode cX10_mark 233 = .ok (.iconst 4, 1) := by decide +kernel
theorem dX10_mark_234 : decode cX10_mark 234 = .ok (.if_icmp .ne 11, 3) := by decide +kernel
theorem dX10_mark_237 : decode cX10_mark 237 = .ok (.iload 7, 2) := by decide +kernel
theorem dX10_mark_239 : decode cX10_mark 239 = .ok (.iload 5, 2) := by decide +kernel
theorem dX10_mark_241 : decode cX10_mark 241 = .ok (.isub, 1) := by decide +kernel
theorem dX10_mark_242 : decode cX10_mark 242 = .ok (.goto 16, 3) := by decide +kernel
theorem dX10_mark_245 : decode cX10_mark 245 = .ok (.aload_n 0, 1) := by decide +kernel
theorem dX10_mark_246 : decode cX10_mark 246 = .ok (.getfield 28, 3) := by decide +kernel
theorem dX10_mark_249 : decode cX10_mark 249 = .ok (.iload_n 2, 1) := by decide +kernel
theorem dX10_mark_250 : decode cX10_mark 250 = .ok (.iaload, 1) := by decide +kernel
theorem dX10_mark_251 : decode cX10_mark 251 = .ok (.aload_n 0, 1) := by decide +kernel
theorem dX10_mark_252 : decode cX10_mark 252 = .ok (.getfield 22, 3) := by decide +kernel
theorem dX10_mark_255 : decode cX10_mark 255 = .ok (.iload_n 2, 1) := by decide +kernel
theorem dX10_mark_256 : decode cX10_mark 256 = .ok (.iaload, 1) := by decide +kernel
theorem dX10_mark_257 : decode cX10_mark 257 = .ok (.iadd, 1) := by decide +kernel
theorem dX10_mark_258 : decode cX10_mark 258 = .ok (.ireturn, 1) := by decide +kernel
theorem dX10_owned_0 : decode cX10_owned 0 = .ok (.iconst 0, 1) := by decide +kernel
theorem dX10_owned_1 : decode cX10_owned 1 = .ok (.istore_n 1, 1) := by decide +kernel
theorem dX10_owned_2 : decode cX10_owned 2 = .ok (.iconst 0, 1) := by decide +kernel
theorem dX10_owned_3 : decode cX10_owned 3 = .ok (.istore_n 2, 1) := by decide +kernel
theorem dX10_owned_4 : decode cX10_owned 4 = .ok (.iload_n 2, 1) := by decide +kernel
theorem dX10_owned_5 : decode cX10_owned 5 = .ok (.aload_n 0, 1) := by decide +kernel
theorem dX10_owned_6 : decode cX10_owned 6 = .ok (.getfield 67, 3) := by decide +kernel
theorem dX10_owned_9 : decode cX10_owned 9 = .ok (.if_icmp .ge 26, 3) := by decide +kernel
theorem dX10_owned_12 : decode cX10_owned 12 = .ok (.iload_n 1, 1) := by decide +kernel
theorem dX10_owned_13 : decode cX10_owned 13 = .ok (.aload_n 0, 1) := by decide +kernel
theorem dX10_owned_14 : decode cX10_owned 14 = .ok (.getfield 31, 3) := by decide +kernel
theorem dX10_owned_17 : decode cX10_owned 17 = .ok (.iload_n 2, 1) := by decide +kernel
theorem dX10_owned_18 : decode cX10_owned 18 = .ok (.iaload, 1) := by decide +kernel
theorem dX10_owned_19 : decode cX10_owned 19 = .ok (.ifCond .ge 7, 3) := by decide +kernel
theorem dX10_owned_22 : decode cX10_owned 22 = .ok (.iconst 0, 1) := by decide +kernel
theorem dX10_owned_23 : decode cX10_owned 23 = .ok (.goto 4, 3) := by decide +kernel
theorem dX10_owned_26 : decode cX10_owned 26 = .ok (.iconst 1, 1) := by decide +kernel
theorem dX10_owned_27 : decode cX10_owned 27 = .ok (.iadd, 1) := by decide +kernel
theorem dX10_owned_28 : decode cX10_owned 28 = .ok (.istore_n 1, 1) := by decide +kernel
theorem dX10_owned_29 : decode cX10_owned 29 = .ok (.iinc 2 1, 3) := by decide +kernel
theorem dX10_owned_32 : decode cX10_owned 32 = .ok (.goto (-28), 3) := by decide +kernel
theorem dX10_owned_35 : decode cX10_owned 35 = .ok (.iload_n 1, 1) := by decide +kernel
theorem dX10_owned_36 : decode cX10_owned 36 = .ok (.ireturn, 1) := by decide +kernel
theorem dX10_keep_0 : decode cX10_keep 0 = .ok (.iload_n 1, 1) := by decide +kernel
theorem dX10_keep_1 : decode cX10_keep 1 = .ok (.i2l, 1) := by decide +kernel
theorem dX10_keep_2 : decode cX10_keep 2 = .ok (.lconst 0, 1) := by decide +kernel
theorem dX10_keep_3 : decode cX10_keep 3 = .ok (.lconst 1, 1) := by decide +kernel
theorem dX10_keep_4 : decode cX10_keep 4 = .ok (.invokestatic 71, 3) := by decide +kernel
theorem dX10_keep_7 : decode cX10_keep 7 = .ok (.ifCond .ne 5, 3) := by decide +kernel
theorem dX10_keep_10 : decode cX10_keep 10 = .ok (.iconst (-1), 1) := by decide +kernel
theorem dX10_keep_11 : decode cX10_keep 11 = .ok (.ireturn, 1) := by decide +kernel
theorem dX10_keep_12 : decode cX10_keep 12 = .ok (.bipush 40, 2) := by decide +kernel
theorem dX10_keep_14 : decode cX10_keep 14 = .ok (.iload_n 1, 1) := by decide +kernel
theorem dX10_keep_15 : decode cX10_keep 15 = .ok (.imul, 1) := by decide +kernel
theorem dX10_keep_16 : decode cX10_keep 16 = .ok (.istore_n 2, 1) := by decide +kernel
theorem dX10_keep_17 : decode cX10_keep 17 = .ok (.aload_n 0, 1) := by decide +kernel
theorem dX10_keep_18 : decode cX10_keep 18 = .ok (.getfield 43, 3) := by decide +kernel
theorem dX10_keep_21 : decode cX10_keep 21 = .ok (.iload_n 2, 1) := by decide +kernel
theorem dX10_keep_22 : decode cX10_keep 22 = .ok (.iconst 1, 1) := by decide +kernel
theorem dX10_keep_23 : decode cX10_keep 23 = .ok (.iastore, 1) := by decide +kernel
theorem dX10_keep_24 : decode cX10_keep 24 = .ok (.iconst 0, 1) := by decide +kernel
theorem dX10_keep_25 : decode cX10_keep 25 = .ok (.istore_n 3, 1) := by decide +kernel
theorem dX10_keep_26 : decode cX10_keep 26 = .ok (.iload_n 3, 1) := by decide +kernel
theorem dX10_keep_27 : decode cX10_keep 27 = .ok (.aload_n 0, 1) := by decide +kernel
theorem dX10_keep_28 : decode cX10_keep 28 = .ok (.getfield 67, 3) := by decide +kernel
theorem dX10_keep_31 : decode cX10_keep 31 = .ok (.if_icmp .ge 42, 3) := by decide +kernel
theorem dX10_keep_34 : decode cX10_keep 34 = .ok (.aload_n 0, 1) := by decide +kernel
theorem dX10_keep_35 : decode cX10_keep 35 = .ok (.getfield 43, 3) := by decide +kernel
theorem dX10_keep_38 : decode cX10_keep 38 = .ok (.iload_n 2, 1) := by decide +kernel
theorem dX10_keep_39 : decode cX10_keep 39 = .ok (.iconst 1, 1) := by decide +kernel
theorem dX10_keep_40 : decode cX10_keep 40 = .ok (.iadd, 1) := by decide +kernel
theorem dX10_keep_41 : decode cX10_keep 41 = .ok (.iload_n 3, 1) := by decide +kernel
theorem dX10_keep_42 : decode cX10_keep 42 = .ok (.iadd, 1) := by decide +kernel
theorem dX10_keep_43 : decode cX10_keep 43 = .ok (.aload_n 0, 1) := by decide +kernel
theorem dX10_keep_44 : decode cX10_keep 44 = .ok (.getfield 31, 3) := by decide +kernel
theorem dX10_keep_47 : decode cX10_keep 47 = .ok (.iload_n 3, 1) := by decide +kernel
theorem dX10_keep_48 : decode cX10_keep 48 = .ok (.iaload, 1) := by decide +kernel
theorem dX10_keep_49 : decode cX10_keep 49 = .ok (.iastore, 1) := by decide +kernel
theorem dX10_keep_50 : decode cX10_keep 50 = .ok (.aload_n 0, 1) := by decide +kernel
theorem dX10_keep_51 : decode cX10_keep 51 = .ok (.getfield 43, 3) := by decide +kernel
theorem dX10_keep_54 : decode cX10_keep 54 = .ok (.iload_n 2, 1) := by decide +kernel
theorem dX10_keep_55 : decode cX10_keep 55 = .ok (.bipush 9, 2) := by decide +kernel
theorem dX10_keep_57 : decode cX10_keep 57 = .ok (.iadd, 1) := by decide +kernel
theorem dX10_keep_58 : decode cX10_keep 58 = .ok (.iload_n 3, 1) := by decide +kernel
theorem dX10_keep_59 : decode cX10_keep 59 = .ok (.iadd, 1) := by decide +kernel
theorem dX10_keep_60 : decode cX10_keep 60 = .ok (.aload_n 0, 1) := by decide +kernel
theorem dX10_keep_61 : decode cX10_keep 61 = .ok (.getfield 34, 3) := by decide +kernel
theorem dX10_keep_64 : decode cX10_keep 64 = .ok (.iload_n 3, 1) := by decide +kernel
theorem dX10_keep_65 : decode cX10_keep 65 = .ok (.iaload, 1) := by decide +kernel
theorem dX10_keep_66 : decode cX10_keep 66 = .ok (.iastore, 1) := by decide +kernel
theorem dX10_keep_67 : decode cX10_keep 67 = .ok (.iinc 3 1, 3) := by decide +kernel
theorem dX10_keep_70 : decode cX10_keep 70 = .ok (.goto (-44), 3) := by decide +kernel
theorem dX10_keep_73 : decode cX10_keep 73 = .ok (.aload_n 0, 1) := by decide +kernel
theorem dX10_keep_74 : decode cX10_keep 74 = .ok (.getfield 43, 3) := by decide +kernel
theorem dX10_keep_77 : decode cX10_keep 77 = .ok (.iload_n 2, 1) := by decide +kernel
theorem dX10_keep_78 : decode cX10_keep 78 = .ok (.bipush 17, 2) := by decide +kernel
theorem dX10_keep_80 : decode cX10_keep 80 = .ok (.iadd, 1) := by decide +kernel
theorem dX10_keep_81 : decode cX10_keep 81 = .ok (.aload_n 0, 1) := by decide +kernel
theorem dX10_keep_82 : decode cX10_keep 82 = .ok (.getfield 158, 3) := by decide +kernel
theorem dX10_keep_85 : decode cX10_keep 85 = .ok (.iastore, 1) := by decide +kernel
theorem dX10_keep_86 : decode cX10_keep 86 = .ok (.iconst 0, 1) := by decide +kernel
theorem dX10_keep_87 : decode cX10_keep 87 = .ok (.istore_n 3, 1) := by decide +kernel
theorem dX10_keep_88 : decode cX10_keep 88 = .ok (.iload_n 3, 1) := by decide +kernel
theorem dX10_keep_89 : decode cX10_keep 89 = .ok (.aload_n 0, 1) := by decide +kernel
theorem dX10_keep_90 : decode cX10_keep 90 = .ok (.getfield 158, 3) := by decide +kernel
theorem dX10_keep_93 : decode cX10_keep 93 = .ok (.if_icmp .ge 43, 3) := by decide +kernel
theorem dX10_keep_96 : decode cX10_keep 96 = .ok (.aload_n 0, 1) := by decide +kernel
theorem dX10_keep_97 : decode cX10_keep 97 = .ok (.getfield 43, 3) := by decide +kernel
theorem dX10_keep_100 : decode cX10_keep 100 = .ok (.iload_n 2, 1) := by decide +kernel
theorem dX10_keep_101 : decode cX10_keep 101 = .ok (.bipush 18, 2) := by decide +kernel
theorem dX10_keep_103 : decode cX10_keep 103 = .ok (.iadd, 1) := by decide +kernel
theorem dX10_keep_104 : decode cX10_keep 104 = .ok (.iload_n 3, 1) := by decide +kernel
theorem dX10_keep_105 : decode cX10_keep 105 = .ok (.iadd, 1) := by decide +kernel
theorem dX10_keep_106 : decode cX10_keep 106 = .ok (.aload_n 0, 1) := by decide +kernel
theorem dX10_keep_107 : decode cX10_keep 107 = .ok (.getfield 37, 3) := by decide +kernel
theorem dX10_keep_110 : decode cX10_keep 110 = .ok (.iload_n 3, 1) := by decide +kernel
theorem dX10_keep_111 : decode cX10_keep 111 = .ok (.iaload, 1) := by decide +kernel
theorem dX10_keep_112 : decode cX10_keep 112 = .ok (.iastore, 1) := by decide +kernel
theorem dX10_keep_113 : decode cX10_keep 113 = .ok (.aload_n 0, 1) := by decide +kernel
theorem dX10_keep_114 : decode cX10_keep 114 = .ok (.getfield 43, 3) := by decide +kernel
theorem dX10_keep_117 : decode cX10_keep 117 = .ok (.iload_n 2, 1) := by decide +kernel
theorem dX10_keep_118 : decode cX10_keep 118 = .ok (.bipush 28, 2) := by decide +kernel
theorem dX10_keep_120 : decode cX10_keep 120 = .ok (.iadd, 1) := by decide +kernel
theorem dX10_keep_121 : decode cX10_keep 121 = .ok (.iload_n 3, 1) := by decide +kernel
theorem dX10_keep_122 : decode cX10_keep 122 = .ok (.iadd, 1) := by decide +kernel
theorem dX10_keep_123 : decode cX10_keep 123 = .ok (.aload_n 0, 1) := by decide +kernel
theorem dX10_keep_124 : decode cX10_keep 124 = .ok (.getfield 40, 3) := by decide +kernel
theorem dX10_keep_127 : decode cX10_keep 127 = .ok (.iload_n 3, 1) := by decide +kernel
theorem dX10_keep_128 : decode cX10_keep 128 = .ok (.iaload, 1) := by decide +kernel
theorem dX10_keep_129 : decode cX10_keep 129 = .ok (.iastore, 1) := by decide +kernel
theorem dX10_keep_130 : decode cX10_keep 130 = .ok (.iinc 3 1, 3) := by decide +kernel
theorem dX10_keep_133 : decode cX10_keep 133 = .ok (.goto (-45), 3) := by decide +kernel
theorem dX10_keep_136 : decode cX10_keep 136 = .ok (.aload_n 0, 1) := by decide +kernel
theorem dX10_keep_137 : decode cX10_keep 137 = .ok (.invokevirtual 240, 3) := by decide +kernel
theorem dX10_keep_140 : decode cX10_keep 140 = .ok (.ireturn, 1) := by decide +kernel
theorem dX10_back_0 : decode cX10_back 0 = .ok (.iload_n 1, 1) := by decide +kernel
theorem dX10_back_1 : decode cX10_back 1 = .ok (.i2l, 1) := by decide +kernel
theorem dX10_back_2 : decode cX10_back 2 = .ok (.lconst 0, 1) := by decide +kernel
theorem dX10_back_3 : decode cX10_back 3 = .ok (.lconst 1, 1) := by decide +kernel
theorem dX10_back_4 : decode cX10_back 4 = .ok (.invokestatic 71, 3) := by decide +kernel
theorem dX10_back_7 : decode cX10_back 7 = .ok (.ifCond .ne 5, 3) := by decide +kernel
theorem dX10_back_10 : decode cX10_back 10 = .ok (.iconst (-1), 1) := by decide +kernel
theorem dX10_back_11 : decode cX10_back 11 = .ok (.ireturn, 1) := by decide +kernel
theorem dX10_back_12 : decode cX10_back 12 = .ok (.bipush 40, 2) := by decide +kernel
theorem dX10_back_14 : decode cX10_back 14 = .ok (.iload_n 1, 1) := by decide +kernel
theorem dX10_back_15 : decode cX10_back 15 = .ok (.imul, 1) := by decide +kernel
theorem dX10_back_16 : decode cX10_back 16 = .ok (.istore_n 2, 1) := by decide +kernel
theorem dX10_back_17 : decode cX10_back 17 = .ok (.aload_n 0, 1) := by decide +kernel
theorem dX10_back_18 : decode cX10_back 18 = .ok (.getfield 43, 3) := by decide +kernel
theorem dX10_back_21 : decode cX10_back 21 = .ok (.iload_n 2, 1) := by decide +kernel
theorem dX10_back_22 : decode cX10_back 22 = .ok (.iaload, 1) := by decide +kernel
theorem dX10_back_23 : decode cX10_back 23 = .ok (.ifCond .ne 6, 3) := by decide +kernel
theorem dX10_back_26 : decode cX10_back 26 = .ok (.bipush (-2), 2) := by decide +kernel
theorem dX10_back_28 : decode cX10_back 28 = .ok (.ireturn, 1) := by decide +kernel
theorem dX10_back_29 : decode cX10_back 29 = .ok (.iconst 0, 1) := by decide +kernel
theorem dX10_back_30 : decode cX10_back 30 = .ok (.istore_n 3, 1) := by decide +kernel
theorem dX10_back_31 : decode cX10_back 31 = .ok (.iload_n 3, 1) := by decide +kernel
theorem dX10_back_32 : decode cX10_back 32 = .ok (.aload_n 0, 1) := by decide +kernel
theorem dX10_back_33 : decode cX10_back 33 = .ok (.getfield 67, 3) := by decide +kernel
theorem dX10_back_36 : decode cX10_back 36 = .ok (.if_icmp .ge 42, 3) := by decide +kernel
theorem dX10_back_39 : decode cX10_back 39 = .ok (.aload_n 0, 1) := by decide +kernel
theorem dX10_back_40 : decode cX10_back 40 = .ok (.getfield 31, 3) := by decide +kernel
theorem dX10_back_43 : decode cX10_back 43 = .ok (.iload_n 3, 1) := by decide +kernel
theorem dX10_back_44 : decode cX10_back 44 = .ok (.aload_n 0, 1) := by decide +kernel
theorem dX10_back_45 : decode cX10_back 45 = .ok (.getfield 43, 3) := by decide +kernel
theorem dX10_back_48 : decode cX10_back 48 = .ok (.iload_n 2, 1) := by decide +kernel
theorem dX10_back_49 : decode cX10_back 49 = .ok (.iconst 1, 1) := by decide +kernel
theorem dX10_back_50 : decode cX10_back 50 = .ok (.iadd, 1) := by decide +kernel
theorem dX10_back_51 : decode cX10_back 51 = .ok (.iload_n 3, 1) := by decide +kernel
theorem dX10_back_52 : decode cX10_back 52 = .ok (.iadd, 1) := by decide +kernel
theorem dX10_back_53 : decode cX10_back 53 = .ok (.iaload, 1) := by decide +kernel
theorem dX10_back_54 : decode cX10_back 54 = .ok (.iastore, 1) := by decide +kernel
theorem dX10_back_55 : decode cX10_back 55 = .ok (.aload_n 0, 1) := by decide +kernel
theorem dX10_back_56 : decode cX10_back 56 = .ok (.getfield 34, 3) := by decide +kernel
theorem dX10_back_59 : decode cX10_back 59 = .ok (.iload_n 3, 1) := by decide +kernel
theorem dX10_back_60 : decode cX10_back 60 = .ok (.aload_n 0, 1) := by decide +kernel
theorem dX10_back_61 : decode cX10_back 61 = .ok (.getfield 43, 3) := by decide +kernel
theorem dX10_back_64 : decode cX10_back 64 = .ok (.iload_n 2, 1) := by decide +kernel
theorem dX10_back_65 : decode cX10_back 65 = .ok (.bipush 9, 2) := by decide +kernel
theorem dX10_back_67 : decode cX10_back 67 = .ok (.iadd, 1) := by decide +kernel
theorem dX10_back_68 : decode cX10_back 68 = .ok (.iload_n 3, 1) := by decide +kernel
theorem dX10_back_69 : decode cX10_back 69 = .ok (.iadd, 1) := by decide +kernel
theorem dX10_back_70 : decode cX10_back 70 = .ok (.iaload, 1) := by decide +kernel
theorem dX10_back_71 : decode cX10_back 71 = .ok (.iastore, 1) := by decide +kernel
theorem dX10_back_72 : decode cX10_back 72 = .ok (.iinc 3 1, 3) := by decide +kernel
theorem dX10_back_75 : decode cX10_back 75 = .ok (.goto (-44), 3) := by decide +kernel
theorem dX10_back_78 : decode cX10_back 78 = .ok (.aload_n 0, 1) := by decide +kernel
theorem dX10_back_79 : decode cX10_back 79 = .ok (.aload_n 0, 1) := by decide +kernel
theorem dX10_back_80 : decode cX10_back 80 = .ok (.getfield 43, 3) := by decide +kernel
theorem dX10_back_83 : decode cX10_back 83 = .ok (.iload_n 2, 1) := by decide +kernel
theorem dX10_back_84 : decode cX10_back 84 = .ok (.bipush 17, 2) := by decide +kernel
theorem dX10_back_86 : decode cX10_back 86 = .ok (.iadd, 1) := by decide +kernel
theorem dX10_back_87 : decode cX10_back 87 = .ok (.iaload, 1) := by decide +kernel
theorem dX10_back_88 : decode cX10_back 88 = .ok (.putfield 158, 3) := by decide +kernel
theorem dX10_back_91 : decode cX10_back 91 = .ok (.iconst 0, 1) := by decide +kernel
theorem dX10_back_92 : decode cX10_back 92 = .ok (.istore_n 3, 1) := by decide +kernel
theorem dX10_back_93 : decode cX10_back 93 = .ok (.iload_n 3, 1) := by decide +kernel
theorem dX10_back_94 : decode cX10_back 94 = .ok (.aload_n 0, 1) := by decide +kernel
theorem dX10_back_95 : decode cX10_back 95 = .ok (.getfield 158, 3) := by decide +kernel
theorem dX10_back_98 : decode cX10_back 98 = .ok (.if_icmp .ge 43, 3) := by decide +kernel
theorem dX10_back_101 : decode cX10_back 101 = .ok (.aload_n 0, 1) := by decide +kernel
theorem dX10_back_102 : decode cX10_back 102 = .ok (.getfield 37, 3) := by decide +kernel
theorem dX10_back_105 : decode cX10_back 105 = .ok (.iload_n 3, 1) := by decide +kernel
theorem dX10_back_106 : decode cX10_back 106 = .ok (.aload_n 0, 1) := by decide +kernel
theorem dX10_back_107 : decode cX10_back 107 = .ok (.getfield 43, 3) := by decide +kernel
theorem dX10_back_110 : decode cX10_back 110 = .ok (.iload_n 2, 1) := by decide +kernel
theorem dX10_back_111 : decode cX10_back 111 = .ok (.bipush 18, 2) := by decide +kernel
theorem dX10_back_113 : decode cX10_back 113 = .ok (.iadd, 1) := by decide +kernel
theorem dX10_back_114 : decode cX10_back 114 = .ok (.iload_n 3, 1) := by decide +kernel
theorem dX10_back_115 : decode cX10_back 115 = .ok (.iadd, 1) := by decide +kernel
theorem dX10_back_116 : decode cX10_back 116 = .ok (.iaload, 1) := by decide +kernel
theorem dX10_back_117 : decode cX10_back 117 = .ok (.iastore, 1) := by decide +kernel
theorem dX10_back_118 : decode cX10_back 118 = .ok (.aload_n 0, 1) := by decide +kernel
theorem dX10_back_119 : decode cX10_back 119 = .ok (.getfield 40, 3) := by decide +kernel
theorem dX10_back_122 : decode cX10_back 122 = .ok (.iload_n 3, 1) := by decide +kernel
theorem dX10_back_123 : decode cX10_back 123 = .ok (.aload_n 0, 1) := by decide +kernel
theorem dX10_back_124 : decode cX10_back 124 = .ok (.getfield 43, 3) := by decide +kernel
theorem dX10_back_127 : decode cX10_back 127 = .ok (.iload_n 2, 1) := by decide +kernel
theorem dX10_back_128 : decode cX10_back 128 = .ok (.bipush 28, 2) := by decide +kernel
theorem dX10_back_130 : decode cX10_back 130 = .ok (.iadd, 1) := by decide +kernel
theorem dX10_back_131 : decode cX10_back 131 = .ok (.iload_n 3, 1) := by decide +kernel
theorem dX10_back_132 : decode cX10_back 132 = .ok (.iadd, 1) := by decide +kernel
theorem dX10_back_133 : decode cX10_back 133 = .ok (.iaload, 1) := by decide +kernel
theorem dX10_back_134 : decode cX10_back 134 = .ok (.iastore, 1) := by decide +kernel
theorem dX10_back_135 : decode cX10_back 135 = .ok (.iinc 3 1, 3) := by decide +kernel
theorem dX10_back_138 : decode cX10_back 138 = .ok (.goto (-45), 3) := by decide +kernel
theorem dX10_back_141 : decode cX10_back 141 = .ok (.aload_n 0, 1) := by decide +kernel
theorem dX10_back_142 : decode cX10_back 142 = .ok (.invokevirtual 240, 3) := by decide +kernel
theorem dX10_back_145 : decode cX10_back 145 = .ok (.ireturn, 1) := by decide +kernel
theorem dX10_count_0 : decode cX10_count 0 = .ok (.iload_n 1, 1) := by decide +kernel
theorem dX10_count_1 : decode cX10_count 1 = .ok (.tableswitch 78 0 5 #[39, 44, 49, 54, 68, 73], 39) := by decide +kernel
theorem dX10_count_40 : decode cX10_count 40 = .ok (.aload_n 0, 1) := by decide +kernel
theorem dX10_count_41 : decode cX10_count 41 = .ok (.getfield 67, 3) := by decide +kernel
theorem dX10_count_44 : decode cX10_count 44 = .ok (.ireturn, 1) := by decide +kernel
theorem dX10_count_45 : decode cX10_count 45 = .ok (.aload_n 0, 1) := by decide +kernel
theorem dX10_count_46 : decode cX10_count 46 = .ok (.getfield 75, 3) := by decide +kernel
theorem dX10_count_49 : decode cX10_count 49 = .ok (.ireturn, 1) := by decide +kernel
theorem dX10_count_50 : decode cX10_count 50 = .ok (.aload_n 0, 1) := by decide +kernel
theorem dX10_count_51 : decode cX10_count 51 = .ok (.invokevirtual 240, 3) := by decide +kernel
theorem dX10_count_54 : decode cX10_count 54 = .ok (.ireturn, 1) := by decide +kernel
theorem dX10_count_55 : decode cX10_count 55 = .ok (.aload_n 0, 1) := by decide +kernel
theorem dX10_count_56 : decode cX10_count 56 = .ok (.aload_n 0, 1) := by decide +kernel
theorem dX10_count_57 : decode cX10_count 57 = .ok (.getfield 31, 3) := by decide +kernel
theorem dX10_count_60 : decode cX10_count 60 = .ok (.bipush (-5), 2) := by decide +kernel
theorem dX10_count_62 : decode cX10_count 62 = .ok (.invokevirtual 178, 3) := by decide +kernel
theorem dX10_count_65 : decode cX10_count 65 = .ok (.invokestatic 182, 3) := by decide +kernel
theorem dX10_count_68 : decode cX10_count 68 = .ok (.ireturn, 1) := by decide +kernel
theorem dX10_count_69 : decode cX10_count 69 = .ok (.aload_n 0, 1) := by decide +kernel
theorem dX10_count_70 : decode cX10_count 70 = .ok (.getfield 158, 3) := by decide +kernel
theorem dX10_count_73 : decode cX10_count 73 = .ok (.ireturn, 1) := by decide +kernel
theorem dX10_count_74 : decode cX10_count 74 = .ok (.aload_n 0, 1) := by decide +kernel
theorem dX10_count_75 : decode cX10_count 75 = .ok (.getfield 80, 3) := by decide +kernel
theorem dX10_count_78 : decode cX10_count 78 = .ok (.ireturn, 1) := by decide +kernel
theorem dX10_count_79 : decode cX10_count 79 = .ok (.iconst (-1), 1) := by decide +kernel
theorem dX10_count_80 : decode cX10_count 80 = .ok (.ireturn, 1) := by decide +kernel
theorem dX10_trace_0 : decode cX10_trace 0 = .ok (.aload_n 0, 1) := by decide +kernel
theorem dX10_trace_1 : decode cX10_trace 1 = .ok (.getfield 227, 3) := by decide +kernel
theorem dX10_trace_4 : decode cX10_trace 4 = .ok (.lreturn, 1) := by decide +kernel
end
section
theorem dJ6_bitCount_0f7a4_0 : decode cJ6_bitCount_0f7a4 0 = .ok (.iload_n 0, 1) := by decide +kernel
theorem dJ6_bitCount_0f7a4_1 : decode cJ6_bitCount_0f7a4 1 = .ok (.iload_n 0, 1) := by decide +kernel
theorem dJ6_bitCount_0f7a4_2 : decode cJ6_bitCount_0f7a4 2 = .ok (.iconst 1, 1) := by decide +kernel
theorem dJ6_bitCount_0f7a4_3 : decode cJ6_bitCount_0f7a4 3 = .ok (.iushr, 1) := by decide +kernel
theorem dJ6_bitCount_0f7a4_4 : decode cJ6_bitCount_0f7a4 4 = .ok (.ldc_w 265, 3) := by decide +kernel
theorem dJ6_bitCount_0f7a4_7 : decode cJ6_bitCount_0f7a4 7 = .ok (.iand, 1) := by decide +kernel
theorem dJ6_bitCount_0f7a4_8 : decode cJ6_bitCount_0f7a4 8 = .ok (.isub, 1) := by decide +kernel
theorem dJ6_bitCount_0f7a4_9 : decode cJ6_bitCount_0f7a4 9 = .ok (.istore_n 0, 1) := by decide +kernel
theorem dJ6_bitCount_0f7a4_10 : decode cJ6_bitCount_0f7a4 10 = .ok (.iload_n 0, 1) := by decide +kernel
theorem dJ6_bitCount_0f7a4_11 : decode cJ6_bitCount_0f7a4 11 = .ok (.ldc_w 266, 3) := by decide +kernel
theorem dJ6_bitCount_0f7a4_14 : decode cJ6_bitCount_0f7a4 14 = .ok (.iand, 1) := by decide +kernel
theorem dJ6_bitCount_0f7a4_15 : decode cJ6_bitCount_0f7a4 15 = .ok (.iload_n 0, 1) := by decide +kernel
theorem dJ6_bitCount_0f7a4_16 : decode cJ6_bitCount_0f7a4 16 = .ok (.iconst 2, 1) := by decide +kernel
theorem dJ6_bitCount_0f7a4_17 : decode cJ6_bitCount_0f7a4 17 = .ok (.iushr, 1) := by decide +kernel
theorem dJ6_bitCount_0f7a4_18 : decode cJ6_bitCount_0f7a4 18 = .ok (.ldc_w 266, 3) := by decide +kernel
theorem dJ6_bitCount_0f7a4_21 : decode cJ6_bitCount_0f7a4 21 = .ok (.iand, 1) := by decide +kernel
theorem dJ6_bitCount_0f7a4_22 : decode cJ6_bitCount_0f7a4 22 = .ok (.iadd, 1) := by decide +kernel
theorem dJ6_bitCount_0f7a4_23 : decode cJ6_bitCount_0f7a4 23 = .ok (.istore_n 0, 1) := by decide +kernel
theorem dJ6_bitCount_0f7a4_24 : decode cJ6_bitCount_0f7a4 24 = .ok (.iload_n 0, 1) := by decide +kernel
theorem dJ6_bitCount_0f7a4_25 : decode cJ6_bitCount_0f7a4 25 = .ok (.iload_n 0, 1) := by decide +kernel
theorem dJ6_bitCount_0f7a4_26 : decode cJ6_bitCount_0f7a4 26 = .ok (.iconst 4, 1) := by decide +kernel
theorem dJ6_bitCount_0f7a4_27 : decode cJ6_bitCount_0f7a4 27 = .ok (.iushr, 1) := by decide +kernel
theorem dJ6_bitCount_0f7a4_28 : decode cJ6_bitCount_0f7a4 28 = .ok (.iadd, 1) := by decide +kernel
theorem dJ6_bitCount_0f7a4_29 : decode cJ6_bitCount_0f7a4 29 = .ok (.ldc_w 267, 3) := by decide +kernel
theorem dJ6_bitCount_0f7a4_32 : decode cJ6_bitCount_0f7a4 32 = .ok (.iand, 1) := by decide +kernel
theorem dJ6_bitCount_0f7a4_33 : decode cJ6_bitCount_0f7a4 33 = .ok (.istore_n 0, 1) := by decide +kernel
theorem dJ6_bitCount_0f7a4_34 : decode cJ6_bitCount_0f7a4 34 = .ok (.iload_n 0, 1) := by decide +kernel
theorem dJ6_bitCount_0f7a4_35 : decode cJ6_bitCount_0f7a4 35 = .ok (.iload_n 0, 1) := by decide +kernel
theorem dJ6_bitCount_0f7a4_36 : decode cJ6_bitCount_0f7a4 36 = .ok (.bipush 8, 2) := by decide +kernel
theorem dJ6_bitCount_0f7a4_38 : decode cJ6_bitCount_0f7a4 38 = .ok (.iushr, 1) := by decide +kernel
theorem dJ6_bitCount_0f7a4_39 : decode cJ6_bitCount_0f7a4 39 = .ok (.iadd, 1) := by decide +kernel
theorem dJ6_bitCount_0f7a4_40 : decode cJ6_bitCount_0f7a4 40 = .ok (.istore_n 0, 1) := by decide +kernel
theorem dJ6_bitCount_0f7a4_41 : decode cJ6_bitCount_0f7a4 41 = .ok (.iload_n 0, 1) := by decide +kernel
theorem dJ6_bitCount_0f7a4_42 : decode cJ6_bitCount_0f7a4 42 = .ok (.iload_n 0, 1) := by decide +kernel
theorem dJ6_bitCount_0f7a4_43 : decode cJ6_bitCount_0f7a4 43 = .ok (.bipush 16, 2) := by decide +kernel
theorem dJ6_bitCount_0f7a4_45 : decode cJ6_bitCount_0f7a4 45 = .ok (.iushr, 1) := by decide +kernel
theorem dJ6_bitCount_0f7a4_46 : decode cJ6_bitCount_0f7a4 46 = .ok (.iadd, 1) := by decide +kernel
theorem dJ6_bitCount_0f7a4_47 : decode cJ6_bitCount_0f7a4 47 = .ok (.istore_n 0, 1) := by decide +kernel
theorem dJ6_bitCount_0f7a4_48 : decode cJ6_bitCount_0f7a4 48 = .ok (.iload_n 0, 1) := by decide +kernel
theorem dJ6_bitCount_0f7a4_49 : decode cJ6_bitCount_0f7a4 49 = .ok (.bipush 63, 2) := by decide +kernel
theorem dJ6_bitCount_0f7a4_51 : decode cJ6_bitCount_0f7a4 51 = .ok (.iand, 1) := by decide +kernel
theorem dJ6_bitCount_0f7a4_52 : decode cJ6_bitCount_0f7a4 52 = .ok (.ireturn, 1) := by decide +kernel
theorem dJ9_max_7cf53_0 : decode cJ9_max_7cf53 0 = .ok (.iload_n 0, 1) := by decide +kernel
theorem dJ9_max_7cf53_1 : decode cJ9_max_7cf53 1 = .ok (.iload_n 1, 1) := by decide +kernel
theorem dJ9_max_7cf53_2 : decode cJ9_max_7cf53 2 = .ok (.if_icmp .lt 7, 3) := by decide +kernel
theorem dJ9_max_7cf53_5 : decode cJ9_max_7cf53 5 = .ok (.iload_n 0, 1) := by decide +kernel
theorem dJ9_max_7cf53_6 : decode cJ9_max_7cf53 6 = .ok (.goto 4, 3) := by decide +kernel
theorem dJ9_max_7cf53_9 : decode cJ9_max_7cf53 9 = .ok (.iload_n 1, 1) := by decide +kernel
theorem dJ9_max_7cf53_10 : decode cJ9_max_7cf53 10 = .ok (.ireturn, 1) := by decide +kernel
theorem dJ9_min_7cf53_0 : decode cJ9_min_7cf53 0 = .ok (.iload_n 0, 1) := by decide +kernel
theorem dJ9_min_7cf53_1 : decode cJ9_min_7cf53 1 = .ok (.iload_n 1, 1) := by decide +kernel
theorem dJ9_min_7cf53_2 : decode cJ9_min_7cf53 2 = .ok (.if_icmp .gt 7, 3) := by decide +kernel
theorem dJ9_min_7cf53_5 : decode cJ9_min_7cf53 5 = .ok (.iload_n 0, 1) := by decide +kernel
theorem dJ9_min_7cf53_6 : decode cJ9_min_7cf53 6 = .ok (.goto 4, 3) := by decide +kernel
theorem dJ9_min_7cf53_9 : decode cJ9_min_7cf53 9 = .ok (.iload_n 1, 1) := by decide +kernel
theorem dJ9_min_7cf53_10 : decode cJ9_min_7cf53 10 = .ok (.ireturn, 1) := by decide +kernel
theorem dJ0_length_8abf5_0 : decode cJ0_length_8abf5 0 = .ok (.aload_n 0, 1) := by decide +kernel
theorem dJ0_length_8abf5_1 : decode cJ0_length_8abf5 1 = .ok (.getfield 9, 3) := by decide +kernel
theorem dJ0_length_8abf5_4 : decode cJ0_length_8abf5 4 = .ok (.arraylength, 1) := by decide +kernel
theorem dJ0_length_8abf5_5 : decode cJ0_length_8abf5 5 = .ok (.aload_n 0, 1) := by decide +kernel
theorem dJ0_length_8abf5_6 : decode cJ0_length_8abf5 6 = .ok (.invokevirtual 335, 3) := by decide +kernel
theorem dJ0_length_8abf5_9 : decode cJ0_length_8abf5 9 = .ok (.ishr, 1) := by decide +kernel
theorem dJ0_length_8abf5_10 : decode cJ0_length_8abf5 10 = .ok (.ireturn, 1) := by decide +kernel
theorem dJ0_charAt_5068e_0 : decode cJ0_charAt_5068e 0 = .ok (.aload_n 0, 1) := by decide +kernel
theorem dJ0_charAt_5068e_1 : decode cJ0_charAt_5068e 1 = .ok (.invokevirtual 492, 3) := by decide +kernel
theorem dJ0_charAt_5068e_4 : decode cJ0_charAt_5068e 4 = .ok (.ifCond .eq 12, 3) := by decide +kernel
theorem dJ0_charAt_5068e_7 : decode cJ0_charAt_5068e 7 = .ok (.aload_n 0, 1) := by decide +kernel
theorem dJ0_charAt_5068e_8 : decode cJ0_charAt_5068e 8 = .ok (.getfield 9, 3) := by decide +kernel
theorem dJ0_charAt_5068e_11 : decode cJ0_charAt_5068e 11 = .ok (.iload_n 1, 1) := by decide +kernel
theorem dJ0_charAt_5068e_12 : decode cJ0_charAt_5068e 12 = .ok (.invokestatic 495, 3) := by decide +kernel
theorem dJ0_charAt_5068e_15 : decode cJ0_charAt_5068e 15 = .ok (.ireturn, 1) := by decide +kernel
theorem dJ0_charAt_5068e_16 : decode cJ0_charAt_5068e 16 = .ok (.aload_n 0, 1) := by decide +kernel
theorem dJ0_charAt_5068e_17 : decode cJ0_charAt_5068e 17 = .ok (.getfield 9, 3) := by decide +kernel
theorem dJ0_charAt_5068e_20 : decode cJ0_charAt_5068e 20 = .ok (.iload_n 1, 1) := by decide +kernel
theorem dJ0_charAt_5068e_21 : decode cJ0_charAt_5068e 21 = .ok (.invokestatic 498, 3) := by decide +kernel
theorem dJ0_charAt_5068e_24 : decode cJ0_charAt_5068e 24 = .ok (.ireturn, 1) := by decide +kernel
theorem dJ0_coder_7d493_0 : decode cJ0_coder_7d493 0 = .ok (.getstatic 38, 3) := by decide +kernel
theorem dJ0_coder_7d493_3 : decode cJ0_coder_7d493 3 = .ok (.ifCond .eq 10, 3) := by decide +kernel
theorem dJ0_coder_7d493_6 : decode cJ0_coder_7d493 6 = .ok (.aload_n 0, 1) := by decide +kernel
theorem dJ0_coder_7d493_7 : decode cJ0_coder_7d493 7 = .ok (.getfield 15, 3) := by decide +kernel
theorem dJ0_coder_7d493_10 : decode cJ0_coder_7d493 10 = .ok (.goto 4, 3) := by decide +kernel
theorem dJ0_coder_7d493_13 : decode cJ0_coder_7d493 13 = .ok (.iconst 1, 1) := by decide +kernel
theorem dJ0_coder_7d493_14 : decode cJ0_coder_7d493 14 = .ok (.ireturn, 1) := by decide +kernel
theorem dJ0_isLatin1_aae02_0 : decode cJ0_isLatin1_aae02 0 = .ok (.getstatic 38, 3) := by decide +kernel
theorem dJ0_isLatin1_aae02_3 : decode cJ0_isLatin1_aae02 3 = .ok (.ifCond .eq 14, 3) := by decide +kernel
theorem dJ0_isLatin1_aae02_6 : decode cJ0_isLatin1_aae02 6 = .ok (.aload_n 0, 1) := by decide +kernel
theorem dJ0_isLatin1_aae02_7 : decode cJ0_isLatin1_aae02 7 = .ok (.getfield 15, 3) := by decide +kernel
theorem dJ0_isLatin1_aae02_10 : decode cJ0_isLatin1_aae02 10 = .ok (.ifCond .ne 7, 3) := by decide +kernel
theorem dJ0_isLatin1_aae02_13 : decode cJ0_isLatin1_aae02 13 = .ok (.iconst 1, 1) := by decide +kernel
theorem dJ0_isLatin1_aae02_14 : decode cJ0_isLatin1_aae02 14 = .ok (.goto 4, 3) := by decide +kernel
theorem dJ0_isLatin1_aae02_17 : decode cJ0_isLatin1_aae02 17 = .ok (.iconst 0, 1) := by decide +kernel
theorem dJ0_isLatin1_aae02_18 : decode cJ0_isLatin1_aae02 18 = .ok (.ireturn, 1) := by decide +kernel
theorem dJ0_checkIndex_df160_0 : decode cJ0_checkIndex_df160 0 = .ok (.iload_n 0, 1) := by decide +kernel
theorem dJ0_checkIndex_df160_1 : decode cJ0_checkIndex_df160 1 = .ok (.iload_n 1, 1) := by decide +kernel
theorem dJ0_checkIndex_df160_2 : decode cJ0_checkIndex_df160 2 = .ok (.getstatic 1053, 3) := by decide +kernel
theorem dJ0_checkIndex_df160_5 : decode cJ0_checkIndex_df160 5 = .ok (.invokestatic 1059, 3) := by decide +kernel
theorem dJ0_checkIndex_df160_8 : decode cJ0_checkIndex_df160 8 = .ok (.pop, 1) := by decide +kernel
theorem dJ0_checkIndex_df160_9 : decode cJ0_checkIndex_df160 9 = .ok (.return_, 1) := by decide +kernel
theorem dJ1_charAt_3b067_0 : decode cJ1_charAt_3b067 0 = .ok (.iload_n 1, 1) := by decide +kernel
theorem dJ1_charAt_3b067_1 : decode cJ1_charAt_3b067 1 = .ok (.aload_n 0, 1) := by decide +kernel
theorem dJ1_charAt_3b067_2 : decode cJ1_charAt_3b067 2 = .ok (.arraylength, 1) := by decide +kernel
theorem dJ1_charAt_3b067_3 : decode cJ1_charAt_3b067 3 = .ok (.invokestatic 9, 3) := by decide +kernel
theorem dJ1_charAt_3b067_6 : decode cJ1_charAt_3b067 6 = .ok (.aload_n 0, 1) := by decide +kernel
theorem dJ1_charAt_3b067_7 : decode cJ1_charAt_3b067 7 = .ok (.iload_n 1, 1) := by decide +kernel
theorem dJ1_charAt_3b067_8 : decode cJ1_charAt_3b067 8 = .ok (.baload, 1) := by decide +kernel
theorem dJ1_charAt_3b067_9 : decode cJ1_charAt_3b067 9 = .ok (.sipush 255, 3) := by decide +kernel
theorem dJ1_charAt_3b067_12 : decode cJ1_charAt_3b067 12 = .ok (.iand, 1) := by decide +kernel
theorem dJ1_charAt_3b067_13 : decode cJ1_charAt_3b067 13 = .ok (.i2c, 1) := by decide +kernel
theorem dJ1_charAt_3b067_14 : decode cJ1_charAt_3b067 14 = .ok (.ireturn, 1) := by decide +kernel
theorem dJ2_getChar_3b067_0 : decode cJ2_getChar_3b067 0 = .ok (.getstatic 44, 3) := by decide +kernel
theorem dJ2_getChar_3b067_3 : decode cJ2_getChar_3b067 3 = .ok (.ifCond .ne 25, 3) := by decide +kernel
theorem dJ2_getChar_3b067_6 : decode cJ2_getChar_3b067 6 = .ok (.iload_n 1, 1) := by decide +kernel
theorem dJ2_getChar_3b067_7 : decode cJ2_getChar_3b067 7 = .ok (.ifCond .lt 11, 3) := by decide +kernel
theorem dJ2_getChar_3b067_10 : decode cJ2_getChar_3b067 10 = .ok (.iload_n 1, 1) := by decide +kernel
theorem dJ2_getChar_3b067_11 : decode cJ2_getChar_3b067 11 = .ok (.aload_n 0, 1) := by decide +kernel
theorem dJ2_getChar_3b067_12 : decode cJ2_getChar_3b067 12 = .ok (.invokestatic 48, 3) := by decide +kernel
theorem dJ2_getChar_3b067_15 : decode cJ2_getChar_3b067 15 = .ok (.if_icmp .lt 13, 3) := by decide +kernel
theorem dJ2_getChar_3b067_18 : decode cJ2_getChar_3b067 18 = .ok (.new 52, 3) := by decide +kernel
theorem dJ2_getChar_3b067_21 : decode cJ2_getChar_3b067 21 = .ok (.dup, 1) := by decide +kernel
theorem dJ2_getChar_3b067_22 : decode cJ2_getChar_3b067 22 = .ok (.ldc 54, 2) := by decide +kernel
theorem dJ2_getChar_3b067_24 : decode cJ2_getChar_3b067 24 = .ok (.invokespecial 56, 3) := by decide +kernel
theorem dJ2_getChar_3b067_27 : decode cJ2_getChar_3b067 27 = .ok (.athrow, 1) := by decide +kernel
theorem dJ2_getChar_3b067_28 : decode cJ2_getChar_3b067 28 = .ok (.iload_n 1, 1) := by decide +kernel
theorem dJ2_getChar_3b067_29 : decode cJ2_getChar_3b067 29 = .ok (.iconst 1, 1) := by decide +kernel
theorem dJ2_getChar_3b067_30 : decode cJ2_getChar_3b067 30 = .ok (.ishl, 1) := by decide +kernel
theorem dJ2_getChar_3b067_31 : decode cJ2_getChar_3b067 31 = .ok (.istore_n 1, 1) := by decide +kernel
theorem dJ2_getChar_3b067_32 : decode cJ2_getChar_3b067 32 = .ok (.aload_n 0, 1) := by decide +kernel
theorem dJ2_getChar_3b067_33 : decode cJ2_getChar_3b067 33 = .ok (.iload_n 1, 1) := by decide +kernel
theorem dJ2_getChar_3b067_34 : decode cJ2_getChar_3b067 34 = .ok (.iinc 1 1, 3) := by decide +kernel
theorem dJ2_getChar_3b067_37 : decode cJ2_getChar_3b067 37 = .ok (.baload, 1) := by decide +kernel
theorem dJ2_getChar_3b067_38 : decode cJ2_getChar_3b067 38 = .ok (.sipush 255, 3) := by decide +kernel
theorem dJ2_getChar_3b067_41 : decode cJ2_getChar_3b067 41 = .ok (.iand, 1) := by decide +kernel
theorem dJ2_getChar_3b067_42 : decode cJ2_getChar_3b067 42 = .ok (.getstatic 59, 3) := by decide +kernel
theorem dJ2_getChar_3b067_45 : decode cJ2_getChar_3b067 45 = .ok (.ishl, 1) := by decide +kernel
theorem dJ2_getChar_3b067_46 : decode cJ2_getChar_3b067 46 = .ok (.aload_n 0, 1) := by decide +kernel
theorem dJ2_getChar_3b067_47 : decode cJ2_getChar_3b067 47 = .ok (.iload_n 1, 1) := by decide +kernel
theorem dJ2_getChar_3b067_48 : decode cJ2_getChar_3b067 48 = .ok (.baload, 1) := by decide +kernel
theorem dJ2_getChar_3b067_49 : decode cJ2_getChar_3b067 49 = .ok (.sipush 255, 3) := by decide +kernel
theorem dJ2_getChar_3b067_52 : decode cJ2_getChar_3b067 52 = .ok (.iand, 1) := by decide +kernel
theorem dJ2_getChar_3b067_53 : decode cJ2_getChar_3b067 53 = .ok (.getstatic 63, 3) := by decide +kernel
theorem dJ2_getChar_3b067_56 : decode cJ2_getChar_3b067 56 = .ok (.ishl, 1) := by decide +kernel
theorem dJ2_getChar_3b067_57 : decode cJ2_getChar_3b067 57 = .ok (.ior, 1) := by decide +kernel
theorem dJ2_getChar_3b067_58 : decode cJ2_getChar_3b067 58 = .ok (.i2c, 1) := by decide +kernel
theorem dJ2_getChar_3b067_59 : decode cJ2_getChar_3b067 59 = .ok (.ireturn, 1) := by decide +kernel
theorem dJ2_length_9d52b_0 : decode cJ2_length_9d52b 0 = .ok (.aload_n 0, 1) := by decide +kernel
theorem dJ2_length_9d52b_1 : decode cJ2_length_9d52b 1 = .ok (.arraylength, 1) := by decide +kernel
theorem dJ2_length_9d52b_2 : decode cJ2_length_9d52b 2 = .ok (.iconst 1, 1) := by decide +kernel
theorem dJ2_length_9d52b_3 : decode cJ2_length_9d52b 3 = .ok (.ishr, 1) := by decide +kernel
theorem dJ2_length_9d52b_4 : decode cJ2_length_9d52b 4 = .ok (.ireturn, 1) := by decide +kernel
theorem dJ2_charAt_3b067_0 : decode cJ2_charAt_3b067 0 = .ok (.iload_n 1, 1) := by decide +kernel
theorem dJ2_charAt_3b067_1 : decode cJ2_charAt_3b067 1 = .ok (.aload_n 0, 1) := by decide +kernel
theorem dJ2_charAt_3b067_2 : decode cJ2_charAt_3b067 2 = .ok (.invokestatic 67, 3) := by decide +kernel
theorem dJ2_charAt_3b067_5 : decode cJ2_charAt_3b067 5 = .ok (.aload_n 0, 1) := by decide +kernel
theorem dJ2_charAt_3b067_6 : decode cJ2_charAt_3b067 6 = .ok (.iload_n 1, 1) := by decide +kernel
theorem dJ2_charAt_3b067_7 : decode cJ2_charAt_3b067 7 = .ok (.invokestatic 71, 3) := by decide +kernel
theorem dJ2_charAt_3b067_10 : decode cJ2_charAt_3b067 10 = .ok (.ireturn, 1) := by decide +kernel
theorem dJ2_checkIndex_2214a_0 : decode cJ2_checkIndex_2214a 0 = .ok (.iload_n 0, 1) := by decide +kernel
theorem dJ2_checkIndex_2214a_1 : decode cJ2_checkIndex_2214a 1 = .ok (.aload_n 1, 1) := by decide +kernel
theorem dJ2_checkIndex_2214a_2 : decode cJ2_checkIndex_2214a 2 = .ok (.invokestatic 48, 3) := by decide +kernel
theorem dJ2_checkIndex_2214a_5 : decode cJ2_checkIndex_2214a 5 = .ok (.invokestatic 414, 3) := by decide +kernel
theorem dJ2_checkIndex_2214a_8 : decode cJ2_checkIndex_2214a 8 = .ok (.return_, 1) := by decide +kernel
theorem dJ7_fill_53178_0 : decode cJ7_fill_53178 0 = .ok (.iconst 0, 1) := by decide +kernel
theorem dJ7_fill_53178_1 : decode cJ7_fill_53178 1 = .ok (.istore_n 2, 1) := by decide +kernel
theorem dJ7_fill_53178_2 : decode cJ7_fill_53178 2 = .ok (.aload_n 0, 1) := by decide +kernel
theorem dJ7_fill_53178_3 : decode cJ7_fill_53178 3 = .ok (.arraylength, 1) := by decide +kernel
theorem dJ7_fill_53178_4 : decode cJ7_fill_53178 4 = .ok (.istore_n 3, 1) := by decide +kernel
theorem dJ7_fill_53178_5 : decode cJ7_fill_53178 5 = .ok (.iload_n 2, 1) := by decide +kernel
theorem dJ7_fill_53178_6 : decode cJ7_fill_53178 6 = .ok (.iload_n 3, 1) := by decide +kernel
theorem dJ7_fill_53178_7 : decode cJ7_fill_53178 7 = .ok (.if_icmp .ge 13, 3) := by decide +kernel
theorem dJ7_fill_53178_10 : decode cJ7_fill_53178 10 = .ok (.aload_n 0, 1) := by decide +kernel
theorem dJ7_fill_53178_11 : decode cJ7_fill_53178 11 = .ok (.iload_n 2, 1) := by decide +kernel
theorem dJ7_fill_53178_12 : decode cJ7_fill_53178 12 = .ok (.iload_n 1, 1) := by decide +kernel
theorem dJ7_fill_53178_13 : decode cJ7_fill_53178 13 = .ok (.iastore, 1) := by decide +kernel
theorem dJ7_fill_53178_14 : decode cJ7_fill_53178 14 = .ok (.iinc 2 1, 3) := by decide +kernel
theorem dJ7_fill_53178_17 : decode cJ7_fill_53178 17 = .ok (.goto (-12), 3) := by decide +kernel
theorem dJ7_fill_53178_20 : decode cJ7_fill_53178 20 = .ok (.return_, 1) := by decide +kernel
theorem dJ3_checkIndex_8e157_0 : decode cJ3_checkIndex_8e157 0 = .ok (.iload_n 0, 1) := by decide +kernel
theorem dJ3_checkIndex_8e157_1 : decode cJ3_checkIndex_8e157 1 = .ok (.ifCond .lt 8, 3) := by decide +kernel
theorem dJ3_checkIndex_8e157_4 : decode cJ3_checkIndex_8e157 4 = .ok (.iload_n 0, 1) := by decide +kernel
theorem dJ3_checkIndex_8e157_5 : decode cJ3_checkIndex_8e157 5 = .ok (.iload_n 1, 1) := by decide +kernel
theorem dJ3_checkIndex_8e157_6 : decode cJ3_checkIndex_8e157 6 = .ok (.if_icmp .lt 10, 3) := by decide +kernel
theorem dJ3_checkIndex_8e157_9 : decode cJ3_checkIndex_8e157 9 = .ok (.aload_n 2, 1) := by decide +kernel
theorem dJ3_checkIndex_8e157_10 : decode cJ3_checkIndex_8e157 10 = .ok (.iload_n 0, 1) := by decide +kernel
theorem dJ3_checkIndex_8e157_11 : decode cJ3_checkIndex_8e157 11 = .ok (.iload_n 1, 1) := by decide +kernel
theorem dJ3_checkIndex_8e157_12 : decode cJ3_checkIndex_8e157 12 = .ok (.invokestatic 95, 3) := by decide +kernel
theorem dJ3_checkIndex_8e157_15 : decode cJ3_checkIndex_8e157 15 = .ok (.athrow, 1) := by decide +kernel
theorem dJ3_checkIndex_8e157_16 : decode cJ3_checkIndex_8e157 16 = .ok (.iload_n 0, 1) := by decide +kernel
theorem dJ3_checkIndex_8e157_17 : decode cJ3_checkIndex_8e157 17 = .ok (.ireturn, 1) := by decide +kernel
theorem dL_law_0 : decode cL_law 0 = .ok (.new 7, 3) := by decide +kernel
theorem dL_law_3 : decode cL_law 3 = .ok (.dup, 1) := by decide +kernel
theorem dL_law_4 : decode cL_law 4 = .ok (.invokespecial 9, 3) := by decide +kernel
theorem dL_law_7 : decode cL_law 7 = .ok (.astore_n 1, 1) := by decide +kernel
theorem dL_law_8 : decode cL_law 8 = .ok (.new 10, 3) := by decide +kernel
theorem dL_law_11 : decode cL_law 11 = .ok (.dup, 1) := by decide +kernel
theorem dL_law_12 : decode cL_law 12 = .ok (.invokespecial 12, 3) := by decide +kernel
theorem dL_law_15 : decode cL_law 15 = .ok (.astore_n 2, 1) := by decide +kernel
theorem dL_law_16 : decode cL_law 16 = .ok (.iconst 0, 1) := by decide +kernel
theorem dL_law_17 : decode cL_law 17 = .ok (.istore_n 3, 1) := by decide +kernel
theorem dL_law_18 : decode cL_law 18 = .ok (.iload_n 3, 1) := by decide +kernel
theorem dL_law_19 : decode cL_law 19 = .ok (.aload_n 0, 1) := by decide +kernel
theorem dL_law_20 : decode cL_law 20 = .ok (.arraylength, 1) := by decide +kernel
theorem dL_law_21 : decode cL_law 21 = .ok (.iconst 4, 1) := by decide +kernel
theorem dL_law_22 : decode cL_law 22 = .ok (.isub, 1) := by decide +kernel
theorem dL_law_23 : decode cL_law 23 = .ok (.if_icmp .gt 896, 3) := by decide +kernel
theorem dL_law_26 : decode cL_law 26 = .ok (.aload_n 0, 1) := by decide +kernel
theorem dL_law_27 : decode cL_law 27 = .ok (.iload_n 3, 1) := by decide +kernel
theorem dL_law_28 : decode cL_law 28 = .ok (.iaload, 1) := by decide +kernel
theorem dL_law_29 : decode cL_law 29 = .ok (.bipush 31, 2) := by decide +kernel
theorem dL_law_31 : decode cL_law 31 = .ok (.iand, 1) := by decide +kernel
theorem dL_law_32 : decode cL_law 32 = .ok (.tableswitch 881 0 28 #[132, 195, 208, 221, 254, 287, 320, 343, 376, 409, 432, 465, 498, 521, 554, 577, 590, 603, 636, 649, 683, 716, 729, 742, 765, 798, 821, 844, 867], 132) := by decide +kernel
theorem dL_law_164 : decode cL_law 164 = .ok (.aload_n 1, 1) := by decide +kernel
theorem dL_law_165 : decode cL_law 165 = .ok (.aload_n 0, 1) := by decide +kernel
theorem dL_law_166 : decode cL_law 166 = .ok (.iload_n 3, 1) := by decide +kernel
theorem dL_law_167 : decode cL_law 167 = .ok (.iconst 1, 1) := by decide +kernel
theorem dL_law_168 : decode cL_law 168 = .ok (.iadd, 1) := by decide +kernel
theorem dL_law_169 : decode cL_law 169 = .ok (.iaload, 1) := by decide +kernel
theorem dL_law_170 : decode cL_law 170 = .ok (.i2l, 1) := by decide +kernel
theorem dL_law_171 : decode cL_law 171 = .ok (.bipush 32, 2) := by decide +kernel
theorem dL_law_173 : decode cL_law 173 = .ok (.lshl, 1) := by decide +kernel
theorem dL_law_174 : decode cL_law 174 = .ok (.aload_n 0, 1) := by decide +kernel
theorem dL_law_175 : decode cL_law 175 = .ok (.iload_n 3, 1) := by decide +kernel
theorem dL_law_176 : decode cL_law 176 = .ok (.iconst 2, 1) := by decide +kernel
theorem dL_law_177 : decode cL_law 177 = .ok (.iadd, 1) := by decide +kernel
theorem dL_law_178 : decode cL_law 178 = .ok (.iaload, 1) := by decide +kernel
theorem dL_law_179 : decode cL_law 179 = .ok (.i2l, 1) := by decide +kernel
theorem dL_law_180 : decode cL_law 180 = .ok (.ldc2_w 13, 3) := by decide +kernel
theorem dL_law_183 : decode cL_law 183 = .ok (.land, 1) := by decide +kernel
theorem dL_law_184 : decode cL_law 184 = .ok (.lor, 1) := by decide +kernel
theorem dL_law_185 : decode cL_law 185 = .ok (.aload_n 0, 1) := by decide +kernel
theorem dL_law_186 : decode cL_law 186 = .ok (.iload_n 3, 1) := by decide +kernel
theorem dL_law_187 : decode cL_law 187 = .ok (.iconst 3, 1) := by decide +kernel
theorem dL_law_188 : decode cL_law 188 = .ok (.iadd, 1) := by decide +kernel
theorem dL_law_189 : decode cL_law 189 = .ok (.iaload, 1) := by decide +kernel
theorem dL_law_190 : decode cL_law 190 = .ok (.invokevirtual 15, 3) := by decide +kernel
theorem dL_law_193 : decode cL_law 193 = .ok (.aload_n 2, 1) := by decide +kernel
theorem dL_law_194 : decode cL_law 194 = .ok (.aload_n 0, 1) := by decide +kernel
theorem dL_law_195 : decode cL_law 195 = .ok (.iload_n 3, 1) := by decide +kernel
theorem dL_law_196 : decode cL_law 196 = .ok (.iconst 1, 1) := by decide +kernel
theorem dL_law_197 : decode cL_law 197 = .ok (.iadd, 1) := by decide +kernel
theorem dL_law_198 : decode cL_law 198 = .ok (.iaload, 1) := by decide +kernel
theorem dL_law_199 : decode cL_law 199 = .ok (.i2l, 1) := by decide +kernel
theorem dL_law_200 : decode cL_law 200 = .ok (.bipush 32, 2) := by decide +kernel
theorem dL_law_202 : decode cL_law 202 = .ok (.lshl, 1) := by decide +kernel
theorem dL_law_203 : decode cL_law 203 = .ok (.aload_n 0, 1) := by decide +kernel
theorem dL_law_204 : decode cL_law 204 = .ok (.iload_n 3, 1) := by decide +kernel
theorem dL_law_205 : decode cL_law 205 = .ok (.iconst 2, 1) := by decide +kernel
theorem dL_law_206 : decode cL_law 206 = .ok (.iadd, 1) := by decide +kernel
theorem dL_law_207 : decode cL_law 207 = .ok (.iaload, 1) := by decide +kernel
theorem dL_law_208 : decode cL_law 208 = .ok (.i2l, 1) := by decide +kernel
theorem dL_law_209 : decode cL_law 209 = .ok (.ldc2_w 13, 3) := by decide +kernel
theorem dL_law_212 : decode cL_law 212 = .ok (.land, 1) := by decide +kernel
theorem dL_law_213 : decode cL_law 213 = .ok (.lor, 1) := by decide +kernel
theorem dL_law_214 : decode cL_law 214 = .ok (.aload_n 0, 1) := by decide +kernel
theorem dL_law_215 : decode cL_law 215 = .ok (.iload_n 3, 1) := by decide +kernel
theorem dL_law_216 : decode cL_law 216 = .ok (.iconst 3, 1) := by decide +kernel
theorem dL_law_217 : decode cL_law 217 = .ok (.iadd, 1) := by decide +kernel
theorem dL_law_218 : decode cL_law 218 = .ok (.iaload, 1) := by decide +kernel
theorem dL_law_219 : decode cL_law 219 = .ok (.invokevirtual 19, 3) := by decide +kernel
theorem dL_law_222 : decode cL_law 222 = .ok (.if_icmp .eq 691, 3) := by decide +kernel
theorem dL_law_225 : decode cL_law 225 = .ok (.iconst 0, 1) := by decide +kernel
theorem dL_law_226 : decode cL_law 226 = .ok (.ireturn, 1) := by decide +kernel
theorem dL_law_227 : decode cL_law 227 = .ok (.aload_n 1, 1) := by decide +kernel
theorem dL_law_228 : decode cL_law 228 = .ok (.invokevirtual 20, 3) := by decide +kernel
theorem dL_law_231 : decode cL_law 231 = .ok (.aload_n 2, 1) := by decide +kernel
theorem dL_law_232 : decode cL_law 232 = .ok (.invokevirtual 24, 3) := by decide +kernel
theorem dL_law_235 : decode cL_law 235 = .ok (.if_icmp .eq 678, 3) := by decide +kernel
theorem dL_law_238 : decode cL_law 238 = .ok (.iconst 0, 1) := by decide +kernel
theorem dL_law_239 : decode cL_law 239 = .ok (.ireturn, 1) := by decide +kernel
theorem dL_law_240 : decode cL_law 240 = .ok (.aload_n 1, 1) := by decide +kernel
theorem dL_law_241 : decode cL_law 241 = .ok (.invokevirtual 25, 3) := by decide +kernel
theorem dL_law_244 : decode cL_law 244 = .ok (.aload_n 2, 1) := by decide +kernel
theorem dL_law_245 : decode cL_law 245 = .ok (.invokevirtual 28, 3) := by decide +kernel
theorem dL_law_248 : decode cL_law 248 = .ok (.if_icmp .eq 665, 3) := by decide +kernel
theorem dL_law_251 : decode cL_law 251 = .ok (.iconst 0, 1) := by decide +kernel
theorem dL_law_252 : decode cL_law 252 = .ok (.ireturn, 1) := by decide +kernel
theorem dL_law_253 : decode cL_law 253 = .ok (.aload_n 1, 1) := by decide +kernel
theorem dL_law_254 : decode cL_law 254 = .ok (.aload_n 0, 1) := by decide +kernel
theorem dL_law_255 : decode cL_law 255 = .ok (.iload_n 3, 1) := by decide +kernel
theorem dL_law_256 : decode cL_law 256 = .ok (.iconst 1, 1) := by decide +kernel
theorem dL_law_257 : decode cL_law 257 = .ok (.iadd, 1) := by decide +kernel
theorem dL_law_258 : decode cL_law 258 = .ok (.iaload, 1) := by decide +kernel
theorem dL_law_259 : decode cL_law 259 = .ok (.aload_n 0, 1) := by decide +kernel
theorem dL_law_260 : decode cL_law 260 = .ok (.iload_n 3, 1) := by decide +kernel
theorem dL_law_261 : decode cL_law 261 = .ok (.iconst 2, 1) := by decide +kernel
theorem dL_law_262 : decode cL_law 262 = .ok (.iadd, 1) := by decide +kernel
theorem dL_law_263 : decode cL_law 263 = .ok (.iaload, 1) := by decide +kernel
theorem dL_law_264 : decode cL_law 264 = .ok (.invokevirtual 29, 3) := by decide +kernel
theorem dL_law_267 : decode cL_law 267 = .ok (.aload_n 2, 1) := by decide +kernel
theorem dL_law_268 : decode cL_law 268 = .ok (.aload_n 0, 1) := by decide +kernel
theorem dL_law_269 : decode cL_law 269 = .ok (.iload_n 3, 1) := by decide +kernel
theorem dL_law_270 : decode cL_law 270 = .ok (.iconst 1, 1) := by decide +kernel
theorem dL_law_271 : decode cL_law 271 = .ok (.iadd, 1) := by decide +kernel
theorem dL_law_272 : decode cL_law 272 = .ok (.iaload, 1) := by decide +kernel
theorem dL_law_273 : decode cL_law 273 = .ok (.aload_n 0, 1) := by decide +kernel
theorem dL_law_274 : decode cL_law 274 = .ok (.iload_n 3, 1) := by decide +kernel
theorem dL_law_275 : decode cL_law 275 = .ok (.iconst 2, 1) := by decide +kernel
theorem dL_law_276 : decode cL_law 276 = .ok (.iadd, 1) := by decide +kernel
theorem dL_law_277 : decode cL_law 277 = .ok (.iaload, 1) := by decide +kernel
theorem dL_law_278 : decode cL_law 278 = .ok (.invokevirtual 33, 3) := by decide +kernel
theorem dL_law_281 : decode cL_law 281 = .ok (.if_icmp .eq 632, 3) := by decide +kernel
theorem dL_law_284 : decode cL_law 284 = .ok (.iconst 0, 1) := by decide +kernel
theorem dL_law_285 : decode cL_law 285 = .ok (.ireturn, 1) := by decide +kernel
theorem dL_law_286 : decode cL_law 286 = .ok (.aload_n 1, 1) := by decide +kernel
theorem dL_law_287 : decode cL_law 287 = .ok (.aload_n 0, 1) := by decide +kernel
theorem dL_law_288 : decode cL_law 288 = .ok (.iload_n 3, 1) := by decide +kernel
theorem dL_law_289 : decode cL_law 289 = .ok (.iconst 1, 1) := by decide +kernel
theorem dL_law_290 : decode cL_law 290 = .ok (.iadd, 1) := by decide +kernel
theorem dL_law_291 : decode cL_law 291 = .ok (.iaload, 1) := by decide +kernel
theorem dL_law_292 : decode cL_law 292 = .ok (.aload_n 0, 1) := by decide +kernel
theorem dL_law_293 : decode cL_law 293 = .ok (.iload_n 3, 1) := by decide +kernel
theorem dL_law_294 : decode cL_law 294 = .ok (.iconst 2, 1) := by decide +kernel
theorem dL_law_295 : decode cL_law 295 = .ok (.iadd, 1) := by decide +kernel
theorem dL_law_296 : decode cL_law 296 = .ok (.iaload, 1) := by decide +kernel
theorem dL_law_297 : decode cL_law 297 = .ok (.invokevirtual 34, 3) := by decide +kernel
theorem dL_law_300 : decode cL_law 300 = .ok (.aload_n 2, 1) := by decide +kernel
theorem dL_law_301 : decode cL_law 301 = .ok (.aload_n 0, 1) := by decide +kernel
theorem dL_law_302 : decode cL_law 302 = .ok (.iload_n 3, 1) := by decide +kernel
theorem dL_law_303 : decode cL_law 303 = .ok (.iconst 1, 1) := by decide +kernel
theorem dL_law_304 : decode cL_law 304 = .ok (.iadd, 1) := by decide +kernel
theorem dL_law_305 : decode cL_law 305 = .ok (.iaload, 1) := by decide +kernel
theorem dL_law_306 : decode cL_law 306 = .ok (.aload_n 0, 1) := by decide +kernel
theorem dL_law_307 : decode cL_law 307 = .ok (.iload_n 3, 1) := by decide +kernel
theorem dL_law_308 : decode cL_law 308 = .ok (.iconst 2, 1) := by decide +kernel
theorem dL_law_309 : decode cL_law 309 = .ok (.iadd, 1) := by decide +kernel
theorem dL_law_310 : decode cL_law 310 = .ok (.iaload, 1) := by decide +kernel
theorem dL_law_311 : decode cL_law 311 = .ok (.invokevirtual 37, 3) := by decide +kernel
theorem dL_law_314 : decode cL_law 314 = .ok (.if_icmp .eq 599, 3) := by decide +kernel
theorem dL_law_317 : decode cL_law 317 = .ok (.iconst 0, 1) := by decide +kernel
theorem dL_law_318 : decode cL_law 318 = .ok (.ireturn, 1) := by decide +kernel
theorem dL_law_319 : decode cL_law 319 = .ok (.aload_n 1, 1) := by decide +kernel
theorem dL_law_320 : decode cL_law 320 = .ok (.aload_n 0, 1) := by decide +kernel
theorem dL_law_321 : decode cL_law 321 = .ok (.iload_n 3, 1) := by decide +kernel
theorem dL_law_322 : decode cL_law 322 = .ok (.iconst 1, 1) := by decide +kernel
theorem dL_law_323 : decode cL_law 323 = .ok (.iadd, 1) := by decide +kernel
theorem dL_law_324 : decode cL_law 324 = .ok (.iaload, 1) := by decide +kernel
theorem dL_law_325 : decode cL_law 325 = .ok (.aload_n 0, 1) := by decide +kernel
theorem dL_law_326 : decode cL_law 326 = .ok (.iload_n 3, 1) := by decide +kernel
theorem dL_law_327 : decode cL_law 327 = .ok (.iconst 2, 1) := by decide +kernel
theorem dL_law_328 : decode cL_law 328 = .ok (.iadd, 1) := by decide +kernel
theorem dL_law_329 : decode cL_law 329 = .ok (.iaload, 1) := by decide +kernel
theorem dL_law_330 : decode cL_law 330 = .ok (.invokevirtual 38, 3) := by decide +kernel
theorem dL_law_333 : decode cL_law 333 = .ok (.aload_n 2, 1) := by decide +kernel
theorem dL_law_334 : decode cL_law 334 = .ok (.aload_n 0, 1) := by decide +kernel
theorem dL_law_335 : decode cL_law 335 = .ok (.iload_n 3, 1) := by decide +kernel
theorem dL_law_336 : decode cL_law 336 = .ok (.iconst 1, 1) := by decide +kernel
theorem dL_law_337 : decode cL_law 337 = .ok (.iadd, 1) := by decide +kernel
theorem dL_law_338 : decode cL_law 338 = .ok (.iaload, 1) := by decide +kernel
theorem dL_law_339 : decode cL_law 339 = .ok (.aload_n 0, 1) := by decide +kernel
theorem dL_law_340 : decode cL_law 340 = .ok (.iload_n 3, 1) := by decide +kernel
theorem dL_law_341 : decode cL_law 341 = .ok (.iconst 2, 1) := by decide +kernel
theorem dL_law_342 : decode cL_law 342 = .ok (.iadd, 1) := by decide +kernel
theorem dL_law_343 : decode cL_law 343 = .ok (.iaload, 1) := by decide +kernel
theorem dL_law_344 : decode cL_law 344 = .ok (.invokevirtual 41, 3) := by decide +kernel
theorem dL_law_347 : decode cL_law 347 = .ok (.if_icmp .eq 566, 3) := by decide +kernel
theorem dL_law_350 : decode cL_law 350 = .ok (.iconst 0, 1) := by decide +kernel
theorem dL_law_351 : decode cL_law 351 = .ok (.ireturn, 1) := by decide +kernel
theorem dL_law_352 : decode cL_law 352 = .ok (.aload_n 1, 1) := by decide +kernel
theorem dL_law_353 : decode cL_law 353 = .ok (.aload_n 0, 1) := by decide +kernel
theorem dL_law_354 : decode cL_law 354 = .ok (.iload_n 3, 1) := by decide +kernel
theorem dL_law_355 : decode cL_law 355 = .ok (.iconst 1, 1) := by decide +kernel
theorem dL_law_356 : decode cL_law 356 = .ok (.iadd, 1) := by decide +kernel
theorem dL_law_357 : decode cL_law 357 = .ok (.iaload, 1) := by decide +kernel
theorem dL_law_358 : decode cL_law 358 = .ok (.invokevirtual 42, 3) := by decide +kernel
theorem dL_law_361 : decode cL_law 361 = .ok (.aload_n 2, 1) := by decide +kernel
theorem dL_law_362 : decode cL_law 362 = .ok (.aload_n 0, 1) := by decide +kernel
theorem dL_law_363 : decode cL_law 363 = .ok (.iload_n 3, 1) := by decide +kernel
theorem dL_law_364 : decode cL_law 364 = .ok (.iconst 1, 1) := by decide +kernel
theorem dL_law_365 : decode cL_law 365 = .ok (.iadd, 1) := by decide +kernel
theorem dL_law_366 : decode cL_law 366 = .ok (.iaload, 1) := by decide +kernel
theorem dL_law_367 : decode cL_law 367 = .ok (.invokevirtual 46, 3) := by decide +kernel
theorem dL_law_370 : decode cL_law 370 = .ok (.if_icmp .eq 543, 3) := by decide +kernel
theorem dL_law_373 : decode cL_law 373 = .ok (.iconst 0, 1) := by decide +kernel
theorem dL_law_374 : decode cL_law 374 = .ok (.ireturn, 1) := by decide +kernel
theorem dL_law_375 : decode cL_law 375 = .ok (.aload_n 1, 1) := by decide +kernel
theorem dL_law_376 : decode cL_law 376 = .ok (.aload_n 0, 1) := by decide +kernel
theorem dL_law_377 : decode cL_law 377 = .ok (.iload_n 3, 1) := by decide +kernel
theorem dL_law_378 : decode cL_law 378 = .ok (.iconst 1, 1) := by decide +kernel
theorem dL_law_379 : decode cL_law 379 = .ok (.iadd, 1) := by decide +kernel
theorem dL_law_380 : decode cL_law 380 = .ok (.iaload, 1) := by decide +kernel
theorem dL_law_381 : decode cL_law 381 = .ok (.aload_n 0, 1) := by decide +kernel
theorem dL_law_382 : decode cL_law 382 = .ok (.iload_n 3, 1) := by decide +kernel
theorem dL_law_383 : decode cL_law 383 = .ok (.iconst 2, 1) := by decide +kernel
theorem dL_law_384 : decode cL_law 384 = .ok (.iadd, 1) := by decide +kernel
theorem dL_law_385 : decode cL_law 385 = .ok (.iaload, 1) := by decide +kernel
theorem dL_law_386 : decode cL_law 386 = .ok (.invokevirtual 47, 3) := by decide +kernel
theorem dL_law_389 : decode cL_law 389 = .ok (.aload_n 2, 1) := by decide +kernel
theorem dL_law_390 : decode cL_law 390 = .ok (.aload_n 0, 1) := by decide +kernel
theorem dL_law_391 : decode cL_law 391 = .ok (.iload_n 3, 1) := by decide +kernel
theorem dL_law_392 : decode cL_law 392 = .ok (.iconst 1, 1) := by decide +kernel
theorem dL_law_393 : decode cL_law 393 = .ok (.iadd, 1) := by decide +kernel
theorem dL_law_394 : decode cL_law 394 = .ok (.iaload, 1) := by decide +kernel
theorem dL_law_395 : decode cL_law 395 = .ok (.aload_n 0, 1) := by decide +kernel
theorem dL_law_396 : decode cL_law 396 = .ok (.iload_n 3, 1) := by decide +kernel
theorem dL_law_397 : decode cL_law 397 = .ok (.iconst 2, 1) := by decide +kernel
theorem dL_law_398 : decode cL_law 398 = .ok (.iadd, 1) := by decide +kernel
theorem dL_law_399 : decode cL_law 399 = .ok (.iaload, 1) := by decide +kernel
theorem dL_law_400 : decode cL_law 400 = .ok (.invokevirtual 50, 3) := by decide +kernel
theorem dL_law_403 : decode cL_law 403 = .ok (.if_icmp .eq 510, 3) := by decide +kernel
theorem dL_law_406 : decode cL_law 406 = .ok (.iconst 0, 1) := by decide +kernel
theorem dL_law_407 : decode cL_law 407 = .ok (.ireturn, 1) := by decide +kernel
theorem dL_law_408 : decode cL_law 408 = .ok (.aload_n 1, 1) := by decide +kernel
theorem dL_law_409 : decode cL_law 409 = .ok (.aload_n 0, 1) := by decide +kernel
theorem dL_law_410 : decode cL_law 410 = .ok (.iload_n 3, 1) := by decide +kernel
theorem dL_law_411 : decode cL_law 411 = .ok (.iconst 1, 1) := by decide +kernel
theorem dL_law_412 : decode cL_law 412 = .ok (.iadd, 1) := by decide +kernel
theorem dL_law_413 : decode cL_law 413 = .ok (.iaload, 1) := by decide +kernel
theorem dL_law_414 : decode cL_law 414 = .ok (.aload_n 0, 1) := by decide +kernel
theorem dL_law_415 : decode cL_law 415 = .ok (.iload_n 3, 1) := by decide +kernel
theorem dL_law_416 : decode cL_law 416 = .ok (.iconst 2, 1) := by decide +kernel
theorem dL_law_417 : decode cL_law 417 = .ok (.iadd, 1) := by decide +kernel
theorem dL_law_418 : decode cL_law 418 = .ok (.iaload, 1) := by decide +kernel
theorem dL_law_419 : decode cL_law 419 = .ok (.invokevirtual 51, 3) := by decide +kernel
theorem dL_law_422 : decode cL_law 422 = .ok (.aload_n 2, 1) := by decide +kernel
theorem dL_law_423 : decode cL_law 423 = .ok (.aload_n 0, 1) := by decide +kernel
theorem dL_law_424 : decode cL_law 424 = .ok (.iload_n 3, 1) := by decide +kernel
theorem dL_law_425 : decode cL_law 425 = .ok (.iconst 1, 1) := by decide +kernel
theorem dL_law_426 : decode cL_law 426 = .ok (.iadd, 1) := by decide +kernel
theorem dL_law_427 : decode cL_law 427 = .ok (.iaload, 1) := by decide +kernel
theorem dL_law_428 : decode cL_law 428 = .ok (.aload_n 0, 1) := by decide +kernel
theorem dL_law_429 : decode cL_law 429 = .ok (.iload_n 3, 1) := by decide +kernel
theorem dL_law_430 : decode cL_law 430 = .ok (.iconst 2, 1) := by decide +kernel
theorem dL_law_431 : decode cL_law 431 = .ok (.iadd, 1) := by decide +kernel
theorem dL_law_432 : decode cL_law 432 = .ok (.iaload, 1) := by decide +kernel
theorem dL_law_433 : decode cL_law 433 = .ok (.invokevirtual 54, 3) := by decide +kernel
theorem dL_law_436 : decode cL_law 436 = .ok (.if_icmp .eq 477, 3) := by decide +kernel
theorem dL_law_439 : decode cL_law 439 = .ok (.iconst 0, 1) := by decide +kernel
theorem dL_law_440 : decode cL_law 440 = .ok (.ireturn, 1) := by decide +kernel
theorem dL_law_441 : decode cL_law 441 = .ok (.aload_n 1, 1) := by decide +kernel
theorem dL_law_442 : decode cL_law 442 = .ok (.aload_n 0, 1) := by decide +kernel
theorem dL_law_443 : decode cL_law 443 = .ok (.iload_n 3, 1) := by decide +kernel
theorem dL_law_444 : decode cL_law 444 = .ok (.iconst 1, 1) := by decide +kernel
theorem dL_law_445 : decode cL_law 445 = .ok (.iadd, 1) := by decide +kernel
theorem dL_law_446 : decode cL_law 446 = .ok (.iaload, 1) := by decide +kernel
theorem dL_law_447 : decode cL_law 447 = .ok (.invokevirtual 55, 3) := by decide +kernel
theorem dL_law_450 : decode cL_law 450 = .ok (.aload_n 2, 1) := by decide +kernel
theorem dL_law_451 : decode cL_law 451 = .ok (.aload_n 0, 1) := by decide +kernel
theorem dL_law_452 : decode cL_law 452 = .ok (.iload_n 3, 1) := by decide +kernel
theorem dL_law_453 : decode cL_law 453 = .ok (.iconst 1, 1) := by decide +kernel
theorem dL_law_454 : decode cL_law 454 = .ok (.iadd, 1) := by decide +kernel
theorem dL_law_455 : decode cL_law 455 = .ok (.iaload, 1) := by decide +kernel
theorem dL_law_456 : decode cL_law 456 = .ok (.invokevirtual 58, 3) := by decide +kernel
theorem dL_law_459 : decode cL_law 459 = .ok (.if_icmp .eq 454, 3) := by decide +kernel
theorem dL_law_462 : decode cL_law 462 = .ok (.iconst 0, 1) := by decide +kernel
theorem dL_law_463 : decode cL_law 463 = .ok (.ireturn, 1) := by decide +kernel
theorem dL_law_464 : decode cL_law 464 = .ok (.aload_n 1, 1) := by decide +kernel
theorem dL_law_465 : decode cL_law 465 = .ok (.aload_n 0, 1) := by decide +kernel
theorem dL_law_466 : decode cL_law 466 = .ok (.iload_n 3, 1) := by decide +kernel
theorem dL_law_467 : decode cL_law 467 = .ok (.iconst 1, 1) := by decide +kernel
theorem dL_law_468 : decode cL_law 468 = .ok (.iadd, 1) := by decide +kernel
theorem dL_law_469 : decode cL_law 469 = .ok (.iaload, 1) := by decide +kernel
theorem dL_law_470 : decode cL_law 470 = .ok (.aload_n 0, 1) := by decide +kernel
theorem dL_law_471 : decode cL_law 471 = .ok (.iload_n 3, 1) := by decide +kernel
theorem dL_law_472 : decode cL_law 472 = .ok (.iconst 2, 1) := by decide +kernel
theorem dL_law_473 : decode cL_law 473 = .ok (.iadd, 1) := by decide +kernel
theorem dL_law_474 : decode cL_law 474 = .ok (.iaload, 1) := by decide +kernel
theorem dL_law_475 : decode cL_law 475 = .ok (.invokevirtual 59, 3) := by decide +kernel
theorem dL_law_478 : decode cL_law 478 = .ok (.aload_n 2, 1) := by decide +kernel
theorem dL_law_479 : decode cL_law 479 = .ok (.aload_n 0, 1) := by decide +kernel
theorem dL_law_480 : decode cL_law 480 = .ok (.iload_n 3, 1) := by decide +kernel
theorem dL_law_481 : decode cL_law 481 = .ok (.iconst 1, 1) := by decide +kernel
theorem dL_law_482 : decode cL_law 482 = .ok (.iadd, 1) := by decide +kernel
theorem dL_law_483 : decode cL_law 483 = .ok (.iaload, 1) := by decide +kernel
theorem dL_law_484 : decode cL_law 484 = .ok (.aload_n 0, 1) := by decide +kernel
theorem dL_law_485 : decode cL_law 485 = .ok (.iload_n 3, 1) := by decide +kernel
theorem dL_law_486 : decode cL_law 486 = .ok (.iconst 2, 1) := by decide +kernel
theorem dL_law_487 : decode cL_law 487 = .ok (.iadd, 1) := by decide +kernel
theorem dL_law_488 : decode cL_law 488 = .ok (.iaload, 1) := by decide +kernel
theorem dL_law_489 : decode cL_law 489 = .ok (.invokevirtual 62, 3) := by decide +kernel
theorem dL_law_492 : decode cL_law 492 = .ok (.if_icmp .eq 421, 3) := by decide +kernel
theorem dL_law_495 : decode cL_law 495 = .ok (.iconst 0, 1) := by decide +kernel
theorem dL_law_496 : decode cL_law 496 = .ok (.ireturn, 1) := by decide +kernel
theorem dL_law_497 : decode cL_law 497 = .ok (.aload_n 1, 1) := by decide +kernel
theorem dL_law_498 : decode cL_law 498 = .ok (.aload_n 0, 1) := by decide +kernel
theorem dL_law_499 : decode cL_law 499 = .ok (.iload_n 3, 1) := by decide +kernel
theorem dL_law_500 : decode cL_law 500 = .ok (.iconst 1, 1) := by decide +kernel
theorem dL_law_501 : decode cL_law 501 = .ok (.iadd, 1) := by decide +kernel
theorem dL_law_502 : decode cL_law 502 = .ok (.iaload, 1) := by decide +kernel
theorem dL_law_503 : decode cL_law 503 = .ok (.aload_n 0, 1) := by decide +kernel
theorem dL_law_504 : decode cL_law 504 = .ok (.iload_n 3, 1) := by decide +kernel
theorem dL_law_505 : decode cL_law 505 = .ok (.iconst 2, 1) := by decide +kernel
theorem dL_law_506 : decode cL_law 506 = .ok (.iadd, 1) := by decide +kernel
theorem dL_law_507 : decode cL_law 507 = .ok (.iaload, 1) := by decide +kernel
theorem dL_law_508 : decode cL_law 508 = .ok (.invokevirtual 63, 3) := by decide +kernel
theorem dL_law_511 : decode cL_law 511 = .ok (.aload_n 2, 1) := by decide +kernel
theorem dL_law_512 : decode cL_law 512 = .ok (.aload_n 0, 1) := by decide +kernel
theorem dL_law_513 : decode cL_law 513 = .ok (.iload_n 3, 1) := by decide +kernel
theorem dL_law_514 : decode cL_law 514 = .ok (.iconst 1, 1) := by decide +kernel
theorem dL_law_515 : decode cL_law 515 = .ok (.iadd, 1) := by decide +kernel
theorem dL_law_516 : decode cL_law 516 = .ok (.iaload, 1) := by decide +kernel
theorem dL_law_517 : decode cL_law 517 = .ok (.aload_n 0, 1) := by decide +kernel
theorem dL_law_518 : decode cL_law 518 = .ok (.iload_n 3, 1) := by decide +kernel
theorem dL_law_519 : decode cL_law 519 = .ok (.iconst 2, 1) := by decide +kernel
theorem dL_law_520 : decode cL_law 520 = .ok (.iadd, 1) := by decide +kernel
theorem dL_law_521 : decode cL_law 521 = .ok (.iaload, 1) := by decide +kernel
theorem dL_law_522 : decode cL_law 522 = .ok (.invokevirtual 66, 3) := by decide +kernel
theorem dL_law_525 : decode cL_law 525 = .ok (.if_icmp .eq 388, 3) := by decide +kernel
theorem dL_law_528 : decode cL_law 528 = .ok (.iconst 0, 1) := by decide +kernel
theorem dL_law_529 : decode cL_law 529 = .ok (.ireturn, 1) := by decide +kernel
theorem dL_law_530 : decode cL_law 530 = .ok (.aload_n 1, 1) := by decide +kernel
theorem dL_law_531 : decode cL_law 531 = .ok (.aload_n 0, 1) := by decide +kernel
theorem dL_law_532 : decode cL_law 532 = .ok (.iload_n 3, 1) := by decide +kernel
theorem dL_law_533 : decode cL_law 533 = .ok (.iconst 1, 1) := by decide +kernel
theorem dL_law_534 : decode cL_law 534 = .ok (.iadd, 1) := by decide +kernel
theorem dL_law_535 : decode cL_law 535 = .ok (.iaload, 1) := by decide +kernel
theorem dL_law_536 : decode cL_law 536 = .ok (.invokevirtual 67, 3) := by decide +kernel
theorem dL_law_539 : decode cL_law 539 = .ok (.aload_n 2, 1) := by decide +kernel
theorem dL_law_540 : decode cL_law 540 = .ok (.aload_n 0, 1) := by decide +kernel
theorem dL_law_541 : decode cL_law 541 = .ok (.iload_n 3, 1) := by decide +kernel
theorem dL_law_542 : decode cL_law 542 = .ok (.iconst 1, 1) := by decide +kernel
theorem dL_law_543 : decode cL_law 543 = .ok (.iadd, 1) := by decide +kernel
theorem dL_law_544 : decode cL_law 544 = .ok (.iaload, 1) := by decide +kernel
theorem dL_law_545 : decode cL_law 545 = .ok (.invokevirtual 70, 3) := by decide +kernel
theorem dL_law_548 : decode cL_law 548 = .ok (.if_icmp .eq 365, 3) := by decide +kernel
theorem dL_law_551 : decode cL_law 551 = .ok (.iconst 0, 1) := by decide +kernel
theorem dL_law_552 : decode cL_law 552 = .ok (.ireturn, 1) := by decide +kernel
theorem dL_law_553 : decode cL_law 553 = .ok (.aload_n 1, 1) := by decide +kernel
theorem dL_law_554 : decode cL_law 554 = .ok (.aload_n 0, 1) := by decide +kernel
theorem dL_law_555 : decode cL_law 555 = .ok (.iload_n 3, 1) := by decide +kernel
theorem dL_law_556 : decode cL_law 556 = .ok (.iconst 1, 1) := by decide +kernel
theorem dL_law_557 : decode cL_law 557 = .ok (.iadd, 1) := by decide +kernel
theorem dL_law_558 : decode cL_law 558 = .ok (.iaload, 1) := by decide +kernel
theorem dL_law_559 : decode cL_law 559 = .ok (.aload_n 0, 1) := by decide +kernel
theorem dL_law_560 : decode cL_law 560 = .ok (.iload_n 3, 1) := by decide +kernel
theorem dL_law_561 : decode cL_law 561 = .ok (.iconst 2, 1) := by decide +kernel
theorem dL_law_562 : decode cL_law 562 = .ok (.iadd, 1) := by decide +kernel
theorem dL_law_563 : decode cL_law 563 = .ok (.iaload, 1) := by decide +kernel
theorem dL_law_564 : decode cL_law 564 = .ok (.invokevirtual 71, 3) := by decide +kernel
theorem dL_law_567 : decode cL_law 567 = .ok (.aload_n 2, 1) := by decide +kernel
theorem dL_law_568 : decode cL_law 568 = .ok (.aload_n 0, 1) := by decide +kernel
theorem dL_law_569 : decode cL_law 569 = .ok (.iload_n 3, 1) := by decide +kernel
theorem dL_law_570 : decode cL_law 570 = .ok (.iconst 1, 1) := by decide +kernel
theorem dL_law_571 : decode cL_law 571 = .ok (.iadd, 1) := by decide +kernel
theorem dL_law_572 : decode cL_law 572 = .ok (.iaload, 1) := by decide +kernel
theorem dL_law_573 : decode cL_law 573 = .ok (.aload_n 0, 1) := by decide +kernel
theorem dL_law_574 : decode cL_law 574 = .ok (.iload_n 3, 1) := by decide +kernel
theorem dL_law_575 : decode cL_law 575 = .ok (.iconst 2, 1) := by decide +kernel
theorem dL_law_576 : decode cL_law 576 = .ok (.iadd, 1) := by decide +kernel
theorem dL_law_577 : decode cL_law 577 = .ok (.iaload, 1) := by decide +kernel
theorem dL_law_578 : decode cL_law 578 = .ok (.invokevirtual 74, 3) := by decide +kernel
theorem dL_law_581 : decode cL_law 581 = .ok (.if_icmp .eq 332, 3) := by decide +kernel
theorem dL_law_584 : decode cL_law 584 = .ok (.iconst 0, 1) := by decide +kernel
theorem dL_law_585 : decode cL_law 585 = .ok (.ireturn, 1) := by decide +kernel
theorem dL_law_586 : decode cL_law 586 = .ok (.aload_n 1, 1) := by decide +kernel
theorem dL_law_587 : decode cL_law 587 = .ok (.aload_n 0, 1) := by decide +kernel
theorem dL_law_588 : decode cL_law 588 = .ok (.iload_n 3, 1) := by decide +kernel
theorem dL_law_589 : decode cL_law 589 = .ok (.iconst 1, 1) := by decide +kernel
theorem dL_law_590 : decode cL_law 590 = .ok (.iadd, 1) := by decide +kernel
theorem dL_law_591 : decode cL_law 591 = .ok (.iaload, 1) := by decide +kernel
theorem dL_law_592 : decode cL_law 592 = .ok (.invokevirtual 75, 3) := by decide +kernel
theorem dL_law_595 : decode cL_law 595 = .ok (.aload_n 2, 1) := by decide +kernel
theorem dL_law_596 : decode cL_law 596 = .ok (.aload_n 0, 1) := by decide +kernel
theorem dL_law_597 : decode cL_law 597 = .ok (.iload_n 3, 1) := by decide +kernel
theorem dL_law_598 : decode cL_law 598 = .ok (.iconst 1, 1) := by decide +kernel
theorem dL_law_599 : decode cL_law 599 = .ok (.iadd, 1) := by decide +kernel
theorem dL_law_600 : decode cL_law 600 = .ok (.iaload, 1) := by decide +kernel
theorem dL_law_601 : decode cL_law 601 = .ok (.invokevirtual 78, 3) := by decide +kernel
theorem dL_law_604 : decode cL_law 604 = .ok (.if_icmp .eq 309, 3) := by decide +kernel
theorem dL_law_607 : decode cL_law 607 = .ok (.iconst 0, 1) := by decide +kernel
theorem dL_law_608 : decode cL_law 608 = .ok (.ireturn, 1) := by decide +kernel
theorem dL_law_609 : decode cL_law 609 = .ok (.aload_n 1, 1) := by decide +kernel
theorem dL_law_610 : decode cL_law 610 = .ok (.invokevirtual 79, 3) := by decide +kernel
theorem dL_law_613 : decode cL_law 613 = .ok (.aload_n 2, 1) := by decide +kernel
theorem dL_law_614 : decode cL_law 614 = .ok (.invokevirtual 82, 3) := by decide +kernel
theorem dL_law_617 : decode cL_law 617 = .ok (.if_icmp .eq 296, 3) := by decide +kernel
theorem dL_law_620 : decode cL_law 620 = .ok (.iconst 0, 1) := by decide +kernel
theorem dL_law_621 : decode cL_law 621 = .ok (.ireturn, 1) := by decide +kernel
theorem dL_law_622 : decode cL_law 622 = .ok (.aload_n 1, 1) := by decide +kernel
theorem dL_law_623 : decode cL_law 623 = .ok (.invokevirtual 83, 3) := by decide +kernel
theorem dL_law_626 : decode cL_law 626 = .ok (.aload_n 2, 1) := by decide +kernel
theorem dL_law_627 : decode cL_law 627 = .ok (.invokevirtual 86, 3) := by decide +kernel
theorem dL_law_630 : decode cL_law 630 = .ok (.if_icmp .eq 283, 3) := by decide +kernel
theorem dL_law_633 : decode cL_law 633 = .ok (.iconst 0, 1) := by decide +kernel
theorem dL_law_634 : decode cL_law 634 = .ok (.ireturn, 1) := by decide +kernel
theorem dL_law_635 : decode cL_law 635 = .ok (.aload_n 1, 1) := by decide +kernel
theorem dL_law_636 : decode cL_law 636 = .ok (.aload_n 0, 1) := by decide +kernel
theorem dL_law_637 : decode cL_law 637 = .ok (.iload_n 3, 1) := by decide +kernel
theorem dL_law_638 : decode cL_law 638 = .ok (.iconst 1, 1) := by decide +kernel
theorem dL_law_639 : decode cL_law 639 = .ok (.iadd, 1) := by decide +kernel
theorem dL_law_640 : decode cL_law 640 = .ok (.iaload, 1) := by decide +kernel
theorem dL_law_641 : decode cL_law 641 = .ok (.aload_n 0, 1) := by decide +kernel
theorem dL_law_642 : decode cL_law 642 = .ok (.iload_n 3, 1) := by decide +kernel
theorem dL_law_643 : decode cL_law 643 = .ok (.iconst 2, 1) := by decide +kernel
theorem dL_law_644 : decode cL_law 644 = .ok (.iadd, 1) := by decide +kernel
theorem dL_law_645 : decode cL_law 645 = .ok (.iaload, 1) := by decide +kernel
theorem dL_law_646 : decode cL_law 646 = .ok (.invokevirtual 87, 3) := by decide +kernel
theorem dL_law_649 : decode cL_law 649 = .ok (.aload_n 2, 1) := by decide +kernel
theorem dL_law_650 : decode cL_law 650 = .ok (.aload_n 0, 1) := by decide +kernel
theorem dL_law_651 : decode cL_law 651 = .ok (.iload_n 3, 1) := by decide +kernel
theorem dL_law_652 : decode cL_law 652 = .ok (.iconst 1, 1) := by decide +kernel
theorem dL_law_653 : decode cL_law 653 = .ok (.iadd, 1) := by decide +kernel
theorem dL_law_654 : decode cL_law 654 = .ok (.iaload, 1) := by decide +kernel
theorem dL_law_655 : decode cL_law 655 = .ok (.aload_n 0, 1) := by decide +kernel
theorem dL_law_656 : decode cL_law 656 = .ok (.iload_n 3, 1) := by decide +kernel
theorem dL_law_657 : decode cL_law 657 = .ok (.iconst 2, 1) := by decide +kernel
theorem dL_law_658 : decode cL_law 658 = .ok (.iadd, 1) := by decide +kernel
theorem dL_law_659 : decode cL_law 659 = .ok (.iaload, 1) := by decide +kernel
theorem dL_law_660 : decode cL_law 660 = .ok (.invokevirtual 90, 3) := by decide +kernel
theorem dL_law_663 : decode cL_law 663 = .ok (.if_icmp .eq 250, 3) := by decide +kernel
theorem dL_law_666 : decode cL_law 666 = .ok (.iconst 0, 1) := by decide +kernel
theorem dL_law_667 : decode cL_law 667 = .ok (.ireturn, 1) := by decide +kernel
theorem dL_law_668 : decode cL_law 668 = .ok (.aload_n 1, 1) := by decide +kernel
theorem dL_law_669 : decode cL_law 669 = .ok (.invokevirtual 91, 3) := by decide +kernel
theorem dL_law_672 : decode cL_law 672 = .ok (.aload_n 2, 1) := by decide +kernel
theorem dL_law_673 : decode cL_law 673 = .ok (.invokevirtual 94, 3) := by decide +kernel
theorem dL_law_676 : decode cL_law 676 = .ok (.if_icmp .eq 237, 3) := by decide +kernel
theorem dL_law_679 : decode cL_law 679 = .ok (.iconst 0, 1) := by decide +kernel
theorem dL_law_680 : decode cL_law 680 = .ok (.ireturn, 1) := by decide +kernel
theorem dL_law_681 : decode cL_law 681 = .ok (.aload_n 1, 1) := by decide +kernel
theorem dL_law_682 : decode cL_law 682 = .ok (.aload_n 0, 1) := by decide +kernel
theorem dL_law_683 : decode cL_law 683 = .ok (.iload_n 3, 1) := by decide +kernel
theorem dL_law_684 : decode cL_law 684 = .ok (.iconst 1, 1) := by decide +kernel
theorem dL_law_685 : decode cL_law 685 = .ok (.iadd, 1) := by decide +kernel
theorem dL_law_686 : decode cL_law 686 = .ok (.iaload, 1) := by decide +kernel
theorem dL_law_687 : decode cL_law 687 = .ok (.aload_n 0, 1) := by decide +kernel
theorem dL_law_688 : decode cL_law 688 = .ok (.iload_n 3, 1) := by decide +kernel
theorem dL_law_689 : decode cL_law 689 = .ok (.iconst 2, 1) := by decide +kernel
theorem dL_law_690 : decode cL_law 690 = .ok (.iadd, 1) := by decide +kernel
theorem dL_law_691 : decode cL_law 691 = .ok (.iaload, 1) := by decide +kernel
theorem dL_law_692 : decode cL_law 692 = .ok (.invokevirtual 95, 3) := by decide +kernel
theorem dL_law_695 : decode cL_law 695 = .ok (.aload_n 2, 1) := by decide +kernel
theorem dL_law_696 : decode cL_law 696 = .ok (.aload_n 0, 1) := by decide +kernel
theorem dL_law_697 : decode cL_law 697 = .ok (.iload_n 3, 1) := by decide +kernel
theorem dL_law_698 : decode cL_law 698 = .ok (.iconst 1, 1) := by decide +kernel
theorem dL_law_699 : decode cL_law 699 = .ok (.iadd, 1) := by decide +kernel
theorem dL_law_700 : decode cL_law 700 = .ok (.iaload, 1) := by decide +kernel
theorem dL_law_701 : decode cL_law 701 = .ok (.aload_n 0, 1) := by decide +kernel
theorem dL_law_702 : decode cL_law 702 = .ok (.iload_n 3, 1) := by decide +kernel
theorem dL_law_703 : decode cL_law 703 = .ok (.iconst 2, 1) := by decide +kernel
theorem dL_law_704 : decode cL_law 704 = .ok (.iadd, 1) := by decide +kernel
theorem dL_law_705 : decode cL_law 705 = .ok (.iaload, 1) := by decide +kernel
theorem dL_law_706 : decode cL_law 706 = .ok (.invokevirtual 99, 3) := by decide +kernel
theorem dL_law_709 : decode cL_law 709 = .ok (.lcmp, 1) := by decide +kernel
theorem dL_law_710 : decode cL_law 710 = .ok (.ifCond .eq 203, 3) := by decide +kernel
theorem dL_law_713 : decode cL_law 713 = .ok (.iconst 0, 1) := by decide +kernel
theorem dL_law_714 : decode cL_law 714 = .ok (.ireturn, 1) := by decide +kernel
theorem dL_law_715 : decode cL_law 715 = .ok (.aload_n 1, 1) := by decide +kernel
theorem dL_law_716 : decode cL_law 716 = .ok (.aload_n 0, 1) := by decide +kernel
theorem dL_law_717 : decode cL_law 717 = .ok (.iload_n 3, 1) := by decide +kernel
theorem dL_law_718 : decode cL_law 718 = .ok (.iconst 1, 1) := by decide +kernel
theorem dL_law_719 : decode cL_law 719 = .ok (.iadd, 1) := by decide +kernel
theorem dL_law_720 : decode cL_law 720 = .ok (.iaload, 1) := by decide +kernel
theorem dL_law_721 : decode cL_law 721 = .ok (.aload_n 0, 1) := by decide +kernel
theorem dL_law_722 : decode cL_law 722 = .ok (.iload_n 3, 1) := by decide +kernel
theorem dL_law_723 : decode cL_law 723 = .ok (.iconst 2, 1) := by decide +kernel
theorem dL_law_724 : decode cL_law 724 = .ok (.iadd, 1) := by decide +kernel
theorem dL_law_725 : decode cL_law 725 = .ok (.iaload, 1) := by decide +kernel
theorem dL_law_726 : decode cL_law 726 = .ok (.invokevirtual 100, 3) := by decide +kernel
theorem dL_law_729 : decode cL_law 729 = .ok (.aload_n 2, 1) := by decide +kernel
theorem dL_law_730 : decode cL_law 730 = .ok (.aload_n 0, 1) := by decide +kernel
theorem dL_law_731 : decode cL_law 731 = .ok (.iload_n 3, 1) := by decide +kernel
theorem dL_law_732 : decode cL_law 732 = .ok (.iconst 1, 1) := by decide +kernel
theorem dL_law_733 : decode cL_law 733 = .ok (.iadd, 1) := by decide +kernel
theorem dL_law_734 : decode cL_law 734 = .ok (.iaload, 1) := by decide +kernel
theorem dL_law_735 : decode cL_law 735 = .ok (.aload_n 0, 1) := by decide +kernel
theorem dL_law_736 : decode cL_law 736 = .ok (.iload_n 3, 1) := by decide +kernel
theorem dL_law_737 : decode cL_law 737 = .ok (.iconst 2, 1) := by decide +kernel
theorem dL_law_738 : decode cL_law 738 = .ok (.iadd, 1) := by decide +kernel
theorem dL_law_739 : decode cL_law 739 = .ok (.iaload, 1) := by decide +kernel
theorem dL_law_740 : decode cL_law 740 = .ok (.invokevirtual 103, 3) := by decide +kernel
theorem dL_law_743 : decode cL_law 743 = .ok (.if_icmp .eq 170, 3) := by decide +kernel
theorem dL_law_746 : decode cL_law 746 = .ok (.iconst 0, 1) := by decide +kernel
theorem dL_law_747 : decode cL_law 747 = .ok (.ireturn, 1) := by decide +kernel
theorem dL_law_748 : decode cL_law 748 = .ok (.aload_n 1, 1) := by decide +kernel
theorem dL_law_749 : decode cL_law 749 = .ok (.invokevirtual 104, 3) := by decide +kernel
theorem dL_law_752 : decode cL_law 752 = .ok (.aload_n 2, 1) := by decide +kernel
theorem dL_law_753 : decode cL_law 753 = .ok (.invokevirtual 107, 3) := by decide +kernel
theorem dL_law_756 : decode cL_law 756 = .ok (.if_icmp .eq 157, 3) := by decide +kernel
theorem dL_law_759 : decode cL_law 759 = .ok (.iconst 0, 1) := by decide +kernel
theorem dL_law_760 : decode cL_law 760 = .ok (.ireturn, 1) := by decide +kernel
theorem dL_law_761 : decode cL_law 761 = .ok (.aload_n 1, 1) := by decide +kernel
theorem dL_law_762 : decode cL_law 762 = .ok (.invokevirtual 108, 3) := by decide +kernel
theorem dL_law_765 : decode cL_law 765 = .ok (.aload_n 2, 1) := by decide +kernel
theorem dL_law_766 : decode cL_law 766 = .ok (.invokevirtual 111, 3) := by decide +kernel
theorem dL_law_769 : decode cL_law 769 = .ok (.if_icmp .eq 144, 3) := by decide +kernel
theorem dL_law_772 : decode cL_law 772 = .ok (.iconst 0, 1) := by decide +kernel
theorem dL_law_773 : decode cL_law 773 = .ok (.ireturn, 1) := by decide +kernel
theorem dL_law_774 : decode cL_law 774 = .ok (.aload_n 1, 1) := by decide +kernel
theorem dL_law_775 : decode cL_law 775 = .ok (.aload_n 0, 1) := by decide +kernel
theorem dL_law_776 : decode cL_law 776 = .ok (.iload_n 3, 1) := by decide +kernel
theorem dL_law_777 : decode cL_law 777 = .ok (.iconst 1, 1) := by decide +kernel
theorem dL_law_778 : decode cL_law 778 = .ok (.iadd, 1) := by decide +kernel
theorem dL_law_779 : decode cL_law 779 = .ok (.iaload, 1) := by decide +kernel
theorem dL_law_780 : decode cL_law 780 = .ok (.invokevirtual 112, 3) := by decide +kernel
theorem dL_law_783 : decode cL_law 783 = .ok (.aload_n 2, 1) := by decide +kernel
theorem dL_law_784 : decode cL_law 784 = .ok (.aload_n 0, 1) := by decide +kernel
theorem dL_law_785 : decode cL_law 785 = .ok (.iload_n 3, 1) := by decide +kernel
theorem dL_law_786 : decode cL_law 786 = .ok (.iconst 1, 1) := by decide +kernel
theorem dL_law_787 : decode cL_law 787 = .ok (.iadd, 1) := by decide +kernel
theorem dL_law_788 : decode cL_law 788 = .ok (.iaload, 1) := by decide +kernel
theorem dL_law_789 : decode cL_law 789 = .ok (.invokevirtual 115, 3) := by decide +kernel
theorem dL_law_792 : decode cL_law 792 = .ok (.if_icmp .eq 121, 3) := by decide +kernel
theorem dL_law_795 : decode cL_law 795 = .ok (.iconst 0, 1) := by decide +kernel
theorem dL_law_796 : decode cL_law 796 = .ok (.ireturn, 1) := by decide +kernel
theorem dL_law_797 : decode cL_law 797 = .ok (.aload_n 1, 1) := by decide +kernel
theorem dL_law_798 : decode cL_law 798 = .ok (.aload_n 0, 1) := by decide +kernel
theorem dL_law_799 : decode cL_law 799 = .ok (.iload_n 3, 1) := by decide +kernel
theorem dL_law_800 : decode cL_law 800 = .ok (.iconst 1, 1) := by decide +kernel
theorem dL_law_801 : decode cL_law 801 = .ok (.iadd, 1) := by decide +kernel
theorem dL_law_802 : decode cL_law 802 = .ok (.iaload, 1) := by decide +kernel
theorem dL_law_803 : decode cL_law 803 = .ok (.aload_n 0, 1) := by decide +kernel
theorem dL_law_804 : decode cL_law 804 = .ok (.iload_n 3, 1) := by decide +kernel
theorem dL_law_805 : decode cL_law 805 = .ok (.iconst 2, 1) := by decide +kernel
theorem dL_law_806 : decode cL_law 806 = .ok (.iadd, 1) := by decide +kernel
theorem dL_law_807 : decode cL_law 807 = .ok (.iaload, 1) := by decide +kernel
theorem dL_law_808 : decode cL_law 808 = .ok (.invokevirtual 116, 3) := by decide +kernel
theorem dL_law_811 : decode cL_law 811 = .ok (.aload_n 2, 1) := by decide +kernel
theorem dL_law_812 : decode cL_law 812 = .ok (.aload_n 0, 1) := by decide +kernel
theorem dL_law_813 : decode cL_law 813 = .ok (.iload_n 3, 1) := by decide +kernel
theorem dL_law_814 : decode cL_law 814 = .ok (.iconst 1, 1) := by decide +kernel
theorem dL_law_815 : decode cL_law 815 = .ok (.iadd, 1) := by decide +kernel
theorem dL_law_816 : decode cL_law 816 = .ok (.iaload, 1) := by decide +kernel
theorem dL_law_817 : decode cL_law 817 = .ok (.aload_n 0, 1) := by decide +kernel
theorem dL_law_818 : decode cL_law 818 = .ok (.iload_n 3, 1) := by decide +kernel
theorem dL_law_819 : decode cL_law 819 = .ok (.iconst 2, 1) := by decide +kernel
theorem dL_law_820 : decode cL_law 820 = .ok (.iadd, 1) := by decide +kernel
theorem dL_law_821 : decode cL_law 821 = .ok (.iaload, 1) := by decide +kernel
theorem dL_law_822 : decode cL_law 822 = .ok (.invokevirtual 119, 3) := by decide +kernel
theorem dL_law_825 : decode cL_law 825 = .ok (.if_icmp .eq 88, 3) := by decide +kernel
theorem dL_law_828 : decode cL_law 828 = .ok (.iconst 0, 1) := by decide +kernel
theorem dL_law_829 : decode cL_law 829 = .ok (.ireturn, 1) := by decide +kernel
theorem dL_law_830 : decode cL_law 830 = .ok (.aload_n 1, 1) := by decide +kernel
theorem dL_law_831 : decode cL_law 831 = .ok (.aload_n 0, 1) := by decide +kernel
theorem dL_law_832 : decode cL_law 832 = .ok (.iload_n 3, 1) := by decide +kernel
theorem dL_law_833 : decode cL_law 833 = .ok (.iconst 1, 1) := by decide +kernel
theorem dL_law_834 : decode cL_law 834 = .ok (.iadd, 1) := by decide +kernel
theorem dL_law_835 : decode cL_law 835 = .ok (.iaload, 1) := by decide +kernel
theorem dL_law_836 : decode cL_law 836 = .ok (.invokevirtual 120, 3) := by decide +kernel
theorem dL_law_839 : decode cL_law 839 = .ok (.aload_n 2, 1) := by decide +kernel
theorem dL_law_840 : decode cL_law 840 = .ok (.aload_n 0, 1) := by decide +kernel
theorem dL_law_841 : decode cL_law 841 = .ok (.iload_n 3, 1) := by decide +kernel
theorem dL_law_842 : decode cL_law 842 = .ok (.iconst 1, 1) := by decide +kernel
theorem dL_law_843 : decode cL_law 843 = .ok (.iadd, 1) := by decide +kernel
theorem dL_law_844 : decode cL_law 844 = .ok (.iaload, 1) := by decide +kernel
theorem dL_law_845 : decode cL_law 845 = .ok (.invokevirtual 123, 3) := by decide +kernel
theorem dL_law_848 : decode cL_law 848 = .ok (.if_icmp .eq 65, 3) := by decide +kernel
theorem dL_law_851 : decode cL_law 851 = .ok (.iconst 0, 1) := by decide +kernel
theorem dL_law_852 : decode cL_law 852 = .ok (.ireturn, 1) := by decide +kernel
theorem dL_law_853 : decode cL_law 853 = .ok (.aload_n 1, 1) := by decide +kernel
theorem dL_law_854 : decode cL_law 854 = .ok (.aload_n 0, 1) := by decide +kernel
theorem dL_law_855 : decode cL_law 855 = .ok (.iload_n 3, 1) := by decide +kernel
theorem dL_law_856 : decode cL_law 856 = .ok (.iconst 1, 1) := by decide +kernel
theorem dL_law_857 : decode cL_law 857 = .ok (.iadd, 1) := by decide +kernel
theorem dL_law_858 : decode cL_law 858 = .ok (.iaload, 1) := by decide +kernel
theorem dL_law_859 : decode cL_law 859 = .ok (.invokevirtual 124, 3) := by decide +kernel
theorem dL_law_862 : decode cL_law 862 = .ok (.aload_n 2, 1) := by decide +kernel
theorem dL_law_863 : decode cL_law 863 = .ok (.aload_n 0, 1) := by decide +kernel
theorem dL_law_864 : decode cL_law 864 = .ok (.iload_n 3, 1) := by decide +kernel
theorem dL_law_865 : decode cL_law 865 = .ok (.iconst 1, 1) := by decide +kernel
theorem dL_law_866 : decode cL_law 866 = .ok (.iadd, 1) := by decide +kernel
theorem dL_law_867 : decode cL_law 867 = .ok (.iaload, 1) := by decide +kernel
theorem dL_law_868 : decode cL_law 868 = .ok (.invokevirtual 127, 3) := by decide +kernel
theorem dL_law_871 : decode cL_law 871 = .ok (.if_icmp .eq 42, 3) := by decide +kernel
theorem dL_law_874 : decode cL_law 874 = .ok (.iconst 0, 1) := by decide +kernel
theorem dL_law_875 : decode cL_law 875 = .ok (.ireturn, 1) := by decide +kernel
theorem dL_law_876 : decode cL_law 876 = .ok (.aload_n 1, 1) := by decide +kernel
theorem dL_law_877 : decode cL_law 877 = .ok (.aload_n 0, 1) := by decide +kernel
theorem dL_law_878 : decode cL_law 878 = .ok (.iload_n 3, 1) := by decide +kernel
theorem dL_law_879 : decode cL_law 879 = .ok (.iconst 1, 1) := by decide +kernel
theorem dL_law_880 : decode cL_law 880 = .ok (.iadd, 1) := by decide +kernel
theorem dL_law_881 : decode cL_law 881 = .ok (.iaload, 1) := by decide +kernel
theorem dL_law_882 : decode cL_law 882 = .ok (.invokevirtual 128, 3) := by decide +kernel
theorem dL_law_885 : decode cL_law 885 = .ok (.aload_n 2, 1) := by decide +kernel
theorem dL_law_886 : decode cL_law 886 = .ok (.aload_n 0, 1) := by decide +kernel
theorem dL_law_887 : decode cL_law 887 = .ok (.iload_n 3, 1) := by decide +kernel
theorem dL_law_888 : decode cL_law 888 = .ok (.iconst 1, 1) := by decide +kernel
theorem dL_law_889 : decode cL_law 889 = .ok (.iadd, 1) := by decide +kernel
theorem dL_law_890 : decode cL_law 890 = .ok (.iaload, 1) := by decide +kernel
theorem dL_law_891 : decode cL_law 891 = .ok (.invokevirtual 131, 3) := by decide +kernel
theorem dL_law_894 : decode cL_law 894 = .ok (.if_icmp .eq 19, 3) := by decide +kernel
theorem dL_law_897 : decode cL_law 897 = .ok (.iconst 0, 1) := by decide +kernel
theorem dL_law_898 : decode cL_law 898 = .ok (.ireturn, 1) := by decide +kernel
theorem dL_law_899 : decode cL_law 899 = .ok (.aload_n 1, 1) := by decide +kernel
theorem dL_law_900 : decode cL_law 900 = .ok (.invokevirtual 132, 3) := by decide +kernel
theorem dL_law_903 : decode cL_law 903 = .ok (.aload_n 2, 1) := by decide +kernel
theorem dL_law_904 : decode cL_law 904 = .ok (.invokevirtual 136, 3) := by decide +kernel
theorem dL_law_907 : decode cL_law 907 = .ok (.lcmp, 1) := by decide +kernel
theorem dL_law_908 : decode cL_law 908 = .ok (.ifCond .eq 5, 3) := by decide +kernel
theorem dL_law_911 : decode cL_law 911 = .ok (.iconst 0, 1) := by decide +kernel
theorem dL_law_912 : decode cL_law 912 = .ok (.ireturn, 1) := by decide +kernel
theorem dL_law_913 : decode cL_law 913 = .ok (.iinc 3 4, 3) := by decide +kernel
theorem dL_law_916 : decode cL_law 916 = .ok (.goto (-898), 3) := by decide +kernel
theorem dL_law_919 : decode cL_law 919 = .ok (.iconst 1, 1) := by decide +kernel
theorem dL_law_920 : decode cL_law 920 = .ok (.ireturn, 1) := by decide +kernel
end
section
/-! ===== the judgement of this claim: a fixed set of cells (shapes), their whole numbers as a function, one contract form for every method ===== -/
abbrev St : Type := (Nat → Nat → Int32) × (Nat → Nat → Int64)
abbrev LV : Type := List (Option Value)
abbrev KT : Type := Nat → LV → List Value → St → Prop
/-- a cell's shape: an array of ints of a kind (0 int, 1 byte, 2 boolean) and a length; an object of a class, its fields (none: int, some none: long, some (some k): the cell k); an array of Nows -/
abbrev Shp : Type := (Nat × Nat) ⊕ ((Nat × List (Option (Option Nat))) ⊕ (List Nat))
abbrev Site : Type := va_G × (Nat → Nat) × (Nat → ClassId) × (Nat → Nat) × (Nat → Nat)
def sD (θ : Site) : va_G := θ.1
def sA (θ : Site) : Nat → Nat := θ.2.1
def sC (θ : Site) : Nat → ClassId := θ.2.2.1
def sK (θ : Site) : Nat → Nat := θ.2.2.2.1
def sV (θ : Site) : Nat → Nat := θ.2.2.2.2
def kndV (θ : Site) (S : St) (k j : Nat) : Option (Option Nat) → Value
  | none => .int (S.1 k j)
  | some none => .long (S.2 k j)
  | some (some q) => .ref (sA θ q)
def cellE (θ : Site) (S : St) (k : Nat) : Shp → va_E
  | .inl (t, n) => .inl (sC θ t, n, .inl (S.1 k))
  | .inr (.inl (ci, ks)) => .inr (ci, ks.mapIdx (kndV θ S k))
  | .inr (.inr rs) => .inl (sC θ 3, rs.length, .inr (.inr (.inr (.inr fun j => (rs[j]?).map (sA θ)))))
def GW (θ : Site) (sx : List Shp) (S : St) : va_W := sx.mapIdx fun k z => (sA θ k, cellE θ S k z)
def tyC (θ : Site) : List (ClassId × FieldType) := [(sC θ 0, .int), (sC θ 1, .byte), (sC θ 2, .boolean), (sC θ 3, .object "PavedBan$Now")]
def AA (θ : Site) (sx : List Shp) (sz : Nat) : Nat → Prop := fun q => (∃ k, k < sx.length ∧ q = sA θ k) ∨ sz ≤ q
def DJ (θ : Site) (sx : List Shp) : Prop := ∀ i j, i < sx.length → j < sx.length → sA θ i = sA θ j → i = j
def lenS : List Nat := [5, 6, 5, 5, 5]
def bytS : List (List Int32) := [[112, 105, 101, 99, 101], [102, 97, 109, 105, 108, 121], [112, 97, 118, 101, 100], [115, 116, 111, 110, 101], [102, 108, 111, 111, 100]]
def txtR (θ : Site) (U : State) : Prop := vk_R "PavedBan$Reader" 119 "piece" (sK θ 0) U ∧ vk_R "PavedBan$Reader" 125 "family" (sK θ 1) U ∧ vk_R "PavedBan$Reader" 127 "paved" (sK θ 2) U ∧ vk_R "PavedBan$Reader" 129 "stone" (sK θ 3) U ∧ vk_R "PavedBan$Reader" 131 "flood" (sK θ 4) U
/-- what stands outside the cells: the five words, two statics -/
def Env9 (θ : Site) (A : Nat → Prop) (U : State) (H : Heap) : Prop := vk_S 5 lenS bytS (sK θ) (sV θ) A U H ∧ va_Z "java/lang/String" "COMPACT_STRINGS" "Z" (.int 1) A U H ∧ va_Zq "jdk/internal/util/Preconditions" "SIOOBE_FORMATTER" "Ljava/util/function/BiFunction;" A U H ∧ txtR θ U
theorem Env9.go {θ : Site} {A B : Nat → Prop} {s U : State} {H H1 : Heap} (h : Env9 θ A s H) (hq : ∀ a : Nat, a < H.size → ¬ A a → H1[a]? = H[a]?) (hB : ∀ q, B q → A q) (hW : s.WarmedH U.vm) : Env9 θ B U H1 := by
  obtain ⟨h1, h2, h3, r1, r2, r3, r4, r5⟩ := h
  exact ⟨((h1.kept hq).moved hW.alike).narrow hB, ((h2.kept hq).moved hW.alike).narrow hB, ((h3.kept hq).moved hW.alike).narrow hB, r1.warm hW, r2.warm hW, r3.warm hW, r4.warm hW, r5.warm hW⟩
theorem Env9.same {θ : Site} {A : Nat → Prop} {U V : State} (h : Env9 θ A U U.heap) (hv : V.vm = U.vm) (hh : V.heap = U.heap) : Env9 θ A V V.heap := by
  obtain ⟨h1, h2, h3, r1, r2, r3, r4, r5⟩ := h
  have ha : U.vm.Alike V.vm := by rw [hv]; exact Vm.Alike.refl U.vm
  rw [hh]
  exact ⟨h1.moved ha, h2.moved ha, h3.moved ha, r1.same hv, r2.same hv, r3.same hv, r4.same hv, r5.same hv⟩
def WlP (θ : Site) (sx : List Shp) (sz : Nat) (S : St) (U : State) : Prop := va_P (sD θ) vwCl (GW θ sx S) U.heap ∧ va_K (sD θ) vwCl (tyC θ) U ∧ DJ θ sx ∧ Env9 θ (AA θ sx sz) U U.heap
theorem GW_get {θ : Site} {sx : List Shp} {S : St} {k : Nat} {z : Shp} (h : sx[k]? = some z) : (GW θ sx S)[k]? = some (sA θ k, cellE θ S k z) := by
  unfold GW
  rw [List.getElem?_mapIdx, h]; rfl
theorem GW_len {θ : Site} {sx : List Shp} {S : St} : (GW θ sx S).length = sx.length := by unfold GW; simp
theorem GW_set {θ : Site} {sx : List Shp} {S S' : St} {k : Nat} {z : Shp} {e : va_E} (h : sx[k]? = some z) (he : e = cellE θ S' k z) (ho : ∀ j, j ≠ k → ∀ z, cellE θ S' j z = cellE θ S j z) : (GW θ sx S).set k (sA θ k, e) = GW θ sx S' := by
  apply List.ext_getElem?
  intro j
  by_cases hj : j = k
  · subst hj
    rw [List.getElem?_set_self (by rw [GW_len]; exact (List.getElem?_eq_some_iff.mp h).1), GW_get h, he]
  · rw [List.getElem?_set_ne (Ne.symm hj)]
    unfold GW
    rw [List.getElem?_mapIdx, List.getElem?_mapIdx]
    cases hz : sx[j]? with
    | none => rfl
    | some w => simp only [Option.map_some, ho j hj w]
theorem GW_D {θ : Site} {sx : List Shp} {S : St} {sz : Nat} (h : DJ θ sx) : va_D (AA θ sx sz) (GW θ sx S) := by
  have key : ∀ (k : Nat) (q : Nat × va_E), (GW θ sx S)[k]? = some q → k < sx.length ∧ q.1 = sA θ k := by
    intro k q hk
    have hl := (List.getElem?_eq_some_iff.mp hk).1
    rw [GW_len] at hl
    rw [GW_get (List.getElem?_eq_getElem hl)] at hk
    cases hk
    exact ⟨hl, rfl⟩
  refine ⟨fun i j x y hi hj hxy => ?_, fun k q hk => ?_⟩
  · obtain ⟨a1, a2⟩ := key i x hi
    obtain ⟨b1, b2⟩ := key j y hj
    exact h i j a1 b1 (a2.symm.trans (hxy.trans b2))
  · obtain ⟨a1, a2⟩ := key k q hk
    exact Or.inl ⟨k, a1, a2⟩
def up (S : St) (k j : Nat) (v : Int32) : St := (fun a b => if a = k ∧ b = j then v else S.1 a b, S.2)
def upL (S : St) (k j : Nat) (v : Int64) : St := (S.1, fun a b => if a = k ∧ b = j then v else S.2 a b)
def upA (S : St) (k : Nat) (f : Nat → Int32) : St := (fun a b => if a = k then f b else S.1 a b, S.2)
theorem up_o {S : St} {k j a b : Nat} {v : Int32} (h : ¬ (a = k ∧ b = j)) : (up S k j v).1 a b = S.1 a b := by unfold up; exact if_neg h
theorem up_s {S : St} {k j : Nat} {v : Int32} : (up S k j v).1 k j = v := by unfold up; exact if_pos ⟨rfl, rfl⟩
theorem up_2 {S : St} {k j : Nat} {v : Int32} : (up S k j v).2 = S.2 := rfl
theorem upL_1 {S : St} {k j : Nat} {v : Int64} : (upL S k j v).1 = S.1 := rfl
theorem upL_s {S : St} {k j : Nat} {v : Int64} : (upL S k j v).2 k j = v := by unfold upL; exact if_pos ⟨rfl, rfl⟩
theorem upL_o {S : St} {k j a b : Nat} {v : Int64} (h : ¬ (a = k ∧ b = j)) : (upL S k j v).2 a b = S.2 a b := by unfold upL; exact if_neg h
theorem cell_ne {θ : Site} {S S' : St} {j : Nat} (h1 : S'.1 j = S.1 j) (h2 : S'.2 j = S.2 j) (z : Shp) : cellE θ S' j z = cellE θ S j z := by
  have hk : ∀ kd, (fun b => kndV θ S' j b kd) = fun b => kndV θ S j b kd := by
    intro kd; funext b
    rcases kd with _ | _ | q
    · simp only [kndV, h1]
    · simp only [kndV, h2]
    · rfl
  rcases z with ⟨t, n⟩ | ⟨ci, ks⟩ | rs
  · simp only [cellE, h1]
  · simp only [cellE]
    have : kndV θ S' j = kndV θ S j := by funext b kd; exact congrFun (hk kd) b
    rw [this]
  · rfl
theorem map_set {θ : Site} {S : St} {k j : Nat} {ks : List (Option (Option Nat))} {v : Int32} (h : ks[j]? = some none) : (ks.mapIdx (kndV θ S k)).set j (.int v) = ks.mapIdx (kndV θ (up S k j v) k) := by
  apply List.ext_getElem?
  intro b
  have hl := (List.getElem?_eq_some_iff.mp h).1
  by_cases hb : b = j
  · subst hb
    rw [List.getElem?_set_self (by simpa using hl), List.getElem?_mapIdx, h]
    simp only [Option.map_some, kndV, up_s]
  · rw [List.getElem?_set_ne (Ne.symm hb), List.getElem?_mapIdx, List.getElem?_mapIdx]
    cases hz : ks[b]? with
    | none => rfl
    | some kd => rcases kd with _ | _ | q <;> simp only [Option.map_some, kndV, up_2]; rw [up_o (fun h => hb h.2)]
theorem map_setL {θ : Site} {S : St} {k j : Nat} {ks : List (Option (Option Nat))} {v : Int64} (h : ks[j]? = some (some none)) : (ks.mapIdx (kndV θ S k)).set j (.long v) = ks.mapIdx (kndV θ (upL S k j v) k) := by
  apply List.ext_getElem?
  intro b
  have hl := (List.getElem?_eq_some_iff.mp h).1
  by_cases hb : b = j
  · subst hb
    rw [List.getElem?_set_self (by simpa using hl), List.getElem?_mapIdx, h]
    simp only [Option.map_some, kndV, upL_s]
  · rw [List.getElem?_set_ne (Ne.symm hb), List.getElem?_mapIdx, List.getElem?_mapIdx]
    cases hz : ks[b]? with
    | none => rfl
    | some kd => rcases kd with _ | _ | q <;> simp only [Option.map_some, kndV, upL_1]; rw [upL_o (fun h => hb h.2)]
theorem GW_up {θ : Site} {sx : List Shp} {S : St} {k j ci : Nat} {ks : List (Option (Option Nat))} {v : Int32} (h : sx[k]? = some (.inr (.inl (ci, ks)))) (hj : ks[j]? = some none) : (GW θ sx S).set k (sA θ k, .inr (ci, (ks.mapIdx (kndV θ S k)).set j (.int v))) = GW θ sx (up S k j v) :=
  GW_set h (by rw [map_set hj]; rfl) (fun i hi z => cell_ne (S := S) (S' := up S k j v) (by funext b; exact up_o (fun h => hi h.1)) rfl z)
theorem GW_upL {θ : Site} {sx : List Shp} {S : St} {k j ci : Nat} {ks : List (Option (Option Nat))} {v : Int64} (h : sx[k]? = some (.inr (.inl (ci, ks)))) (hj : ks[j]? = some (some none)) : (GW θ sx S).set k (sA θ k, .inr (ci, (ks.mapIdx (kndV θ S k)).set j (.long v))) = GW θ sx (upL S k j v) :=
  GW_set h (by rw [map_setL hj]; rfl) (fun i hi z => cell_ne (S := S) (S' := upL S k j v) rfl (by funext b; exact upL_o (fun h => hi h.1)) z)
theorem GW_upA {θ : Site} {sx : List Shp} {S : St} {k t n : Nat} {f : Nat → Int32} (h : sx[k]? = some (.inl (t, n))) : (GW θ sx S).set k (sA θ k, .inl (sC θ t, n, .inl f)) = GW θ sx (upA S k f) :=
  GW_set h (by simp only [cellE]; congr 4; funext b; simp [upA]) (fun i hi z => cell_ne (S := S) (S' := upA S k f) (by funext b; simp [upA, hi]) rfl z)
theorem upA_upd {S : St} {k i : Nat} {v : Int32} : upA S k (upd (S.1 k) i v) = up S k i v := by
  unfold upA up upd
  refine Prod.ext ?_ rfl
  funext a b
  by_cases h : a = k
  · subst h; simp
  · simp [h]
-- locals by their places
def lvA : Nat → LV → List (Nat × Value)
  | _, [] => []
  | i, none :: t => lvA (i + 1) t
  | i, some v :: t => (i, v) :: lvA (i + 1) t
theorem lvA_mem : ∀ (lv : LV) (i j : Nat) (v : Value), (j, v) ∈ lvA i lv ↔ ∃ d, j = i + d ∧ lv[d]? = some (some v)
  | [], i, j, v => by simp [lvA]
  | none :: t, i, j, v => by
    simp only [lvA]
    rw [lvA_mem t (i + 1) j v]
    constructor
    · rintro ⟨d, h1, h2⟩
      exact ⟨d + 1, by omega, by simpa using h2⟩
    · rintro ⟨d, h1, h2⟩
      cases d with
      | zero => simp at h2
      | succ d => exact ⟨d, by omega, by simpa using h2⟩
  | some w :: t, i, j, v => by
    simp only [lvA, List.mem_cons, Prod.mk.injEq]
    rw [lvA_mem t (i + 1) j v]
    constructor
    · rintro (⟨rfl, rfl⟩ | ⟨d, h1, h2⟩)
      · exact ⟨0, rfl, rfl⟩
      · exact ⟨d + 1, by omega, by simpa using h2⟩
    · rintro ⟨d, h1, h2⟩
      cases d with
      | zero => left; simp at h2; exact ⟨by omega, h2.symm⟩
      | succ d => exact Or.inr ⟨d, by omega, by simpa using h2⟩
theorem lv_rd {ls : Array Slot} {n i : Nat} {lv : LV} {v : Value} (h : lv_has ls n (lvA 0 lv)) (hi : lv[i]? = some (some v)) : ls[i]? = some (.val v) := h.2.2 (i, v) ((lvA_mem lv 0 i v).mpr ⟨i, by omega, hi⟩)
theorem lv_weak {ls : Array Slot} {n : Nat} {lv lv' : LV} (h : lv_has ls n (lvA 0 lv)) (hs : ∀ (i : Nat) (v : Value), lv'[i]? = some (some v) → lv[i]? = some (some v)) : lv_has ls n (lvA 0 lv') := by
  refine ⟨h.1, h.2.1, fun q hq => ?_⟩
  obtain ⟨d, h1, h2⟩ := (lvA_mem lv' 0 q.1 q.2).mp hq
  exact h.2.2 q ((lvA_mem lv 0 q.1 q.2).mpr ⟨d, h1, hs d q.2 h2⟩)
/-- what stands ahead of a place isn't a long -/
def nlg (lv : LV) : Nat → Prop
  | 0 => True
  | i + 1 => ∀ v, lv[i]? = some (some v) → v.category = 1
theorem lv_st1 {ls : Array Slot} {n i : Nat} {lv : LV} {v : Value} (h : lv_has ls n ((i, v) :: (lvA 0 lv).filter (fun q => !(q.1 == i) && !(q.1 + 1 == i && q.2.category == 2)))) (hi : i < lv.length) (hl : nlg lv i) : lv_has ls n (lvA 0 (lv.set i (some v))) := by
  refine ⟨h.1, h.2.1, fun q hq => h.2.2 q ?_⟩
  obtain ⟨j, w⟩ := q
  obtain ⟨d, h1, h2⟩ := (lvA_mem _ 0 j w).mp hq
  have hd : j = d := by omega
  subst hd
  by_cases hj : j = i
  · subst hj
    rw [List.getElem?_set_self hi] at h2
    cases h2
    exact List.mem_cons_self
  · rw [List.getElem?_set_ne (Ne.symm hj)] at h2
    refine List.mem_cons_of_mem _ (List.mem_filter.mpr ⟨(lvA_mem lv 0 j w).mpr ⟨j, by omega, h2⟩, ?_⟩)
    have hne : (j == i) = false := by simpa using hj
    simp only [hne, Bool.not_false, Bool.true_and, Bool.not_eq_true', Bool.and_eq_false_iff]
    by_cases h3 : j + 1 = i
    · right
      subst h3
      have := hl w h2
      simp [this]
    · left; simpa using h3
theorem lv_st2 {ls : Array Slot} {n i : Nat} {lv : LV} {v : Value} (h : lv_has ls n ((i, v) :: (lvA 0 lv).filter (fun q => !(q.1 == i) && (!(q.1 == i + 1) && !(q.1 + 1 == i && q.2.category == 2))))) (hi : i + 1 < lv.length) (hl : nlg lv i) : lv_has ls n (lvA 0 ((lv.set i (some v)).set (i + 1) none)) := by
  refine ⟨h.1, h.2.1, fun q hq => h.2.2 q ?_⟩
  obtain ⟨j, w⟩ := q
  obtain ⟨d, h1, h2⟩ := (lvA_mem _ 0 j w).mp hq
  have hd : j = d := by omega
  subst hd
  by_cases hj1 : j = i + 1
  · subst hj1
    rw [List.getElem?_set_self (by simpa using hi)] at h2
    cases h2
  · rw [List.getElem?_set_ne (Ne.symm hj1)] at h2
    by_cases hj : j = i
    · subst hj
      rw [List.getElem?_set_self (by omega)] at h2
      cases h2
      exact List.mem_cons_self
    · rw [List.getElem?_set_ne (Ne.symm hj)] at h2
      refine List.mem_cons_of_mem _ (List.mem_filter.mpr ⟨(lvA_mem lv 0 j w).mpr ⟨j, by omega, h2⟩, ?_⟩)
      have hne : (j == i) = false := by simpa using hj
      have hne1 : (j == i + 1) = false := by simpa using hj1
      simp only [hne, hne1, Bool.not_false, Bool.true_and, Bool.not_eq_true', Bool.and_eq_false_iff]
      by_cases h3 : j + 1 = i
      · right
        subst h3
        have := hl w h2
        simp [this]
      · left; simpa using h3
end
section
def rmD (d : Nat) : Room := { frames := d, cells := 0, slots := 0, locals := 80 * d }
def lwT : List Cond := lw_tbl.filter goodWord
theorem lwT_in {w : Cond} (h : w ∈ lwT) : w ∈ lw_tbl := (List.mem_filter.mp h).1
theorem tbl_good : lwT.all goodWord = true := List.all_eq_true.mpr (fun w h => (List.mem_filter.mp h).2)
theorem gTb {y : MethodName} {bs : ByteArray} {ml : Nat} {rt : Option FieldType} (h : Cond.code y bs ml rt ∈ lwT) : GoodIn lwT (.code y bs ml rt :: lwT) := by
  intro w hw
  have hm : w ∈ lwT := by
    rcases List.mem_cons.mp hw with rfl | hw
    · exact h
    · exact hw
  exact ⟨hm, good_of_word (List.all_eq_true.mp tbl_good w hm)⟩
def BP (θ : Site) (sx : List Shp) : St → State → Prop := fun S' t => va_P (sD θ) vwCl (GW θ sx S') t.heap
def PcW (θ : Site) (sx : List Shp) (sz : Nat) (av : List Value) (S : St) : Array Value → State → Prop := va_Pc av (fun U => U.heap.size = sz ∧ WlP θ sx sz S U)
/-- a method's contract: it returns an int (a long, nothing), and a state, with P -/
def Cti (y : MethodName) (bs : ByteArray) (ml : Nat) (rt : Option FieldType) (d : Nat) (θ : Site) (sx : List Shp) (av : List Value) (S : St) (P : Int32 → St → Prop) : Prop :=
  ∀ (l : Launch) (sz : Nat), Met l y (.code y bs ml rt :: lwT) (rmD d) (PcW θ sx sz av S) (va_Qi P (BP θ sx) (AA θ sx sz)) 0 0 (AA θ sx sz)
def Ctl (y : MethodName) (bs : ByteArray) (ml : Nat) (rt : Option FieldType) (d : Nat) (θ : Site) (sx : List Shp) (av : List Value) (S : St) (P : Int64 → St → Prop) : Prop :=
  ∀ (l : Launch) (sz : Nat), Met l y (.code y bs ml rt :: lwT) (rmD d) (PcW θ sx sz av S) (va_Ql P (BP θ sx) (AA θ sx sz)) 0 0 (AA θ sx sz)
def Ctv (y : MethodName) (bs : ByteArray) (ml : Nat) (rt : Option FieldType) (d : Nat) (θ : Site) (sx : List Shp) (av : List Value) (S : St) (P : St → Prop) : Prop :=
  ∀ (l : Launch) (sz : Nat), Met l y (.code y bs ml rt :: lwT) (rmD d) (PcW θ sx sz av S) (va_Qv P (BP θ sx) (AA θ sx sz)) 0 0 (AA θ sx sz)
theorem PcW_blind {θ : Site} {sx : List Shp} {sz : Nat} {av : List Value} {S : St} : FrameBlind (PcW θ sx sz av S) := by
  intro a U g mk h
  obtain ⟨h0, h1, h2, h3, h4, h5⟩ := h
  exact ⟨h0, h1, h2, va_K.moved (u := U) (U := U.calling g mk a) (Vm.Alike.refl U.vm) h3, h4, h5.same rfl rfl⟩
/-- what a walk stands on: the machine, the code, the words, the cells; K: 'from this frame and these cells the machine comes to the end' -/
def Ok (K : KT) (cc : ByteArray) (own : String) (nL d : Nat) (θ : Site) (sx : List Shp) (Fi : Int32 → St → Prop) (Fl : Int64 → St → Prop) (Fv : St → Prop) : Prop :=
  ∃ (p : Program) (l : Launch) (e : Env) (s : State) (m : MethodId) (args : Array Value) (below : List Frame) (meth : Method) (c : Code) (Q : State → Prop),
    p.tables.exec = Jvm.exec ∧ c.code = cc ∧ c.maxLocals = nL ∧ s.vm.findClass own = some m.cls ∧ (∀ w ∈ lwT, w.before args s = true) ∧ va_K (sD θ) vwCl (tyC θ) s ∧ DJ θ sx ∧ Env9 θ (AA θ sx s.heap.size) s s.heap ∧
    (∀ (pc : Nat) (ls : Array Slot) (v : Int32) (S : St) (H : Heap) (locs : List Loc), decode cc pc = .ok (.ireturn, 1) → Fi v S → va_P (sD θ) vwCl (GW θ sx S) H → va_S (AA θ sx s.heap.size) s.heap H locs → W p l e (rmD d) s m args below meth c H locs 0 0 Q (F0 m pc ls [.int v])) ∧
    (∀ (pc : Nat) (ls : Array Slot) (v : Int64) (S : St) (H : Heap) (locs : List Loc), decode cc pc = .ok (.lreturn, 1) → Fl v S → va_P (sD θ) vwCl (GW θ sx S) H → va_S (AA θ sx s.heap.size) s.heap H locs → W p l e (rmD d) s m args below meth c H locs 0 0 Q (F0 m pc ls [.long v])) ∧
    (∀ (pc : Nat) (ls : Array Slot) (S : St) (H : Heap) (locs : List Loc), decode cc pc = .ok (.return_, 1) → Fv S → va_P (sD θ) vwCl (GW θ sx S) H → va_S (AA θ sx s.heap.size) s.heap H locs → W p l e (rmD d) s m args below meth c H locs 0 0 Q (F0 m pc ls [])) ∧
    K = fun pc lv st S => ∀ (H : Heap) (locs : List Loc) (ls : Array Slot), lv.length = nL → lv_has ls nL (lvA 0 lv) → va_P (sD θ) vwCl (GW θ sx S) H → va_S (AA θ sx s.heap.size) s.heap H locs → W p l e (rmD d) s m args below meth c H locs 0 0 Q (F0 m pc ls st)
def enL : List Value → LV
  | [] => []
  | v :: vs => if v.category = 2 then some v :: none :: enL vs else some v :: enL vs
theorem enL_mem : ∀ (vs : List Value) (i : Nat) (pad : Nat) (q : Nat × Value), q ∈ lvA i (enL vs ++ List.replicate pad none) → q ∈ lv_args i vs
  | [], i, pad, q, h => by
    obtain ⟨j, v⟩ := q
    obtain ⟨d, h1, h2⟩ := (lvA_mem _ i j v).mp h
    simp only [enL, List.nil_append, List.getElem?_replicate] at h2
    split at h2 <;> simp at h2
  | v :: vs, i, pad, q, h => by
    simp only [enL] at h
    simp only [lv_args]
    split at h
    · rename_i hc
      rw [if_pos hc]
      simp only [List.cons_append, lvA, List.mem_cons] at h
      rcases h with h | h
      · rw [h]; exact List.mem_cons_self
      · exact List.mem_cons_of_mem _ (enL_mem vs _ pad q h)
    · rename_i hc
      rw [if_neg hc]
      simp only [List.cons_append, lvA, List.mem_cons] at h
      rcases h with h | h
      · rw [h]; exact List.mem_cons_self
      · exact List.mem_cons_of_mem _ (enL_mem vs _ pad q h)
theorem enL_has {vs : List Value} {n pad : Nat} {lv : LV} (hn : (lg_sl vs).length ≤ n) (h : enL vs ++ List.replicate pad none = lv) : lv_has ((lg_sl vs ++ List.replicate (n - (lg_sl vs).length) Slot.unset).toArray) n (lvA 0 lv) := by
  have h0 := lv_entry vs hn
  refine ⟨h0.1, h0.2.1, fun q hq => h0.2.2 q ?_⟩
  rw [← h] at hq
  exact enL_mem vs 0 pad q hq

theorem Cti.mk {y : MethodName} {bs : ByteArray} {ml d : Nat} {θ : Site} {sx : List Shp} {av : List Value} {S : St} {P : Int32 → St → Prop} {own : String} (pad : Nat) (lv : LV) (body : ∀ K, Ok K bs own ml d θ sx P (fun _ _ => False) (fun _ => False) → K 0 lv [] S) (hy : plainName y.cls = true := by decide) (hlv : enL av ++ List.replicate pad none = lv := by rfl) (hl : lv.length = ml := by rfl) (hn : (lg_sl av).length ≤ ml := by (first | exact Nat.le_of_ble_eq_true rfl | decide)) (ho : y.cls = own := by rfl) : Cti y bs ml (some .int) d θ sx av S P := by
  subst ho
  intro l sz
  refine Met.ofW (cc := bs) (maxL := ml) (ret := (some .int)) hy rfl ?_
  intro p e s m args below meth c s₁ B hml hv
  obtain ⟨hargs, hsz, hP, hK, hJ, hE⟩ := hv
  have hx := B.exec
  have hb := B.bytes
  have hr := B.returns
  have hts0 := atoms_spec (ws := .code y bs ml (some .int) :: lwT) B.pre
  have hts : ∀ w ∈ lwT, w.before args s = true := fun w hw => hts0 w (List.mem_cons_of_mem _ hw)
  have hown : s.vm.findClass y.cls = some m.cls := findClass_of_methodNamed B.named
  have hlocks := B.notSynchronized
  subst hsz
  have hgo := body (fun pc lv st S => ∀ (H : Heap) (locs : List Loc) (ls : Array Slot), lv.length = ml → lv_has ls ml (lvA 0 lv) → va_P (sD θ) vwCl (GW θ sx S) H → va_S (AA θ sx s.heap.size) s.heap H locs → W p l e (rmD d) s m args below meth c H locs 0 0 (MQ below (va_Qi P (BP θ sx) (AA θ sx s.heap.size)) args s 0 0 (AA θ sx s.heap.size)) (F0 m pc ls st))
    ⟨p, l, e, s, m, args, below, meth, c, _, hx, hb, hml, hown, hts, hK, hJ, hE, fun pc ls v S H locs hd hf hP hS => W.iret (v := v) hx hb hr (fun t ht hW => ⟨⟨v, S, rfl, hf, by show va_P _ _ _ t.heap; rw [ht]; exact hP⟩, hS.F ht⟩) hS.2.2 hd, fun _ _ _ _ _ _ _ h => h.elim, fun _ _ _ _ _ _ h => h.elim, rfl⟩
  rw [hargs, lg_entry_eq]
  rw [hargs] at hgo
  exact hgo s.heap [] _ hl (enL_has hn hlv) hP va_S.rf
theorem Cti.mkz {y : MethodName} {bs : ByteArray} {ml d : Nat} {θ : Site} {sx : List Shp} {av : List Value} {S : St} {P : Int32 → St → Prop} {rt : FieldType} {own : String} (pad : Nat) (lv : LV) (body : ∀ K, Ok K bs own ml d θ sx (fun v S => P v S ∧ narrow rt (.int v) = .int v) (fun _ _ => False) (fun _ => False) → K 0 lv [] S) (hy : plainName y.cls = true := by decide) (hlv : enL av ++ List.replicate pad none = lv := by rfl) (hl : lv.length = ml := by rfl) (hn : (lg_sl av).length ≤ ml := by (first | exact Nat.le_of_ble_eq_true rfl | decide)) (ho : y.cls = own := by rfl) : Cti y bs ml (some rt) d θ sx av S P := by
  subst ho
  intro l sz
  refine Met.ofW (cc := bs) (maxL := ml) (ret := (some rt)) hy rfl ?_
  intro p e s m args below meth c s₁ B hml hv
  obtain ⟨hargs, hsz, hP, hK, hJ, hE⟩ := hv
  have hx := B.exec
  have hb := B.bytes
  have hr := B.returns
  have hts0 := atoms_spec (ws := .code y bs ml (some rt) :: lwT) B.pre
  have hts : ∀ w ∈ lwT, w.before args s = true := fun w hw => hts0 w (List.mem_cons_of_mem _ hw)
  have hown : s.vm.findClass y.cls = some m.cls := findClass_of_methodNamed B.named
  have hlocks := B.notSynchronized
  subst hsz
  have hgo := body (fun pc lv st S => ∀ (H : Heap) (locs : List Loc) (ls : Array Slot), lv.length = ml → lv_has ls ml (lvA 0 lv) → va_P (sD θ) vwCl (GW θ sx S) H → va_S (AA θ sx s.heap.size) s.heap H locs → W p l e (rmD d) s m args below meth c H locs 0 0 (MQ below (va_Qi P (BP θ sx) (AA θ sx s.heap.size)) args s 0 0 (AA θ sx s.heap.size)) (F0 m pc ls st))
    ⟨p, l, e, s, m, args, below, meth, c, _, hx, hb, hml, hown, hts, hK, hJ, hE, fun pc ls v S H locs hd hf hP hS => W.zret (v := v) hx hb hr hf.2 (fun t ht hW => ⟨⟨v, S, rfl, hf.1, by show va_P _ _ _ t.heap; rw [ht]; exact hP⟩, hS.F ht⟩) hS.2.2 hd, fun _ _ _ _ _ _ _ h => h.elim, fun _ _ _ _ _ _ h => h.elim, rfl⟩
  rw [hargs, lg_entry_eq]
  rw [hargs] at hgo
  exact hgo s.heap [] _ hl (enL_has hn hlv) hP va_S.rf
theorem Ctl.mk {y : MethodName} {bs : ByteArray} {ml d : Nat} {θ : Site} {sx : List Shp} {av : List Value} {S : St} {P : Int64 → St → Prop} {own : String} (pad : Nat) (lv : LV) (body : ∀ K, Ok K bs own ml d θ sx (fun _ _ => False) P (fun _ => False) → K 0 lv [] S) (hy : plainName y.cls = true := by decide) (hlv : enL av ++ List.replicate pad none = lv := by rfl) (hl : lv.length = ml := by rfl) (hn : (lg_sl av).length ≤ ml := by (first | exact Nat.le_of_ble_eq_true rfl | decide)) (ho : y.cls = own := by rfl) : Ctl y bs ml (some .long) d θ sx av S P := by
  subst ho
  intro l sz
  refine Met.ofW (cc := bs) (maxL := ml) (ret := (some .long)) hy rfl ?_
  intro p e s m args below meth c s₁ B hml hv
  obtain ⟨hargs, hsz, hP, hK, hJ, hE⟩ := hv
  have hx := B.exec
  have hb := B.bytes
  have hr := B.returns
  have hts0 := atoms_spec (ws := .code y bs ml (some .long) :: lwT) B.pre
  have hts : ∀ w ∈ lwT, w.before args s = true := fun w hw => hts0 w (List.mem_cons_of_mem _ hw)
  have hown : s.vm.findClass y.cls = some m.cls := findClass_of_methodNamed B.named
  have hlocks := B.notSynchronized
  subst hsz
  have hgo := body (fun pc lv st S => ∀ (H : Heap) (locs : List Loc) (ls : Array Slot), lv.length = ml → lv_has ls ml (lvA 0 lv) → va_P (sD θ) vwCl (GW θ sx S) H → va_S (AA θ sx s.heap.size) s.heap H locs → W p l e (rmD d) s m args below meth c H locs 0 0 (MQ below (va_Ql P (BP θ sx) (AA θ sx s.heap.size)) args s 0 0 (AA θ sx s.heap.size)) (F0 m pc ls st))
    ⟨p, l, e, s, m, args, below, meth, c, _, hx, hb, hml, hown, hts, hK, hJ, hE, fun _ _ _ _ _ _ _ h => h.elim, fun pc ls v S H locs hd hf hP hS => W.lret (v := v) hx hb hr (fun t ht hW => ⟨⟨v, S, rfl, hf, by show va_P _ _ _ t.heap; rw [ht]; exact hP⟩, hS.F ht⟩) hS.2.2 hd, fun _ _ _ _ _ _ h => h.elim, rfl⟩
  rw [hargs, lg_entry_eq]
  rw [hargs] at hgo
  exact hgo s.heap [] _ hl (enL_has hn hlv) hP va_S.rf
theorem Ctv.mk {y : MethodName} {bs : ByteArray} {ml d : Nat} {θ : Site} {sx : List Shp} {av : List Value} {S : St} {P : St → Prop} {own : String} (pad : Nat) (lv : LV) (body : ∀ K, Ok K bs own ml d θ sx (fun _ _ => False) (fun _ _ => False) P → K 0 lv [] S) (hy : plainName y.cls = true := by decide) (hlv : enL av ++ List.replicate pad none = lv := by rfl) (hl : lv.length = ml := by rfl) (hn : (lg_sl av).length ≤ ml := by (first | exact Nat.le_of_ble_eq_true rfl | decide)) (ho : y.cls = own := by rfl) : Ctv y bs ml none d θ sx av S P := by
  subst ho
  intro l sz
  refine Met.ofW (cc := bs) (maxL := ml) (ret := none) hy rfl ?_
  intro p e s m args below meth c s₁ B hml hv
  obtain ⟨hargs, hsz, hP, hK, hJ, hE⟩ := hv
  have hx := B.exec
  have hb := B.bytes
  have hr := B.returns
  have hts0 := atoms_spec (ws := .code y bs ml none :: lwT) B.pre
  have hts : ∀ w ∈ lwT, w.before args s = true := fun w hw => hts0 w (List.mem_cons_of_mem _ hw)
  have hown : s.vm.findClass y.cls = some m.cls := findClass_of_methodNamed B.named
  have hlocks := B.notSynchronized
  subst hsz
  have hgo := body (fun pc lv st S => ∀ (H : Heap) (locs : List Loc) (ls : Array Slot), lv.length = ml → lv_has ls ml (lvA 0 lv) → va_P (sD θ) vwCl (GW θ sx S) H → va_S (AA θ sx s.heap.size) s.heap H locs → W p l e (rmD d) s m args below meth c H locs 0 0 (MQ below (va_Qv P (BP θ sx) (AA θ sx s.heap.size)) args s 0 0 (AA θ sx s.heap.size)) (F0 m pc ls st))
    ⟨p, l, e, s, m, args, below, meth, c, _, hx, hb, hml, hown, hts, hK, hJ, hE, fun _ _ _ _ _ _ _ h => h.elim, fun _ _ _ _ _ _ _ h => h.elim, fun pc ls S H locs hd hf hP hS => W.vret hx hb hr (fun t ht hW => ⟨⟨S, rfl, hf, by show va_P _ _ _ t.heap; rw [ht]; exact hP⟩, hS.F ht⟩) hS.2.2 hd, rfl⟩
  rw [hargs, lg_entry_eq]
  rw [hargs] at hgo
  exact hgo s.heap [] _ hl (enL_has hn hlv) hP va_S.rf

def FL (own : String) (idx ci j : Nat) : Prop := ∃ (C : String) (T : u_T) (N : Nat), vwCl[ci]? = some (C, T, N) ∧ j < N ∧ Cond.fieldLink own idx C (T j).2.1 (T j).2.2.1 ∈ lwT ∧ (T j).1 = C
def FP (own : String) (idx ci j : Nat) (ty : FieldType) : Prop := FL own idx ci j ∧ ∀ (C : String) (T : u_T) (N : Nat), vwCl[ci]? = some (C, T, N) → (T j).2.2.2 = false ∧ parseFieldDescriptor (T j).2.2.1 = some ty
theorem clW0 : ∀ q ∈ vwCl, ∀ w ∈ u_ws q.1 q.2.1 q.2.2, w ∈ lwT := by decide +kernel
theorem clW {ci N : Nat} {C : String} {T : u_T} (h : vwCl[ci]? = some (C, T, N)) : ∀ w ∈ u_ws C T N, w ∈ lwT := clW0 (C, T, N) (List.mem_of_getElem? h)
def tyAll : List (Nat → FieldType) := [tyX0, tyX1, tyX2, tyX3, tyX4, tyX5, tyX6, tyX7, tyX8, tyX9, tyX10]
theorem clT {ci N : Nat} {C : String} {T : u_T} (h : vwCl[ci]? = some (C, T, N)) : ∃ ty0 : Nat → FieldType, (∀ k, k < N → parseFieldDescriptor (T k).2.2.1 = some (ty0 k)) ∧ ∀ a, a < N → ∀ b, b < N → a ≠ b → (T a).2.1 ≠ (T b).2.1 := by
  match ci, h with
  | 0, h => cases h; exact ⟨tyX0, tyX0_ok, nmX0⟩
  | 1, h => cases h; exact ⟨tyX1, tyX1_ok, nmX1⟩
  | 2, h => cases h; exact ⟨tyX2, tyX2_ok, nmX2⟩
  | 3, h => cases h; exact ⟨tyX3, tyX3_ok, nmX3⟩
  | 4, h => cases h; exact ⟨tyX4, tyX4_ok, nmX4⟩
  | 5, h => cases h; exact ⟨tyX5, tyX5_ok, nmX5⟩
  | 6, h => cases h; exact ⟨tyX6, tyX6_ok, nmX6⟩
  | 7, h => cases h; exact ⟨tyX7, tyX7_ok, nmX7⟩
  | 8, h => cases h; exact ⟨tyX8, tyX8_ok, nmX8⟩
  | 9, h => cases h; exact ⟨tyX9, tyX9_ok, nmX9⟩
  | 10, h => cases h; exact ⟨tyX10, tyX10_ok, nmX10⟩
  | k + 11, h => simp [vwCl] at h
def CV (own : String) (idx : Nat) (y : MethodName) (bs : ByteArray) (ml : Nat) (rt : Option FieldType) (n ci : Nat) : Prop := Cond.code y bs ml rt ∈ lwT ∧ Cond.methodLink own idx y ∈ lwT ∧ Cond.instanceMethod y ∈ lwT ∧ Cond.selects y.cls y y ∈ lwT ∧ Cond.initialized y.cls ∈ lwT ∧ y.cls ≠ "java/lang/invoke/MethodHandle" ∧ y.cls ≠ "java/lang/invoke/VarHandle" ∧ (parseMethodDescriptor y.desc).map (fun d => d.parameters.length) = some n ∧ ml ≤ 60 ∧ ∃ (T : u_T) (N : Nat), vwCl[ci]? = some (y.cls, T, N)
def CSt (own : String) (idx : Nat) (y : MethodName) (bs : ByteArray) (ml : Nat) (rt : Option FieldType) (n : Nat) : Prop := Cond.code y bs ml rt ∈ lwT ∧ Cond.methodLink own idx y ∈ lwT ∧ Cond.static y ∈ lwT ∧ Cond.initialized y.cls ∈ lwT ∧ y.cls ≠ "java/lang/invoke/MethodHandle" ∧ y.cls ≠ "java/lang/invoke/VarHandle" ∧ (parseMethodDescriptor y.desc).map (fun d => d.parameters.length) = some n ∧ ml ≤ 60
theorem acN : Cond.native arraycopyName ∈ lwT := by decide +kernel
theorem acS : Cond.static arraycopyName ∈ lwT := by decide +kernel
theorem acI : Cond.initialized "java/lang/System" ∈ lwT := by decide +kernel
theorem acW : nativeFrameWords "java/lang/System" "arraycopy" 5 ≤ 61 := by decide +kernel
theorem mmaxS : Cond.static Lib.Math.max.name ∈ lwT := by decide +kernel
theorem mminS : Cond.static Lib.Math.min.name ∈ lwT := by decide +kernel
theorem mI : Cond.initialized "java/lang/Math" ∈ lwT := by decide +kernel
theorem mmaxC : Cond.code Lib.Math.max.name Lib.Math.max.code 2 (some .int) ∈ lwT := by decide +kernel
theorem mminC : Cond.code Lib.Math.min.name Lib.Math.min.code 2 (some .int) ∈ lwT := by decide +kernel

section RUL
variable {K : KT} {cc : ByteArray} {own : String} {nL d : Nat} {θ : Site} {sx : List Shp} {Fi : Int32 → St → Prop} {Fl : Int64 → St → Prop} {Fv : St → Prop} {pc : Nat} {lv : LV} {st : List Value} {S : St}
theorem q_iconst (hC : Ok K cc own nL d θ sx Fi Fl Fv) {n : Int} {v : Int32} (dg : decode cc pc = .ok (.iconst n, 1)) (hv : Int32.ofInt n = v) (k : K (pc + 1) lv (.int v :: st) S) : K pc lv (st) S := by
  obtain ⟨p, l, e, s, m, args, below, meth, c, Q, hx, hb, hml, hown, hts, hK, hJ, hE, ri, rl, rv, rfl⟩ := hC
  intro H locs ls hn hl hP hS
  exact lv_iconst hx hb dg hv (k H locs ls hn hl hP hS)
theorem q_bipush (hC : Ok K cc own nL d θ sx Fi Fl Fv) {n : Int} {v : Int32} (dg : decode cc pc = .ok (.bipush n, 2)) (hv : (Int8.ofInt n).toInt32 = v) (k : K (pc + 2) lv (.int v :: st) S) : K pc lv (st) S := by
  obtain ⟨p, l, e, s, m, args, below, meth, c, Q, hx, hb, hml, hown, hts, hK, hJ, hE, ri, rl, rv, rfl⟩ := hC
  intro H locs ls hn hl hP hS
  exact lv_bipush hx hb dg hv (k H locs ls hn hl hP hS)
theorem q_sipush (hC : Ok K cc own nL d θ sx Fi Fl Fv) {n : Int} {v : Int32} (dg : decode cc pc = .ok (.sipush n, 3)) (hv : (Int16.ofInt n).toInt32 = v) (k : K (pc + 3) lv (.int v :: st) S) : K pc lv (st) S := by
  obtain ⟨p, l, e, s, m, args, below, meth, c, Q, hx, hb, hml, hown, hts, hK, hJ, hE, ri, rl, rv, rfl⟩ := hC
  intro H locs ls hn hl hP hS
  exact lv_sipush hx hb dg hv (k H locs ls hn hl hP hS)
theorem q_lconst (hC : Ok K cc own nL d θ sx Fi Fl Fv) {n : Fin 2} {v : Int64} (dg : decode cc pc = .ok (.lconst n, 1)) (hv : Int64.ofNat (n : Nat) = v) (k : K (pc + 1) lv (.long v :: st) S) : K pc lv (st) S := by
  obtain ⟨p, l, e, s, m, args, below, meth, c, Q, hx, hb, hml, hown, hts, hK, hJ, hE, ri, rl, rv, rfl⟩ := hC
  intro H locs ls hn hl hP hS
  exact lv_lconst hx hb dg hv (k H locs ls hn hl hP hS)
theorem q_iadd (hC : Ok K cc own nL d θ sx Fi Fl Fv) {x y : Int32} (dg : decode cc pc = .ok (.iadd, 1))  (k : K (pc + 1) lv (.int (x + y) :: st) S) : K pc lv (.int y :: .int x :: st) S := by
  obtain ⟨p, l, e, s, m, args, below, meth, c, Q, hx, hb, hml, hown, hts, hK, hJ, hE, ri, rl, rv, rfl⟩ := hC
  intro H locs ls hn hl hP hS
  exact lv_iadd hx hb dg (k H locs ls hn hl hP hS)
theorem q_isub (hC : Ok K cc own nL d θ sx Fi Fl Fv) {x y : Int32} (dg : decode cc pc = .ok (.isub, 1))  (k : K (pc + 1) lv (.int (x - y) :: st) S) : K pc lv (.int y :: .int x :: st) S := by
  obtain ⟨p, l, e, s, m, args, below, meth, c, Q, hx, hb, hml, hown, hts, hK, hJ, hE, ri, rl, rv, rfl⟩ := hC
  intro H locs ls hn hl hP hS
  exact lv_isub hx hb dg (k H locs ls hn hl hP hS)
theorem q_imul (hC : Ok K cc own nL d θ sx Fi Fl Fv) {x y : Int32} (dg : decode cc pc = .ok (.imul, 1))  (k : K (pc + 1) lv (.int (x * y) :: st) S) : K pc lv (.int y :: .int x :: st) S := by
  obtain ⟨p, l, e, s, m, args, below, meth, c, Q, hx, hb, hml, hown, hts, hK, hJ, hE, ri, rl, rv, rfl⟩ := hC
  intro H locs ls hn hl hP hS
  exact lv_imul hx hb dg (k H locs ls hn hl hP hS)
theorem q_iand (hC : Ok K cc own nL d θ sx Fi Fl Fv) {x y : Int32} (dg : decode cc pc = .ok (.iand, 1))  (k : K (pc + 1) lv (.int (x &&& y) :: st) S) : K pc lv (.int y :: .int x :: st) S := by
  obtain ⟨p, l, e, s, m, args, below, meth, c, Q, hx, hb, hml, hown, hts, hK, hJ, hE, ri, rl, rv, rfl⟩ := hC
  intro H locs ls hn hl hP hS
  exact lv_iand hx hb dg (k H locs ls hn hl hP hS)
theorem q_ior (hC : Ok K cc own nL d θ sx Fi Fl Fv) {x y : Int32} (dg : decode cc pc = .ok (.ior, 1))  (k : K (pc + 1) lv (.int (x ||| y) :: st) S) : K pc lv (.int y :: .int x :: st) S := by
  obtain ⟨p, l, e, s, m, args, below, meth, c, Q, hx, hb, hml, hown, hts, hK, hJ, hE, ri, rl, rv, rfl⟩ := hC
  intro H locs ls hn hl hP hS
  exact lv_ior hx hb dg (k H locs ls hn hl hP hS)
theorem q_ixor (hC : Ok K cc own nL d θ sx Fi Fl Fv) {x y : Int32} (dg : decode cc pc = .ok (.ixor, 1))  (k : K (pc + 1) lv (.int (x ^^^ y) :: st) S) : K pc lv (.int y :: .int x :: st) S := by
  obtain ⟨p, l, e, s, m, args, below, meth, c, Q, hx, hb, hml, hown, hts, hK, hJ, hE, ri, rl, rv, rfl⟩ := hC
  intro H locs ls hn hl hP hS
  exact lv_ixor hx hb dg (k H locs ls hn hl hP hS)
theorem q_ishl (hC : Ok K cc own nL d θ sx Fi Fl Fv) {x y : Int32} (dg : decode cc pc = .ok (.ishl, 1))  (k : K (pc + 1) lv (.int (x <<< (y &&& 31)) :: st) S) : K pc lv (.int y :: .int x :: st) S := by
  obtain ⟨p, l, e, s, m, args, below, meth, c, Q, hx, hb, hml, hown, hts, hK, hJ, hE, ri, rl, rv, rfl⟩ := hC
  intro H locs ls hn hl hP hS
  exact lv_ishl hx hb dg (k H locs ls hn hl hP hS)
theorem q_ishr (hC : Ok K cc own nL d θ sx Fi Fl Fv) {x y : Int32} (dg : decode cc pc = .ok (.ishr, 1))  (k : K (pc + 1) lv (.int (x >>> (y &&& 31)) :: st) S) : K pc lv (.int y :: .int x :: st) S := by
  obtain ⟨p, l, e, s, m, args, below, meth, c, Q, hx, hb, hml, hown, hts, hK, hJ, hE, ri, rl, rv, rfl⟩ := hC
  intro H locs ls hn hl hP hS
  exact lv_ishr hx hb dg (k H locs ls hn hl hP hS)
theorem q_ladd (hC : Ok K cc own nL d θ sx Fi Fl Fv) {x y : Int64} (dg : decode cc pc = .ok (.ladd, 1))  (k : K (pc + 1) lv (.long (x + y) :: st) S) : K pc lv (.long y :: .long x :: st) S := by
  obtain ⟨p, l, e, s, m, args, below, meth, c, Q, hx, hb, hml, hown, hts, hK, hJ, hE, ri, rl, rv, rfl⟩ := hC
  intro H locs ls hn hl hP hS
  exact lv_ladd hx hb dg (k H locs ls hn hl hP hS)
theorem q_lsub (hC : Ok K cc own nL d θ sx Fi Fl Fv) {x y : Int64} (dg : decode cc pc = .ok (.lsub, 1))  (k : K (pc + 1) lv (.long (x - y) :: st) S) : K pc lv (.long y :: .long x :: st) S := by
  obtain ⟨p, l, e, s, m, args, below, meth, c, Q, hx, hb, hml, hown, hts, hK, hJ, hE, ri, rl, rv, rfl⟩ := hC
  intro H locs ls hn hl hP hS
  exact lv_lsub hx hb dg (k H locs ls hn hl hP hS)
theorem q_lmul (hC : Ok K cc own nL d θ sx Fi Fl Fv) {x y : Int64} (dg : decode cc pc = .ok (.lmul, 1))  (k : K (pc + 1) lv (.long (x * y) :: st) S) : K pc lv (.long y :: .long x :: st) S := by
  obtain ⟨p, l, e, s, m, args, below, meth, c, Q, hx, hb, hml, hown, hts, hK, hJ, hE, ri, rl, rv, rfl⟩ := hC
  intro H locs ls hn hl hP hS
  exact lv_lmul hx hb dg (k H locs ls hn hl hP hS)
theorem q_land (hC : Ok K cc own nL d θ sx Fi Fl Fv) {x y : Int64} (dg : decode cc pc = .ok (.land, 1))  (k : K (pc + 1) lv (.long (x &&& y) :: st) S) : K pc lv (.long y :: .long x :: st) S := by
  obtain ⟨p, l, e, s, m, args, below, meth, c, Q, hx, hb, hml, hown, hts, hK, hJ, hE, ri, rl, rv, rfl⟩ := hC
  intro H locs ls hn hl hP hS
  exact lv_land hx hb dg (k H locs ls hn hl hP hS)
theorem q_lor (hC : Ok K cc own nL d θ sx Fi Fl Fv) {x y : Int64} (dg : decode cc pc = .ok (.lor, 1))  (k : K (pc + 1) lv (.long (x ||| y) :: st) S) : K pc lv (.long y :: .long x :: st) S := by
  obtain ⟨p, l, e, s, m, args, below, meth, c, Q, hx, hb, hml, hown, hts, hK, hJ, hE, ri, rl, rv, rfl⟩ := hC
  intro H locs ls hn hl hP hS
  exact lv_lor hx hb dg (k H locs ls hn hl hP hS)
theorem q_idiv (hC : Ok K cc own nL d θ sx Fi Fl Fv) {x y : Int32} (dg : decode cc pc = .ok (.idiv, 1)) (h0 : ¬ y = 0) (k : K (pc + 1) lv (.int (x / y) :: st) S) : K pc lv (.int y :: .int x :: st) S := by
  obtain ⟨p, l, e, s, m, args, below, meth, c, Q, hx, hb, hml, hown, hts, hK, hJ, hE, ri, rl, rv, rfl⟩ := hC
  intro H locs ls hn hl hP hS
  exact lv_idiv hx hb dg h0 (k H locs ls hn hl hP hS)
theorem q_irem (hC : Ok K cc own nL d θ sx Fi Fl Fv) {x y : Int32} (dg : decode cc pc = .ok (.irem, 1)) (h0 : ¬ y = 0) (k : K (pc + 1) lv (.int (x - x / y * y) :: st) S) : K pc lv (.int y :: .int x :: st) S := by
  obtain ⟨p, l, e, s, m, args, below, meth, c, Q, hx, hb, hml, hown, hts, hK, hJ, hE, ri, rl, rv, rfl⟩ := hC
  intro H locs ls hn hl hP hS
  exact lv_irem hx hb dg h0 (k H locs ls hn hl hP hS)
theorem q_ldiv (hC : Ok K cc own nL d θ sx Fi Fl Fv) {x y : Int64} (dg : decode cc pc = .ok (.ldiv, 1)) (h0 : ¬ y = 0) (k : K (pc + 1) lv (.long (x / y) :: st) S) : K pc lv (.long y :: .long x :: st) S := by
  obtain ⟨p, l, e, s, m, args, below, meth, c, Q, hx, hb, hml, hown, hts, hK, hJ, hE, ri, rl, rv, rfl⟩ := hC
  intro H locs ls hn hl hP hS
  exact lv_ldiv hx hb dg h0 (k H locs ls hn hl hP hS)
theorem q_lrem (hC : Ok K cc own nL d θ sx Fi Fl Fv) {x y : Int64} (dg : decode cc pc = .ok (.lrem, 1)) (h0 : ¬ y = 0) (k : K (pc + 1) lv (.long (x - x / y * y) :: st) S) : K pc lv (.long y :: .long x :: st) S := by
  obtain ⟨p, l, e, s, m, args, below, meth, c, Q, hx, hb, hml, hown, hts, hK, hJ, hE, ri, rl, rv, rfl⟩ := hC
  intro H locs ls hn hl hP hS
  exact lv_lrem hx hb dg h0 (k H locs ls hn hl hP hS)
theorem q_ineg (hC : Ok K cc own nL d θ sx Fi Fl Fv) {x : Int32} (dg : decode cc pc = .ok (.ineg, 1))  (k : K (pc + 1) lv (.int (-x) :: st) S) : K pc lv (.int x :: st) S := by
  obtain ⟨p, l, e, s, m, args, below, meth, c, Q, hx, hb, hml, hown, hts, hK, hJ, hE, ri, rl, rv, rfl⟩ := hC
  intro H locs ls hn hl hP hS
  exact lv_ineg hx hb dg (k H locs ls hn hl hP hS)
theorem q_i2l (hC : Ok K cc own nL d θ sx Fi Fl Fv) {x : Int32} (dg : decode cc pc = .ok (.i2l, 1))  (k : K (pc + 1) lv (.long x.toInt64 :: st) S) : K pc lv (.int x :: st) S := by
  obtain ⟨p, l, e, s, m, args, below, meth, c, Q, hx, hb, hml, hown, hts, hK, hJ, hE, ri, rl, rv, rfl⟩ := hC
  intro H locs ls hn hl hP hS
  exact lv_i2l hx hb dg rfl (k H locs ls hn hl hP hS)
theorem q_l2i (hC : Ok K cc own nL d θ sx Fi Fl Fv) {x : Int64} (dg : decode cc pc = .ok (.l2i, 1))  (k : K (pc + 1) lv (.int x.toInt32 :: st) S) : K pc lv (.long x :: st) S := by
  obtain ⟨p, l, e, s, m, args, below, meth, c, Q, hx, hb, hml, hown, hts, hK, hJ, hE, ri, rl, rv, rfl⟩ := hC
  intro H locs ls hn hl hP hS
  exact lv_l2i hx hb dg rfl (k H locs ls hn hl hP hS)
theorem q_i2b (hC : Ok K cc own nL d θ sx Fi Fl Fv) {x : Int32} (dg : decode cc pc = .ok (.i2b, 1))  (k : K (pc + 1) lv (.int x.toInt8.toInt32 :: st) S) : K pc lv (.int x :: st) S := by
  obtain ⟨p, l, e, s, m, args, below, meth, c, Q, hx, hb, hml, hown, hts, hK, hJ, hE, ri, rl, rv, rfl⟩ := hC
  intro H locs ls hn hl hP hS
  exact lv_i2b hx hb dg rfl (k H locs ls hn hl hP hS)
theorem q_i2c (hC : Ok K cc own nL d θ sx Fi Fl Fv) {x : Int32} (dg : decode cc pc = .ok (.i2c, 1))  (k : K (pc + 1) lv (.int (x.toUInt32 % 65536).toInt32 :: st) S) : K pc lv (.int x :: st) S := by
  obtain ⟨p, l, e, s, m, args, below, meth, c, Q, hx, hb, hml, hown, hts, hK, hJ, hE, ri, rl, rv, rfl⟩ := hC
  intro H locs ls hn hl hP hS
  exact lv_i2c hx hb dg rfl (k H locs ls hn hl hP hS)
theorem q_iushr (hC : Ok K cc own nL d θ sx Fi Fl Fv) {x y : Int32} (dg : decode cc pc = .ok (.iushr, 1))  (k : K (pc + 1) lv (.int (x.toUInt32 >>> (y.toUInt32 &&& Int32.toUInt32 31)).toInt32 :: st) S) : K pc lv (.int y :: .int x :: st) S := by
  obtain ⟨p, l, e, s, m, args, below, meth, c, Q, hx, hb, hml, hown, hts, hK, hJ, hE, ri, rl, rv, rfl⟩ := hC
  intro H locs ls hn hl hP hS
  exact lv_iushr hx hb dg rfl (k H locs ls hn hl hP hS)
theorem q_lshr (hC : Ok K cc own nL d θ sx Fi Fl Fv) {x : Int64} {y : Int32} (dg : decode cc pc = .ok (.lshr, 1))  (k : K (pc + 1) lv (.long (x >>> (y.toInt64 &&& 63)) :: st) S) : K pc lv (.int y :: .long x :: st) S := by
  obtain ⟨p, l, e, s, m, args, below, meth, c, Q, hx, hb, hml, hown, hts, hK, hJ, hE, ri, rl, rv, rfl⟩ := hC
  intro H locs ls hn hl hP hS
  exact lv_lshr hx hb dg rfl (k H locs ls hn hl hP hS)
theorem q_lshl (hC : Ok K cc own nL d θ sx Fi Fl Fv) {x : Int64} {y : Int32} (dg : decode cc pc = .ok (.lshl, 1))  (k : K (pc + 1) lv (.long (x <<< (y.toInt64 &&& 63)) :: st) S) : K pc lv (.int y :: .long x :: st) S := by
  obtain ⟨p, l, e, s, m, args, below, meth, c, Q, hx, hb, hml, hown, hts, hK, hJ, hE, ri, rl, rv, rfl⟩ := hC
  intro H locs ls hn hl hP hS
  exact lv_lshl hx hb dg rfl (k H locs ls hn hl hP hS)
theorem q_dup (hC : Ok K cc own nL d θ sx Fi Fl Fv) {va : Value} (dg : decode cc pc = .ok (.dup, 1)) (h1 : va.category = 1) (k : K (pc + 1) lv (va :: va :: st) S) : K pc lv (va :: st) S := by
  obtain ⟨p, l, e, s, m, args, below, meth, c, Q, hx, hb, hml, hown, hts, hK, hJ, hE, ri, rl, rv, rfl⟩ := hC
  intro H locs ls hn hl hP hS
  exact lv_dup hx hb dg h1 (k H locs ls hn hl hP hS)
theorem q_pop (hC : Ok K cc own nL d θ sx Fi Fl Fv) {va : Value} (dg : decode cc pc = .ok (.pop, 1)) (h1 : va.category = 1) (k : K (pc + 1) lv (st) S) : K pc lv (va :: st) S := by
  obtain ⟨p, l, e, s, m, args, below, meth, c, Q, hx, hb, hml, hown, hts, hK, hJ, hE, ri, rl, rv, rfl⟩ := hC
  intro H locs ls hn hl hP hS
  exact lv_pop hx hb dg h1 (k H locs ls hn hl hP hS)
theorem q_dup_x1 (hC : Ok K cc own nL d θ sx Fi Fl Fv) {va vb : Value} (dg : decode cc pc = .ok (.dup_x1, 1)) (h1 : va.category = 1) (h2 : vb.category = 1) (k : K (pc + 1) lv (va :: vb :: va :: st) S) : K pc lv (va :: vb :: st) S := by
  obtain ⟨p, l, e, s, m, args, below, meth, c, Q, hx, hb, hml, hown, hts, hK, hJ, hE, ri, rl, rv, rfl⟩ := hC
  intro H locs ls hn hl hP hS
  exact lv_dup_x1 hx hb dg h1 h2 (k H locs ls hn hl hP hS)
theorem q_dup_x2 (hC : Ok K cc own nL d θ sx Fi Fl Fv) {va vb vd : Value} (dg : decode cc pc = .ok (.dup_x2, 1)) (h1 : va.category = 1) (h2 : vb.category = 1) (h3 : vd.category = 1) (k : K (pc + 1) lv (va :: vb :: vd :: va :: st) S) : K pc lv (va :: vb :: vd :: st) S := by
  obtain ⟨p, l, e, s, m, args, below, meth, c, Q, hx, hb, hml, hown, hts, hK, hJ, hE, ri, rl, rv, rfl⟩ := hC
  intro H locs ls hn hl hP hS
  exact lv_dup_x2 hx hb dg h1 h2 h3 (k H locs ls hn hl hP hS)
theorem q_dup2 (hC : Ok K cc own nL d θ sx Fi Fl Fv) {va vb : Value} (dg : decode cc pc = .ok (.dup2, 1)) (h1 : va.category = 1) (h2 : vb.category = 1) (k : K (pc + 1) lv (va :: vb :: va :: vb :: st) S) : K pc lv (va :: vb :: st) S := by
  obtain ⟨p, l, e, s, m, args, below, meth, c, Q, hx, hb, hml, hown, hts, hK, hJ, hE, ri, rl, rv, rfl⟩ := hC
  intro H locs ls hn hl hP hS
  exact lv_dup2_11 hx hb dg h1 h2 (k H locs ls hn hl hP hS)
theorem q_dup2l (hC : Ok K cc own nL d θ sx Fi Fl Fv) {va : Value} (dg : decode cc pc = .ok (.dup2, 1)) (h1 : va.category = 2) (k : K (pc + 1) lv (va :: va :: st) S) : K pc lv (va :: st) S := by
  obtain ⟨p, l, e, s, m, args, below, meth, c, Q, hx, hb, hml, hown, hts, hK, hJ, hE, ri, rl, rv, rfl⟩ := hC
  intro H locs ls hn hl hP hS
  exact lv_dup2_2 hx hb dg h1 (k H locs ls hn hl hP hS)
theorem q_iload_n (hC : Ok K cc own nL d θ sx Fi Fl Fv) {n : Fin 4} {x : Int32} (dg : decode cc pc = .ok (.iload_n n, 1)) (k : K (pc + 1) lv (.int x :: st) S) (hi : lv[(n : Nat)]? = some (some (.int x)) := by rfl) : K pc lv st S := by
  obtain ⟨p, l, e, s, m, args, below, meth, c, Q, hx, hb, hml, hown, hts, hK, hJ, hE, ri, rl, rv, rfl⟩ := hC
  intro H locs ls hn hl hP hS
  exact lv_iload_n hx hb dg rfl (lv_rd hl hi) (k H locs ls hn hl hP hS)
theorem q_iload (hC : Ok K cc own nL d θ sx Fi Fl Fv) {n : Nat} {x : Int32} (dg : decode cc pc = .ok (.iload n, 2)) (k : K (pc + 2) lv (.int x :: st) S) (hi : lv[n]? = some (some (.int x)) := by rfl) : K pc lv st S := by
  obtain ⟨p, l, e, s, m, args, below, meth, c, Q, hx, hb, hml, hown, hts, hK, hJ, hE, ri, rl, rv, rfl⟩ := hC
  intro H locs ls hn hl hP hS
  exact lv_iload hx hb dg (lv_rd hl hi) (k H locs ls hn hl hP hS)
theorem q_lload_n (hC : Ok K cc own nL d θ sx Fi Fl Fv) {n : Fin 4} {x : Int64} (dg : decode cc pc = .ok (.lload_n n, 1)) (k : K (pc + 1) lv (.long x :: st) S) (hi : lv[(n : Nat)]? = some (some (.long x)) := by rfl) : K pc lv st S := by
  obtain ⟨p, l, e, s, m, args, below, meth, c, Q, hx, hb, hml, hown, hts, hK, hJ, hE, ri, rl, rv, rfl⟩ := hC
  intro H locs ls hn hl hP hS
  exact lv_lload_n hx hb dg rfl (lv_rd hl hi) (k H locs ls hn hl hP hS)
theorem q_lload (hC : Ok K cc own nL d θ sx Fi Fl Fv) {n : Nat} {x : Int64} (dg : decode cc pc = .ok (.lload n, 2)) (k : K (pc + 2) lv (.long x :: st) S) (hi : lv[n]? = some (some (.long x)) := by rfl) : K pc lv st S := by
  obtain ⟨p, l, e, s, m, args, below, meth, c, Q, hx, hb, hml, hown, hts, hK, hJ, hE, ri, rl, rv, rfl⟩ := hC
  intro H locs ls hn hl hP hS
  exact lv_lload hx hb dg (lv_rd hl hi) (k H locs ls hn hl hP hS)
theorem q_aload_n (hC : Ok K cc own nL d θ sx Fi Fl Fv) {n : Fin 4} {x : Nat} (dg : decode cc pc = .ok (.aload_n n, 1)) (k : K (pc + 1) lv (.ref x :: st) S) (hi : lv[(n : Nat)]? = some (some (.ref x)) := by rfl) : K pc lv st S := by
  obtain ⟨p, l, e, s, m, args, below, meth, c, Q, hx, hb, hml, hown, hts, hK, hJ, hE, ri, rl, rv, rfl⟩ := hC
  intro H locs ls hn hl hP hS
  exact lv_aload_n hx hb dg rfl (lv_rd hl hi) (k H locs ls hn hl hP hS)
theorem q_aload (hC : Ok K cc own nL d θ sx Fi Fl Fv) {n : Nat} {x : Nat} (dg : decode cc pc = .ok (.aload n, 2)) (k : K (pc + 2) lv (.ref x :: st) S) (hi : lv[n]? = some (some (.ref x)) := by rfl) : K pc lv st S := by
  obtain ⟨p, l, e, s, m, args, below, meth, c, Q, hx, hb, hml, hown, hts, hK, hJ, hE, ri, rl, rv, rfl⟩ := hC
  intro H locs ls hn hl hP hS
  exact lv_aload hx hb dg (lv_rd hl hi) (k H locs ls hn hl hP hS)
theorem q_istore_g (hC : Ok K cc own nL d θ sx Fi Fl Fv) {i : Nat} {n : Fin 4} {x : Int32} (dg : decode cc pc = .ok (.istore_n n, 1)) (hi : (n : Nat) = i) (h1 : i < lv.length) (h2 : nlg lv i) (k : K (pc + 1) (lv.set i (some (.int x))) st S) : K pc lv (.int x :: st) S := by
  obtain ⟨p, l, e, s, m, args, below, meth, c, Q, hx, hb, hml, hown, hts, hK, hJ, hE, ri, rl, rv, rfl⟩ := hC
  intro H locs ls hn hl hP hS
  exact lv_istore_n hx hb dg hi hl (by omega) rfl (fun ls' hl' => k H locs ls' (by simpa using hn) (lv_st1 hl' h1 h2) hP hS)
theorem q_istoreg (hC : Ok K cc own nL d θ sx Fi Fl Fv) {i : Nat} {x : Int32} (dg : decode cc pc = .ok (.istore i, 2)) (h1 : i < lv.length) (h2 : nlg lv i) (k : K (pc + 2) (lv.set i (some (.int x))) st S) : K pc lv (.int x :: st) S := by
  obtain ⟨p, l, e, s, m, args, below, meth, c, Q, hx, hb, hml, hown, hts, hK, hJ, hE, ri, rl, rv, rfl⟩ := hC
  intro H locs ls hn hl hP hS
  exact lv_istore hx hb dg hl (by omega) rfl (fun ls' hl' => k H locs ls' (by simpa using hn) (lv_st1 hl' h1 h2) hP hS)
theorem q_astore_g (hC : Ok K cc own nL d θ sx Fi Fl Fv) {i : Nat} {n : Fin 4} {x : Nat} (dg : decode cc pc = .ok (.astore_n n, 1)) (hi : (n : Nat) = i) (h1 : i < lv.length) (h2 : nlg lv i) (k : K (pc + 1) (lv.set i (some (.ref x))) st S) : K pc lv (.ref x :: st) S := by
  obtain ⟨p, l, e, s, m, args, below, meth, c, Q, hx, hb, hml, hown, hts, hK, hJ, hE, ri, rl, rv, rfl⟩ := hC
  intro H locs ls hn hl hP hS
  exact lv_astore_n hx hb dg hi hl (by omega) rfl (fun ls' hl' => k H locs ls' (by simpa using hn) (lv_st1 hl' h1 h2) hP hS)
theorem q_astoreg (hC : Ok K cc own nL d θ sx Fi Fl Fv) {i : Nat} {x : Nat} (dg : decode cc pc = .ok (.astore i, 2)) (h1 : i < lv.length) (h2 : nlg lv i) (k : K (pc + 2) (lv.set i (some (.ref x))) st S) : K pc lv (.ref x :: st) S := by
  obtain ⟨p, l, e, s, m, args, below, meth, c, Q, hx, hb, hml, hown, hts, hK, hJ, hE, ri, rl, rv, rfl⟩ := hC
  intro H locs ls hn hl hP hS
  exact lv_astore hx hb dg hl (by omega) rfl (fun ls' hl' => k H locs ls' (by simpa using hn) (lv_st1 hl' h1 h2) hP hS)
theorem q_lstore_g (hC : Ok K cc own nL d θ sx Fi Fl Fv) {i : Nat} {n : Fin 4} {x : Int64} (dg : decode cc pc = .ok (.lstore_n n, 1)) (hi : (n : Nat) = i) (h1 : i + 1 < lv.length) (h2 : nlg lv i) (k : K (pc + 1) ((lv.set i (some (.long x))).set (i + 1) none) st S) : K pc lv (.long x :: st) S := by
  obtain ⟨p, l, e, s, m, args, below, meth, c, Q, hx, hb, hml, hown, hts, hK, hJ, hE, ri, rl, rv, rfl⟩ := hC
  intro H locs ls hn hl hP hS
  exact lv_lstore_n hx hb dg hi hl (by omega) rfl (fun ls' hl' => k H locs ls' (by simpa using hn) (lv_st2 hl' h1 h2) hP hS)
theorem q_lstoreg (hC : Ok K cc own nL d θ sx Fi Fl Fv) {i : Nat} {x : Int64} (dg : decode cc pc = .ok (.lstore i, 2)) (h1 : i + 1 < lv.length) (h2 : nlg lv i) (k : K (pc + 2) ((lv.set i (some (.long x))).set (i + 1) none) st S) : K pc lv (.long x :: st) S := by
  obtain ⟨p, l, e, s, m, args, below, meth, c, Q, hx, hb, hml, hown, hts, hK, hJ, hE, ri, rl, rv, rfl⟩ := hC
  intro H locs ls hn hl hP hS
  exact lv_lstore hx hb dg hl (by omega) rfl (fun ls' hl' => k H locs ls' (by simpa using hn) (lv_st2 hl' h1 h2) hP hS)
theorem q_iincg (hC : Ok K cc own nL d θ sx Fi Fl Fv) {i : Nat} {n : Int} {x v : Int32} (dg : decode cc pc = .ok (.iinc i n, 3)) (h0 : lv[i]? = some (some (.int x))) (hv : x + Int32.ofInt n = v) (h1 : i < lv.length) (h2 : nlg lv i) (k : K (pc + 3) (lv.set i (some (.int v))) st S) : K pc lv st S := by
  obtain ⟨p, l, e, s, m, args, below, meth, c, Q, hx, hb, hml, hown, hts, hK, hJ, hE, ri, rl, rv, rfl⟩ := hC
  intro H locs ls hn hl hP hS
  obtain ⟨q, hq⟩ := List.getElem?_of_mem ((lvA_mem lv 0 i (.int x)).mpr ⟨i, by omega, h0⟩)
  exact lv_iinc hx hb dg hl hq hv (by omega) rfl (fun ls' hl' => k H locs ls' (by simpa using hn) (lv_st1 hl' h1 h2) hP hS)
theorem nlg_i {lv : LV} {i : Nat} {o : Option Value} (h : lv[i]? = some o) (h2 : ∀ v, o = some v → v.category = 1) : nlg lv (i + 1) := fun v hv => h2 v (by rw [h] at hv; exact Option.some.inj hv)
def nl1 : Option Value → Bool
  | some (.long _) => false
  | some (.double _) => false
  | _ => true
theorem nl1_ok {o : Option Value} (h : nl1 o = true) : ∀ v, o = some v → v.category = 1 := by
  intro v hv
  subst hv
  cases v <;> first | rfl | (simp [nl1] at h)
theorem q_istore_0 (hC : Ok K cc own nL d θ sx Fi Fl Fv) {x : Int32} {o : Option Value} {tl : LV} (dg : decode cc pc = .ok (.istore_n 0, 1)) (k : K (pc + 1) (some (.int x) :: tl) st S)  : K pc (o :: tl) (.int x :: st) S :=
  q_istore_g (i := 0) hC dg rfl (by simp) trivial k
theorem q_astore_0 (hC : Ok K cc own nL d θ sx Fi Fl Fv) {x : Nat} {o : Option Value} {tl : LV} (dg : decode cc pc = .ok (.astore_n 0, 1)) (k : K (pc + 1) (some (.ref x) :: tl) st S)  : K pc (o :: tl) (.ref x :: st) S :=
  q_astore_g (i := 0) hC dg rfl (by simp) trivial k
theorem q_lstore_0 (hC : Ok K cc own nL d θ sx Fi Fl Fv) {x : Int64} {o o2 : Option Value} {tl : LV} (dg : decode cc pc = .ok (.lstore_n 0, 1)) (k : K (pc + 1) (some (.long x) :: none :: tl) st S)  : K pc (o :: o2 :: tl) (.long x :: st) S :=
  q_lstore_g (i := 0) hC dg rfl (by simp) trivial k
theorem q_iinc_0 (hC : Ok K cc own nL d θ sx Fi Fl Fv) {n : Int} {x v : Int32} {tl : LV} (dg : decode cc pc = .ok (.iinc 0 n, 3)) (hv : x + Int32.ofInt n = v) (k : K (pc + 3) (some (.int v) :: tl) st S)  : K pc (some (.int x) :: tl) st S :=
  q_iincg (i := 0) hC dg rfl hv (by simp) trivial k
theorem q_istore_1 (hC : Ok K cc own nL d θ sx Fi Fl Fv) {x : Int32} {a0 o : Option Value} {tl : LV} (dg : decode cc pc = .ok (.istore_n 1, 1)) (k : K (pc + 1) (a0 :: some (.int x) :: tl) st S) (hh : nl1 a0 = true := by rfl) : K pc (a0 :: o :: tl) (.int x :: st) S :=
  q_istore_g (i := 1) hC dg rfl (by simp) (nlg_i (i := 0) rfl (nl1_ok hh)) k
theorem q_astore_1 (hC : Ok K cc own nL d θ sx Fi Fl Fv) {x : Nat} {a0 o : Option Value} {tl : LV} (dg : decode cc pc = .ok (.astore_n 1, 1)) (k : K (pc + 1) (a0 :: some (.ref x) :: tl) st S) (hh : nl1 a0 = true := by rfl) : K pc (a0 :: o :: tl) (.ref x :: st) S :=
  q_astore_g (i := 1) hC dg rfl (by simp) (nlg_i (i := 0) rfl (nl1_ok hh)) k
theorem q_lstore_1 (hC : Ok K cc own nL d θ sx Fi Fl Fv) {x : Int64} {a0 o o2 : Option Value} {tl : LV} (dg : decode cc pc = .ok (.lstore_n 1, 1)) (k : K (pc + 1) (a0 :: some (.long x) :: none :: tl) st S) (hh : nl1 a0 = true := by rfl) : K pc (a0 :: o :: o2 :: tl) (.long x :: st) S :=
  q_lstore_g (i := 1) hC dg rfl (by simp) (nlg_i (i := 0) rfl (nl1_ok hh)) k
theorem q_iinc_1 (hC : Ok K cc own nL d θ sx Fi Fl Fv) {n : Int} {x v : Int32} {a0 : Option Value} {tl : LV} (dg : decode cc pc = .ok (.iinc 1 n, 3)) (hv : x + Int32.ofInt n = v) (k : K (pc + 3) (a0 :: some (.int v) :: tl) st S) (hh : nl1 a0 = true := by rfl) : K pc (a0 :: some (.int x) :: tl) st S :=
  q_iincg (i := 1) hC dg rfl hv (by simp) (nlg_i (i := 0) rfl (nl1_ok hh)) k
theorem q_istore_2 (hC : Ok K cc own nL d θ sx Fi Fl Fv) {x : Int32} {a0 a1 o : Option Value} {tl : LV} (dg : decode cc pc = .ok (.istore_n 2, 1)) (k : K (pc + 1) (a0 :: a1 :: some (.int x) :: tl) st S) (hh : nl1 a1 = true := by rfl) : K pc (a0 :: a1 :: o :: tl) (.int x :: st) S :=
  q_istore_g (i := 2) hC dg rfl (by simp) (nlg_i (i := 1) rfl (nl1_ok hh)) k
theorem q_astore_2 (hC : Ok K cc own nL d θ sx Fi Fl Fv) {x : Nat} {a0 a1 o : Option Value} {tl : LV} (dg : decode cc pc = .ok (.astore_n 2, 1)) (k : K (pc + 1) (a0 :: a1 :: some (.ref x) :: tl) st S) (hh : nl1 a1 = true := by rfl) : K pc (a0 :: a1 :: o :: tl) (.ref x :: st) S :=
  q_astore_g (i := 2) hC dg rfl (by simp) (nlg_i (i := 1) rfl (nl1_ok hh)) k
theorem q_lstore_2 (hC : Ok K cc own nL d θ sx Fi Fl Fv) {x : Int64} {a0 a1 o o2 : Option Value} {tl : LV} (dg : decode cc pc = .ok (.lstore_n 2, 1)) (k : K (pc + 1) (a0 :: a1 :: some (.long x) :: none :: tl) st S) (hh : nl1 a1 = true := by rfl) : K pc (a0 :: a1 :: o :: o2 :: tl) (.long x :: st) S :=
  q_lstore_g (i := 2) hC dg rfl (by simp) (nlg_i (i := 1) rfl (nl1_ok hh)) k
theorem q_iinc_2 (hC : Ok K cc own nL d θ sx Fi Fl Fv) {n : Int} {x v : Int32} {a0 a1 : Option Value} {tl : LV} (dg : decode cc pc = .ok (.iinc 2 n, 3)) (hv : x + Int32.ofInt n = v) (k : K (pc + 3) (a0 :: a1 :: some (.int v) :: tl) st S) (hh : nl1 a1 = true := by rfl) : K pc (a0 :: a1 :: some (.int x) :: tl) st S :=
  q_iincg (i := 2) hC dg rfl hv (by simp) (nlg_i (i := 1) rfl (nl1_ok hh)) k
theorem q_istore_3 (hC : Ok K cc own nL d θ sx Fi Fl Fv) {x : Int32} {a0 a1 a2 o : Option Value} {tl : LV} (dg : decode cc pc = .ok (.istore_n 3, 1)) (k : K (pc + 1) (a0 :: a1 :: a2 :: some (.int x) :: tl) st S) (hh : nl1 a2 = true := by rfl) : K pc (a0 :: a1 :: a2 :: o :: tl) (.int x :: st) S :=
  q_istore_g (i := 3) hC dg rfl (by simp) (nlg_i (i := 2) rfl (nl1_ok hh)) k
theorem q_astore_3 (hC : Ok K cc own nL d θ sx Fi Fl Fv) {x : Nat} {a0 a1 a2 o : Option Value} {tl : LV} (dg : decode cc pc = .ok (.astore_n 3, 1)) (k : K (pc + 1) (a0 :: a1 :: a2 :: some (.ref x) :: tl) st S) (hh : nl1 a2 = true := by rfl) : K pc (a0 :: a1 :: a2 :: o :: tl) (.ref x :: st) S :=
  q_astore_g (i := 3) hC dg rfl (by simp) (nlg_i (i := 2) rfl (nl1_ok hh)) k
theorem q_lstore_3 (hC : Ok K cc own nL d θ sx Fi Fl Fv) {x : Int64} {a0 a1 a2 o o2 : Option Value} {tl : LV} (dg : decode cc pc = .ok (.lstore_n 3, 1)) (k : K (pc + 1) (a0 :: a1 :: a2 :: some (.long x) :: none :: tl) st S) (hh : nl1 a2 = true := by rfl) : K pc (a0 :: a1 :: a2 :: o :: o2 :: tl) (.long x :: st) S :=
  q_lstore_g (i := 3) hC dg rfl (by simp) (nlg_i (i := 2) rfl (nl1_ok hh)) k
theorem q_iinc_3 (hC : Ok K cc own nL d θ sx Fi Fl Fv) {n : Int} {x v : Int32} {a0 a1 a2 : Option Value} {tl : LV} (dg : decode cc pc = .ok (.iinc 3 n, 3)) (hv : x + Int32.ofInt n = v) (k : K (pc + 3) (a0 :: a1 :: a2 :: some (.int v) :: tl) st S) (hh : nl1 a2 = true := by rfl) : K pc (a0 :: a1 :: a2 :: some (.int x) :: tl) st S :=
  q_iincg (i := 3) hC dg rfl hv (by simp) (nlg_i (i := 2) rfl (nl1_ok hh)) k
theorem q_istore_4 (hC : Ok K cc own nL d θ sx Fi Fl Fv) {x : Int32} {a0 a1 a2 a3 o : Option Value} {tl : LV} (dg : decode cc pc = .ok (.istore 4, 2)) (k : K (pc + 2) (a0 :: a1 :: a2 :: a3 :: some (.int x) :: tl) st S) (hh : nl1 a3 = true := by rfl) : K pc (a0 :: a1 :: a2 :: a3 :: o :: tl) (.int x :: st) S :=
  q_istoreg (i := 4) hC dg (by simp) (nlg_i (i := 3) rfl (nl1_ok hh)) k
theorem q_astore_4 (hC : Ok K cc own nL d θ sx Fi Fl Fv) {x : Nat} {a0 a1 a2 a3 o : Option Value} {tl : LV} (dg : decode cc pc = .ok (.astore 4, 2)) (k : K (pc + 2) (a0 :: a1 :: a2 :: a3 :: some (.ref x) :: tl) st S) (hh : nl1 a3 = true := by rfl) : K pc (a0 :: a1 :: a2 :: a3 :: o :: tl) (.ref x :: st) S :=
  q_astoreg (i := 4) hC dg (by simp) (nlg_i (i := 3) rfl (nl1_ok hh)) k
theorem q_lstore_4 (hC : Ok K cc own nL d θ sx Fi Fl Fv) {x : Int64} {a0 a1 a2 a3 o o2 : Option Value} {tl : LV} (dg : decode cc pc = .ok (.lstore 4, 2)) (k : K (pc + 2) (a0 :: a1 :: a2 :: a3 :: some (.long x) :: none :: tl) st S) (hh : nl1 a3 = true := by rfl) : K pc (a0 :: a1 :: a2 :: a3 :: o :: o2 :: tl) (.long x :: st) S :=
  q_lstoreg (i := 4) hC dg (by simp) (nlg_i (i := 3) rfl (nl1_ok hh)) k
theorem q_iinc_4 (hC : Ok K cc own nL d θ sx Fi Fl Fv) {n : Int} {x v : Int32} {a0 a1 a2 a3 : Option Value} {tl : LV} (dg : decode cc pc = .ok (.iinc 4 n, 3)) (hv : x + Int32.ofInt n = v) (k : K (pc + 3) (a0 :: a1 :: a2 :: a3 :: some (.int v) :: tl) st S) (hh : nl1 a3 = true := by rfl) : K pc (a0 :: a1 :: a2 :: a3 :: some (.int x) :: tl) st S :=
  q_iincg (i := 4) hC dg rfl hv (by simp) (nlg_i (i := 3) rfl (nl1_ok hh)) k
theorem q_istore_5 (hC : Ok K cc own nL d θ sx Fi Fl Fv) {x : Int32} {a0 a1 a2 a3 a4 o : Option Value} {tl : LV} (dg : decode cc pc = .ok (.istore 5, 2)) (k : K (pc + 2) (a0 :: a1 :: a2 :: a3 :: a4 :: some (.int x) :: tl) st S) (hh : nl1 a4 = true := by rfl) : K pc (a0 :: a1 :: a2 :: a3 :: a4 :: o :: tl) (.int x :: st) S :=
  q_istoreg (i := 5) hC dg (by simp) (nlg_i (i := 4) rfl (nl1_ok hh)) k
theorem q_astore_5 (hC : Ok K cc own nL d θ sx Fi Fl Fv) {x : Nat} {a0 a1 a2 a3 a4 o : Option Value} {tl : LV} (dg : decode cc pc = .ok (.astore 5, 2)) (k : K (pc + 2) (a0 :: a1 :: a2 :: a3 :: a4 :: some (.ref x) :: tl) st S) (hh : nl1 a4 = true := by rfl) : K pc (a0 :: a1 :: a2 :: a3 :: a4 :: o :: tl) (.ref x :: st) S :=
  q_astoreg (i := 5) hC dg (by simp) (nlg_i (i := 4) rfl (nl1_ok hh)) k
theorem q_lstore_5 (hC : Ok K cc own nL d θ sx Fi Fl Fv) {x : Int64} {a0 a1 a2 a3 a4 o o2 : Option Value} {tl : LV} (dg : decode cc pc = .ok (.lstore 5, 2)) (k : K (pc + 2) (a0 :: a1 :: a2 :: a3 :: a4 :: some (.long x) :: none :: tl) st S) (hh : nl1 a4 = true := by rfl) : K pc (a0 :: a1 :: a2 :: a3 :: a4 :: o :: o2 :: tl) (.long x :: st) S :=
  q_lstoreg (i := 5) hC dg (by simp) (nlg_i (i := 4) rfl (nl1_ok hh)) k
theorem q_iinc_5 (hC : Ok K cc own nL d θ sx Fi Fl Fv) {n : Int} {x v : Int32} {a0 a1 a2 a3 a4 : Option Value} {tl : LV} (dg : decode cc pc = .ok (.iinc 5 n, 3)) (hv : x + Int32.ofInt n = v) (k : K (pc + 3) (a0 :: a1 :: a2 :: a3 :: a4 :: some (.int v) :: tl) st S) (hh : nl1 a4 = true := by rfl) : K pc (a0 :: a1 :: a2 :: a3 :: a4 :: some (.int x) :: tl) st S :=
  q_iincg (i := 5) hC dg rfl hv (by simp) (nlg_i (i := 4) rfl (nl1_ok hh)) k
theorem q_istore_6 (hC : Ok K cc own nL d θ sx Fi Fl Fv) {x : Int32} {a0 a1 a2 a3 a4 a5 o : Option Value} {tl : LV} (dg : decode cc pc = .ok (.istore 6, 2)) (k : K (pc + 2) (a0 :: a1 :: a2 :: a3 :: a4 :: a5 :: some (.int x) :: tl) st S) (hh : nl1 a5 = true := by rfl) : K pc (a0 :: a1 :: a2 :: a3 :: a4 :: a5 :: o :: tl) (.int x :: st) S :=
  q_istoreg (i := 6) hC dg (by simp) (nlg_i (i := 5) rfl (nl1_ok hh)) k
theorem q_astore_6 (hC : Ok K cc own nL d θ sx Fi Fl Fv) {x : Nat} {a0 a1 a2 a3 a4 a5 o : Option Value} {tl : LV} (dg : decode cc pc = .ok (.astore 6, 2)) (k : K (pc + 2) (a0 :: a1 :: a2 :: a3 :: a4 :: a5 :: some (.ref x) :: tl) st S) (hh : nl1 a5 = true := by rfl) : K pc (a0 :: a1 :: a2 :: a3 :: a4 :: a5 :: o :: tl) (.ref x :: st) S :=
  q_astoreg (i := 6) hC dg (by simp) (nlg_i (i := 5) rfl (nl1_ok hh)) k
theorem q_lstore_6 (hC : Ok K cc own nL d θ sx Fi Fl Fv) {x : Int64} {a0 a1 a2 a3 a4 a5 o o2 : Option Value} {tl : LV} (dg : decode cc pc = .ok (.lstore 6, 2)) (k : K (pc + 2) (a0 :: a1 :: a2 :: a3 :: a4 :: a5 :: some (.long x) :: none :: tl) st S) (hh : nl1 a5 = true := by rfl) : K pc (a0 :: a1 :: a2 :: a3 :: a4 :: a5 :: o :: o2 :: tl) (.long x :: st) S :=
  q_lstoreg (i := 6) hC dg (by simp) (nlg_i (i := 5) rfl (nl1_ok hh)) k
theorem q_iinc_6 (hC : Ok K cc own nL d θ sx Fi Fl Fv) {n : Int} {x v : Int32} {a0 a1 a2 a3 a4 a5 : Option Value} {tl : LV} (dg : decode cc pc = .ok (.iinc 6 n, 3)) (hv : x + Int32.ofInt n = v) (k : K (pc + 3) (a0 :: a1 :: a2 :: a3 :: a4 :: a5 :: some (.int v) :: tl) st S) (hh : nl1 a5 = true := by rfl) : K pc (a0 :: a1 :: a2 :: a3 :: a4 :: a5 :: some (.int x) :: tl) st S :=
  q_iincg (i := 6) hC dg rfl hv (by simp) (nlg_i (i := 5) rfl (nl1_ok hh)) k
theorem q_istore_7 (hC : Ok K cc own nL d θ sx Fi Fl Fv) {x : Int32} {a0 a1 a2 a3 a4 a5 a6 o : Option Value} {tl : LV} (dg : decode cc pc = .ok (.istore 7, 2)) (k : K (pc + 2) (a0 :: a1 :: a2 :: a3 :: a4 :: a5 :: a6 :: some (.int x) :: tl) st S) (hh : nl1 a6 = true := by rfl) : K pc (a0 :: a1 :: a2 :: a3 :: a4 :: a5 :: a6 :: o :: tl) (.int x :: st) S :=
  q_istoreg (i := 7) hC dg (by simp) (nlg_i (i := 6) rfl (nl1_ok hh)) k
theorem q_astore_7 (hC : Ok K cc own nL d θ sx Fi Fl Fv) {x : Nat} {a0 a1 a2 a3 a4 a5 a6 o : Option Value} {tl : LV} (dg : decode cc pc = .ok (.astore 7, 2)) (k : K (pc + 2) (a0 :: a1 :: a2 :: a3 :: a4 :: a5 :: a6 :: some (.ref x) :: tl) st S) (hh : nl1 a6 = true := by rfl) : K pc (a0 :: a1 :: a2 :: a3 :: a4 :: a5 :: a6 :: o :: tl) (.ref x :: st) S :=
  q_astoreg (i := 7) hC dg (by simp) (nlg_i (i := 6) rfl (nl1_ok hh)) k
theorem q_lstore_7 (hC : Ok K cc own nL d θ sx Fi Fl Fv) {x : Int64} {a0 a1 a2 a3 a4 a5 a6 o o2 : Option Value} {tl : LV} (dg : decode cc pc = .ok (.lstore 7, 2)) (k : K (pc + 2) (a0 :: a1 :: a2 :: a3 :: a4 :: a5 :: a6 :: some (.long x) :: none :: tl) st S) (hh : nl1 a6 = true := by rfl) : K pc (a0 :: a1 :: a2 :: a3 :: a4 :: a5 :: a6 :: o :: o2 :: tl) (.long x :: st) S :=
  q_lstoreg (i := 7) hC dg (by simp) (nlg_i (i := 6) rfl (nl1_ok hh)) k
theorem q_iinc_7 (hC : Ok K cc own nL d θ sx Fi Fl Fv) {n : Int} {x v : Int32} {a0 a1 a2 a3 a4 a5 a6 : Option Value} {tl : LV} (dg : decode cc pc = .ok (.iinc 7 n, 3)) (hv : x + Int32.ofInt n = v) (k : K (pc + 3) (a0 :: a1 :: a2 :: a3 :: a4 :: a5 :: a6 :: some (.int v) :: tl) st S) (hh : nl1 a6 = true := by rfl) : K pc (a0 :: a1 :: a2 :: a3 :: a4 :: a5 :: a6 :: some (.int x) :: tl) st S :=
  q_iincg (i := 7) hC dg rfl hv (by simp) (nlg_i (i := 6) rfl (nl1_ok hh)) k
theorem q_istore_8 (hC : Ok K cc own nL d θ sx Fi Fl Fv) {x : Int32} {a0 a1 a2 a3 a4 a5 a6 a7 o : Option Value} {tl : LV} (dg : decode cc pc = .ok (.istore 8, 2)) (k : K (pc + 2) (a0 :: a1 :: a2 :: a3 :: a4 :: a5 :: a6 :: a7 :: some (.int x) :: tl) st S) (hh : nl1 a7 = true := by rfl) : K pc (a0 :: a1 :: a2 :: a3 :: a4 :: a5 :: a6 :: a7 :: o :: tl) (.int x :: st) S :=
  q_istoreg (i := 8) hC dg (by simp) (nlg_i (i := 7) rfl (nl1_ok hh)) k
theorem q_astore_8 (hC : Ok K cc own nL d θ sx Fi Fl Fv) {x : Nat} {a0 a1 a2 a3 a4 a5 a6 a7 o : Option Value} {tl : LV} (dg : decode cc pc = .ok (.astore 8, 2)) (k : K (pc + 2) (a0 :: a1 :: a2 :: a3 :: a4 :: a5 :: a6 :: a7 :: some (.ref x) :: tl) st S) (hh : nl1 a7 = true := by rfl) : K pc (a0 :: a1 :: a2 :: a3 :: a4 :: a5 :: a6 :: a7 :: o :: tl) (.ref x :: st) S :=
  q_astoreg (i := 8) hC dg (by simp) (nlg_i (i := 7) rfl (nl1_ok hh)) k
theorem q_lstore_8 (hC : Ok K cc own nL d θ sx Fi Fl Fv) {x : Int64} {a0 a1 a2 a3 a4 a5 a6 a7 o o2 : Option Value} {tl : LV} (dg : decode cc pc = .ok (.lstore 8, 2)) (k : K (pc + 2) (a0 :: a1 :: a2 :: a3 :: a4 :: a5 :: a6 :: a7 :: some (.long x) :: none :: tl) st S) (hh : nl1 a7 = true := by rfl) : K pc (a0 :: a1 :: a2 :: a3 :: a4 :: a5 :: a6 :: a7 :: o :: o2 :: tl) (.long x :: st) S :=
  q_lstoreg (i := 8) hC dg (by simp) (nlg_i (i := 7) rfl (nl1_ok hh)) k
theorem q_iinc_8 (hC : Ok K cc own nL d θ sx Fi Fl Fv) {n : Int} {x v : Int32} {a0 a1 a2 a3 a4 a5 a6 a7 : Option Value} {tl : LV} (dg : decode cc pc = .ok (.iinc 8 n, 3)) (hv : x + Int32.ofInt n = v) (k : K (pc + 3) (a0 :: a1 :: a2 :: a3 :: a4 :: a5 :: a6 :: a7 :: some (.int v) :: tl) st S) (hh : nl1 a7 = true := by rfl) : K pc (a0 :: a1 :: a2 :: a3 :: a4 :: a5 :: a6 :: a7 :: some (.int x) :: tl) st S :=
  q_iincg (i := 8) hC dg rfl hv (by simp) (nlg_i (i := 7) rfl (nl1_ok hh)) k
theorem q_istore_9 (hC : Ok K cc own nL d θ sx Fi Fl Fv) {x : Int32} {a0 a1 a2 a3 a4 a5 a6 a7 a8 o : Option Value} {tl : LV} (dg : decode cc pc = .ok (.istore 9, 2)) (k : K (pc + 2) (a0 :: a1 :: a2 :: a3 :: a4 :: a5 :: a6 :: a7 :: a8 :: some (.int x) :: tl) st S) (hh : nl1 a8 = true := by rfl) : K pc (a0 :: a1 :: a2 :: a3 :: a4 :: a5 :: a6 :: a7 :: a8 :: o :: tl) (.int x :: st) S :=
  q_istoreg (i := 9) hC dg (by simp) (nlg_i (i := 8) rfl (nl1_ok hh)) k
theorem q_astore_9 (hC : Ok K cc own nL d θ sx Fi Fl Fv) {x : Nat} {a0 a1 a2 a3 a4 a5 a6 a7 a8 o : Option Value} {tl : LV} (dg : decode cc pc = .ok (.astore 9, 2)) (k : K (pc + 2) (a0 :: a1 :: a2 :: a3 :: a4 :: a5 :: a6 :: a7 :: a8 :: some (.ref x) :: tl) st S) (hh : nl1 a8 = true := by rfl) : K pc (a0 :: a1 :: a2 :: a3 :: a4 :: a5 :: a6 :: a7 :: a8 :: o :: tl) (.ref x :: st) S :=
  q_astoreg (i := 9) hC dg (by simp) (nlg_i (i := 8) rfl (nl1_ok hh)) k
theorem q_lstore_9 (hC : Ok K cc own nL d θ sx Fi Fl Fv) {x : Int64} {a0 a1 a2 a3 a4 a5 a6 a7 a8 o o2 : Option Value} {tl : LV} (dg : decode cc pc = .ok (.lstore 9, 2)) (k : K (pc + 2) (a0 :: a1 :: a2 :: a3 :: a4 :: a5 :: a6 :: a7 :: a8 :: some (.long x) :: none :: tl) st S) (hh : nl1 a8 = true := by rfl) : K pc (a0 :: a1 :: a2 :: a3 :: a4 :: a5 :: a6 :: a7 :: a8 :: o :: o2 :: tl) (.long x :: st) S :=
  q_lstoreg (i := 9) hC dg (by simp) (nlg_i (i := 8) rfl (nl1_ok hh)) k
theorem q_iinc_9 (hC : Ok K cc own nL d θ sx Fi Fl Fv) {n : Int} {x v : Int32} {a0 a1 a2 a3 a4 a5 a6 a7 a8 : Option Value} {tl : LV} (dg : decode cc pc = .ok (.iinc 9 n, 3)) (hv : x + Int32.ofInt n = v) (k : K (pc + 3) (a0 :: a1 :: a2 :: a3 :: a4 :: a5 :: a6 :: a7 :: a8 :: some (.int v) :: tl) st S) (hh : nl1 a8 = true := by rfl) : K pc (a0 :: a1 :: a2 :: a3 :: a4 :: a5 :: a6 :: a7 :: a8 :: some (.int x) :: tl) st S :=
  q_iincg (i := 9) hC dg rfl hv (by simp) (nlg_i (i := 8) rfl (nl1_ok hh)) k
theorem q_istore_10 (hC : Ok K cc own nL d θ sx Fi Fl Fv) {x : Int32} {a0 a1 a2 a3 a4 a5 a6 a7 a8 a9 o : Option Value} {tl : LV} (dg : decode cc pc = .ok (.istore 10, 2)) (k : K (pc + 2) (a0 :: a1 :: a2 :: a3 :: a4 :: a5 :: a6 :: a7 :: a8 :: a9 :: some (.int x) :: tl) st S) (hh : nl1 a9 = true := by rfl) : K pc (a0 :: a1 :: a2 :: a3 :: a4 :: a5 :: a6 :: a7 :: a8 :: a9 :: o :: tl) (.int x :: st) S :=
  q_istoreg (i := 10) hC dg (by simp) (nlg_i (i := 9) rfl (nl1_ok hh)) k
theorem q_astore_10 (hC : Ok K cc own nL d θ sx Fi Fl Fv) {x : Nat} {a0 a1 a2 a3 a4 a5 a6 a7 a8 a9 o : Option Value} {tl : LV} (dg : decode cc pc = .ok (.astore 10, 2)) (k : K (pc + 2) (a0 :: a1 :: a2 :: a3 :: a4 :: a5 :: a6 :: a7 :: a8 :: a9 :: some (.ref x) :: tl) st S) (hh : nl1 a9 = true := by rfl) : K pc (a0 :: a1 :: a2 :: a3 :: a4 :: a5 :: a6 :: a7 :: a8 :: a9 :: o :: tl) (.ref x :: st) S :=
  q_astoreg (i := 10) hC dg (by simp) (nlg_i (i := 9) rfl (nl1_ok hh)) k
theorem q_lstore_10 (hC : Ok K cc own nL d θ sx Fi Fl Fv) {x : Int64} {a0 a1 a2 a3 a4 a5 a6 a7 a8 a9 o o2 : Option Value} {tl : LV} (dg : decode cc pc = .ok (.lstore 10, 2)) (k : K (pc + 2) (a0 :: a1 :: a2 :: a3 :: a4 :: a5 :: a6 :: a7 :: a8 :: a9 :: some (.long x) :: none :: tl) st S) (hh : nl1 a9 = true := by rfl) : K pc (a0 :: a1 :: a2 :: a3 :: a4 :: a5 :: a6 :: a7 :: a8 :: a9 :: o :: o2 :: tl) (.long x :: st) S :=
  q_lstoreg (i := 10) hC dg (by simp) (nlg_i (i := 9) rfl (nl1_ok hh)) k
theorem q_iinc_10 (hC : Ok K cc own nL d θ sx Fi Fl Fv) {n : Int} {x v : Int32} {a0 a1 a2 a3 a4 a5 a6 a7 a8 a9 : Option Value} {tl : LV} (dg : decode cc pc = .ok (.iinc 10 n, 3)) (hv : x + Int32.ofInt n = v) (k : K (pc + 3) (a0 :: a1 :: a2 :: a3 :: a4 :: a5 :: a6 :: a7 :: a8 :: a9 :: some (.int v) :: tl) st S) (hh : nl1 a9 = true := by rfl) : K pc (a0 :: a1 :: a2 :: a3 :: a4 :: a5 :: a6 :: a7 :: a8 :: a9 :: some (.int x) :: tl) st S :=
  q_iincg (i := 10) hC dg rfl hv (by simp) (nlg_i (i := 9) rfl (nl1_ok hh)) k
theorem q_istore_11 (hC : Ok K cc own nL d θ sx Fi Fl Fv) {x : Int32} {a0 a1 a2 a3 a4 a5 a6 a7 a8 a9 a10 o : Option Value} {tl : LV} (dg : decode cc pc = .ok (.istore 11, 2)) (k : K (pc + 2) (a0 :: a1 :: a2 :: a3 :: a4 :: a5 :: a6 :: a7 :: a8 :: a9 :: a10 :: some (.int x) :: tl) st S) (hh : nl1 a10 = true := by rfl) : K pc (a0 :: a1 :: a2 :: a3 :: a4 :: a5 :: a6 :: a7 :: a8 :: a9 :: a10 :: o :: tl) (.int x :: st) S :=
  q_istoreg (i := 11) hC dg (by simp) (nlg_i (i := 10) rfl (nl1_ok hh)) k
theorem q_astore_11 (hC : Ok K cc own nL d θ sx Fi Fl Fv) {x : Nat} {a0 a1 a2 a3 a4 a5 a6 a7 a8 a9 a10 o : Option Value} {tl : LV} (dg : decode cc pc = .ok (.astore 11, 2)) (k : K (pc + 2) (a0 :: a1 :: a2 :: a3 :: a4 :: a5 :: a6 :: a7 :: a8 :: a9 :: a10 :: some (.ref x) :: tl) st S) (hh : nl1 a10 = true := by rfl) : K pc (a0 :: a1 :: a2 :: a3 :: a4 :: a5 :: a6 :: a7 :: a8 :: a9 :: a10 :: o :: tl) (.ref x :: st) S :=
  q_astoreg (i := 11) hC dg (by simp) (nlg_i (i := 10) rfl (nl1_ok hh)) k
theorem q_lstore_11 (hC : Ok K cc own nL d θ sx Fi Fl Fv) {x : Int64} {a0 a1 a2 a3 a4 a5 a6 a7 a8 a9 a10 o o2 : Option Value} {tl : LV} (dg : decode cc pc = .ok (.lstore 11, 2)) (k : K (pc + 2) (a0 :: a1 :: a2 :: a3 :: a4 :: a5 :: a6 :: a7 :: a8 :: a9 :: a10 :: some (.long x) :: none :: tl) st S) (hh : nl1 a10 = true := by rfl) : K pc (a0 :: a1 :: a2 :: a3 :: a4 :: a5 :: a6 :: a7 :: a8 :: a9 :: a10 :: o :: o2 :: tl) (.long x :: st) S :=
  q_lstoreg (i := 11) hC dg (by simp) (nlg_i (i := 10) rfl (nl1_ok hh)) k
theorem q_iinc_11 (hC : Ok K cc own nL d θ sx Fi Fl Fv) {n : Int} {x v : Int32} {a0 a1 a2 a3 a4 a5 a6 a7 a8 a9 a10 : Option Value} {tl : LV} (dg : decode cc pc = .ok (.iinc 11 n, 3)) (hv : x + Int32.ofInt n = v) (k : K (pc + 3) (a0 :: a1 :: a2 :: a3 :: a4 :: a5 :: a6 :: a7 :: a8 :: a9 :: a10 :: some (.int v) :: tl) st S) (hh : nl1 a10 = true := by rfl) : K pc (a0 :: a1 :: a2 :: a3 :: a4 :: a5 :: a6 :: a7 :: a8 :: a9 :: a10 :: some (.int x) :: tl) st S :=
  q_iincg (i := 11) hC dg rfl hv (by simp) (nlg_i (i := 10) rfl (nl1_ok hh)) k
theorem q_istore_12 (hC : Ok K cc own nL d θ sx Fi Fl Fv) {x : Int32} {a0 a1 a2 a3 a4 a5 a6 a7 a8 a9 a10 a11 o : Option Value} {tl : LV} (dg : decode cc pc = .ok (.istore 12, 2)) (k : K (pc + 2) (a0 :: a1 :: a2 :: a3 :: a4 :: a5 :: a6 :: a7 :: a8 :: a9 :: a10 :: a11 :: some (.int x) :: tl) st S) (hh : nl1 a11 = true := by rfl) : K pc (a0 :: a1 :: a2 :: a3 :: a4 :: a5 :: a6 :: a7 :: a8 :: a9 :: a10 :: a11 :: o :: tl) (.int x :: st) S :=
  q_istoreg (i := 12) hC dg (by simp) (nlg_i (i := 11) rfl (nl1_ok hh)) k
theorem q_astore_12 (hC : Ok K cc own nL d θ sx Fi Fl Fv) {x : Nat} {a0 a1 a2 a3 a4 a5 a6 a7 a8 a9 a10 a11 o : Option Value} {tl : LV} (dg : decode cc pc = .ok (.astore 12, 2)) (k : K (pc + 2) (a0 :: a1 :: a2 :: a3 :: a4 :: a5 :: a6 :: a7 :: a8 :: a9 :: a10 :: a11 :: some (.ref x) :: tl) st S) (hh : nl1 a11 = true := by rfl) : K pc (a0 :: a1 :: a2 :: a3 :: a4 :: a5 :: a6 :: a7 :: a8 :: a9 :: a10 :: a11 :: o :: tl) (.ref x :: st) S :=
  q_astoreg (i := 12) hC dg (by simp) (nlg_i (i := 11) rfl (nl1_ok hh)) k
theorem q_lstore_12 (hC : Ok K cc own nL d θ sx Fi Fl Fv) {x : Int64} {a0 a1 a2 a3 a4 a5 a6 a7 a8 a9 a10 a11 o o2 : Option Value} {tl : LV} (dg : decode cc pc = .ok (.lstore 12, 2)) (k : K (pc + 2) (a0 :: a1 :: a2 :: a3 :: a4 :: a5 :: a6 :: a7 :: a8 :: a9 :: a10 :: a11 :: some (.long x) :: none :: tl) st S) (hh : nl1 a11 = true := by rfl) : K pc (a0 :: a1 :: a2 :: a3 :: a4 :: a5 :: a6 :: a7 :: a8 :: a9 :: a10 :: a11 :: o :: o2 :: tl) (.long x :: st) S :=
  q_lstoreg (i := 12) hC dg (by simp) (nlg_i (i := 11) rfl (nl1_ok hh)) k
theorem q_iinc_12 (hC : Ok K cc own nL d θ sx Fi Fl Fv) {n : Int} {x v : Int32} {a0 a1 a2 a3 a4 a5 a6 a7 a8 a9 a10 a11 : Option Value} {tl : LV} (dg : decode cc pc = .ok (.iinc 12 n, 3)) (hv : x + Int32.ofInt n = v) (k : K (pc + 3) (a0 :: a1 :: a2 :: a3 :: a4 :: a5 :: a6 :: a7 :: a8 :: a9 :: a10 :: a11 :: some (.int v) :: tl) st S) (hh : nl1 a11 = true := by rfl) : K pc (a0 :: a1 :: a2 :: a3 :: a4 :: a5 :: a6 :: a7 :: a8 :: a9 :: a10 :: a11 :: some (.int x) :: tl) st S :=
  q_iincg (i := 12) hC dg rfl hv (by simp) (nlg_i (i := 11) rfl (nl1_ok hh)) k
theorem q_istore_13 (hC : Ok K cc own nL d θ sx Fi Fl Fv) {x : Int32} {a0 a1 a2 a3 a4 a5 a6 a7 a8 a9 a10 a11 a12 o : Option Value} {tl : LV} (dg : decode cc pc = .ok (.istore 13, 2)) (k : K (pc + 2) (a0 :: a1 :: a2 :: a3 :: a4 :: a5 :: a6 :: a7 :: a8 :: a9 :: a10 :: a11 :: a12 :: some (.int x) :: tl) st S) (hh : nl1 a12 = true := by rfl) : K pc (a0 :: a1 :: a2 :: a3 :: a4 :: a5 :: a6 :: a7 :: a8 :: a9 :: a10 :: a11 :: a12 :: o :: tl) (.int x :: st) S :=
  q_istoreg (i := 13) hC dg (by simp) (nlg_i (i := 12) rfl (nl1_ok hh)) k
theorem q_astore_13 (hC : Ok K cc own nL d θ sx Fi Fl Fv) {x : Nat} {a0 a1 a2 a3 a4 a5 a6 a7 a8 a9 a10 a11 a12 o : Option Value} {tl : LV} (dg : decode cc pc = .ok (.astore 13, 2)) (k : K (pc + 2) (a0 :: a1 :: a2 :: a3 :: a4 :: a5 :: a6 :: a7 :: a8 :: a9 :: a10 :: a11 :: a12 :: some (.ref x) :: tl) st S) (hh : nl1 a12 = true := by rfl) : K pc (a0 :: a1 :: a2 :: a3 :: a4 :: a5 :: a6 :: a7 :: a8 :: a9 :: a10 :: a11 :: a12 :: o :: tl) (.ref x :: st) S :=
  q_astoreg (i := 13) hC dg (by simp) (nlg_i (i := 12) rfl (nl1_ok hh)) k
theorem q_lstore_13 (hC : Ok K cc own nL d θ sx Fi Fl Fv) {x : Int64} {a0 a1 a2 a3 a4 a5 a6 a7 a8 a9 a10 a11 a12 o o2 : Option Value} {tl : LV} (dg : decode cc pc = .ok (.lstore 13, 2)) (k : K (pc + 2) (a0 :: a1 :: a2 :: a3 :: a4 :: a5 :: a6 :: a7 :: a8 :: a9 :: a10 :: a11 :: a12 :: some (.long x) :: none :: tl) st S) (hh : nl1 a12 = true := by rfl) : K pc (a0 :: a1 :: a2 :: a3 :: a4 :: a5 :: a6 :: a7 :: a8 :: a9 :: a10 :: a11 :: a12 :: o :: o2 :: tl) (.long x :: st) S :=
  q_lstoreg (i := 13) hC dg (by simp) (nlg_i (i := 12) rfl (nl1_ok hh)) k
theorem q_iinc_13 (hC : Ok K cc own nL d θ sx Fi Fl Fv) {n : Int} {x v : Int32} {a0 a1 a2 a3 a4 a5 a6 a7 a8 a9 a10 a11 a12 : Option Value} {tl : LV} (dg : decode cc pc = .ok (.iinc 13 n, 3)) (hv : x + Int32.ofInt n = v) (k : K (pc + 3) (a0 :: a1 :: a2 :: a3 :: a4 :: a5 :: a6 :: a7 :: a8 :: a9 :: a10 :: a11 :: a12 :: some (.int v) :: tl) st S) (hh : nl1 a12 = true := by rfl) : K pc (a0 :: a1 :: a2 :: a3 :: a4 :: a5 :: a6 :: a7 :: a8 :: a9 :: a10 :: a11 :: a12 :: some (.int x) :: tl) st S :=
  q_iincg (i := 13) hC dg rfl hv (by simp) (nlg_i (i := 12) rfl (nl1_ok hh)) k
theorem q_istore_14 (hC : Ok K cc own nL d θ sx Fi Fl Fv) {x : Int32} {a0 a1 a2 a3 a4 a5 a6 a7 a8 a9 a10 a11 a12 a13 o : Option Value} {tl : LV} (dg : decode cc pc = .ok (.istore 14, 2)) (k : K (pc + 2) (a0 :: a1 :: a2 :: a3 :: a4 :: a5 :: a6 :: a7 :: a8 :: a9 :: a10 :: a11 :: a12 :: a13 :: some (.int x) :: tl) st S) (hh : nl1 a13 = true := by rfl) : K pc (a0 :: a1 :: a2 :: a3 :: a4 :: a5 :: a6 :: a7 :: a8 :: a9 :: a10 :: a11 :: a12 :: a13 :: o :: tl) (.int x :: st) S :=
  q_istoreg (i := 14) hC dg (by simp) (nlg_i (i := 13) rfl (nl1_ok hh)) k
theorem q_astore_14 (hC : Ok K cc own nL d θ sx Fi Fl Fv) {x : Nat} {a0 a1 a2 a3 a4 a5 a6 a7 a8 a9 a10 a11 a12 a13 o : Option Value} {tl : LV} (dg : decode cc pc = .ok (.astore 14, 2)) (k : K (pc + 2) (a0 :: a1 :: a2 :: a3 :: a4 :: a5 :: a6 :: a7 :: a8 :: a9 :: a10 :: a11 :: a12 :: a13 :: some (.ref x) :: tl) st S) (hh : nl1 a13 = true := by rfl) : K pc (a0 :: a1 :: a2 :: a3 :: a4 :: a5 :: a6 :: a7 :: a8 :: a9 :: a10 :: a11 :: a12 :: a13 :: o :: tl) (.ref x :: st) S :=
  q_astoreg (i := 14) hC dg (by simp) (nlg_i (i := 13) rfl (nl1_ok hh)) k
theorem q_lstore_14 (hC : Ok K cc own nL d θ sx Fi Fl Fv) {x : Int64} {a0 a1 a2 a3 a4 a5 a6 a7 a8 a9 a10 a11 a12 a13 o o2 : Option Value} {tl : LV} (dg : decode cc pc = .ok (.lstore 14, 2)) (k : K (pc + 2) (a0 :: a1 :: a2 :: a3 :: a4 :: a5 :: a6 :: a7 :: a8 :: a9 :: a10 :: a11 :: a12 :: a13 :: some (.long x) :: none :: tl) st S) (hh : nl1 a13 = true := by rfl) : K pc (a0 :: a1 :: a2 :: a3 :: a4 :: a5 :: a6 :: a7 :: a8 :: a9 :: a10 :: a11 :: a12 :: a13 :: o :: o2 :: tl) (.long x :: st) S :=
  q_lstoreg (i := 14) hC dg (by simp) (nlg_i (i := 13) rfl (nl1_ok hh)) k
theorem q_iinc_14 (hC : Ok K cc own nL d θ sx Fi Fl Fv) {n : Int} {x v : Int32} {a0 a1 a2 a3 a4 a5 a6 a7 a8 a9 a10 a11 a12 a13 : Option Value} {tl : LV} (dg : decode cc pc = .ok (.iinc 14 n, 3)) (hv : x + Int32.ofInt n = v) (k : K (pc + 3) (a0 :: a1 :: a2 :: a3 :: a4 :: a5 :: a6 :: a7 :: a8 :: a9 :: a10 :: a11 :: a12 :: a13 :: some (.int v) :: tl) st S) (hh : nl1 a13 = true := by rfl) : K pc (a0 :: a1 :: a2 :: a3 :: a4 :: a5 :: a6 :: a7 :: a8 :: a9 :: a10 :: a11 :: a12 :: a13 :: some (.int x) :: tl) st S :=
  q_iincg (i := 14) hC dg rfl hv (by simp) (nlg_i (i := 13) rfl (nl1_ok hh)) k
theorem q_istore_15 (hC : Ok K cc own nL d θ sx Fi Fl Fv) {x : Int32} {a0 a1 a2 a3 a4 a5 a6 a7 a8 a9 a10 a11 a12 a13 a14 o : Option Value} {tl : LV} (dg : decode cc pc = .ok (.istore 15, 2)) (k : K (pc + 2) (a0 :: a1 :: a2 :: a3 :: a4 :: a5 :: a6 :: a7 :: a8 :: a9 :: a10 :: a11 :: a12 :: a13 :: a14 :: some (.int x) :: tl) st S) (hh : nl1 a14 = true := by rfl) : K pc (a0 :: a1 :: a2 :: a3 :: a4 :: a5 :: a6 :: a7 :: a8 :: a9 :: a10 :: a11 :: a12 :: a13 :: a14 :: o :: tl) (.int x :: st) S :=
  q_istoreg (i := 15) hC dg (by simp) (nlg_i (i := 14) rfl (nl1_ok hh)) k
theorem q_astore_15 (hC : Ok K cc own nL d θ sx Fi Fl Fv) {x : Nat} {a0 a1 a2 a3 a4 a5 a6 a7 a8 a9 a10 a11 a12 a13 a14 o : Option Value} {tl : LV} (dg : decode cc pc = .ok (.astore 15, 2)) (k : K (pc + 2) (a0 :: a1 :: a2 :: a3 :: a4 :: a5 :: a6 :: a7 :: a8 :: a9 :: a10 :: a11 :: a12 :: a13 :: a14 :: some (.ref x) :: tl) st S) (hh : nl1 a14 = true := by rfl) : K pc (a0 :: a1 :: a2 :: a3 :: a4 :: a5 :: a6 :: a7 :: a8 :: a9 :: a10 :: a11 :: a12 :: a13 :: a14 :: o :: tl) (.ref x :: st) S :=
  q_astoreg (i := 15) hC dg (by simp) (nlg_i (i := 14) rfl (nl1_ok hh)) k
theorem q_lstore_15 (hC : Ok K cc own nL d θ sx Fi Fl Fv) {x : Int64} {a0 a1 a2 a3 a4 a5 a6 a7 a8 a9 a10 a11 a12 a13 a14 o o2 : Option Value} {tl : LV} (dg : decode cc pc = .ok (.lstore 15, 2)) (k : K (pc + 2) (a0 :: a1 :: a2 :: a3 :: a4 :: a5 :: a6 :: a7 :: a8 :: a9 :: a10 :: a11 :: a12 :: a13 :: a14 :: some (.long x) :: none :: tl) st S) (hh : nl1 a14 = true := by rfl) : K pc (a0 :: a1 :: a2 :: a3 :: a4 :: a5 :: a6 :: a7 :: a8 :: a9 :: a10 :: a11 :: a12 :: a13 :: a14 :: o :: o2 :: tl) (.long x :: st) S :=
  q_lstoreg (i := 15) hC dg (by simp) (nlg_i (i := 14) rfl (nl1_ok hh)) k
theorem q_iinc_15 (hC : Ok K cc own nL d θ sx Fi Fl Fv) {n : Int} {x v : Int32} {a0 a1 a2 a3 a4 a5 a6 a7 a8 a9 a10 a11 a12 a13 a14 : Option Value} {tl : LV} (dg : decode cc pc = .ok (.iinc 15 n, 3)) (hv : x + Int32.ofInt n = v) (k : K (pc + 3) (a0 :: a1 :: a2 :: a3 :: a4 :: a5 :: a6 :: a7 :: a8 :: a9 :: a10 :: a11 :: a12 :: a13 :: a14 :: some (.int v) :: tl) st S) (hh : nl1 a14 = true := by rfl) : K pc (a0 :: a1 :: a2 :: a3 :: a4 :: a5 :: a6 :: a7 :: a8 :: a9 :: a10 :: a11 :: a12 :: a13 :: a14 :: some (.int x) :: tl) st S :=
  q_iincg (i := 15) hC dg rfl hv (by simp) (nlg_i (i := 14) rfl (nl1_ok hh)) k
theorem q_istore_16 (hC : Ok K cc own nL d θ sx Fi Fl Fv) {x : Int32} {a0 a1 a2 a3 a4 a5 a6 a7 a8 a9 a10 a11 a12 a13 a14 a15 o : Option Value} {tl : LV} (dg : decode cc pc = .ok (.istore 16, 2)) (k : K (pc + 2) (a0 :: a1 :: a2 :: a3 :: a4 :: a5 :: a6 :: a7 :: a8 :: a9 :: a10 :: a11 :: a12 :: a13 :: a14 :: a15 :: some (.int x) :: tl) st S) (hh : nl1 a15 = true := by rfl) : K pc (a0 :: a1 :: a2 :: a3 :: a4 :: a5 :: a6 :: a7 :: a8 :: a9 :: a10 :: a11 :: a12 :: a13 :: a14 :: a15 :: o :: tl) (.int x :: st) S :=
  q_istoreg (i := 16) hC dg (by simp) (nlg_i (i := 15) rfl (nl1_ok hh)) k
theorem q_astore_16 (hC : Ok K cc own nL d θ sx Fi Fl Fv) {x : Nat} {a0 a1 a2 a3 a4 a5 a6 a7 a8 a9 a10 a11 a12 a13 a14 a15 o : Option Value} {tl : LV} (dg : decode cc pc = .ok (.astore 16, 2)) (k : K (pc + 2) (a0 :: a1 :: a2 :: a3 :: a4 :: a5 :: a6 :: a7 :: a8 :: a9 :: a10 :: a11 :: a12 :: a13 :: a14 :: a15 :: some (.ref x) :: tl) st S) (hh : nl1 a15 = true := by rfl) : K pc (a0 :: a1 :: a2 :: a3 :: a4 :: a5 :: a6 :: a7 :: a8 :: a9 :: a10 :: a11 :: a12 :: a13 :: a14 :: a15 :: o :: tl) (.ref x :: st) S :=
  q_astoreg (i := 16) hC dg (by simp) (nlg_i (i := 15) rfl (nl1_ok hh)) k
theorem q_lstore_16 (hC : Ok K cc own nL d θ sx Fi Fl Fv) {x : Int64} {a0 a1 a2 a3 a4 a5 a6 a7 a8 a9 a10 a11 a12 a13 a14 a15 o o2 : Option Value} {tl : LV} (dg : decode cc pc = .ok (.lstore 16, 2)) (k : K (pc + 2) (a0 :: a1 :: a2 :: a3 :: a4 :: a5 :: a6 :: a7 :: a8 :: a9 :: a10 :: a11 :: a12 :: a13 :: a14 :: a15 :: some (.long x) :: none :: tl) st S) (hh : nl1 a15 = true := by rfl) : K pc (a0 :: a1 :: a2 :: a3 :: a4 :: a5 :: a6 :: a7 :: a8 :: a9 :: a10 :: a11 :: a12 :: a13 :: a14 :: a15 :: o :: o2 :: tl) (.long x :: st) S :=
  q_lstoreg (i := 16) hC dg (by simp) (nlg_i (i := 15) rfl (nl1_ok hh)) k
theorem q_iinc_16 (hC : Ok K cc own nL d θ sx Fi Fl Fv) {n : Int} {x v : Int32} {a0 a1 a2 a3 a4 a5 a6 a7 a8 a9 a10 a11 a12 a13 a14 a15 : Option Value} {tl : LV} (dg : decode cc pc = .ok (.iinc 16 n, 3)) (hv : x + Int32.ofInt n = v) (k : K (pc + 3) (a0 :: a1 :: a2 :: a3 :: a4 :: a5 :: a6 :: a7 :: a8 :: a9 :: a10 :: a11 :: a12 :: a13 :: a14 :: a15 :: some (.int v) :: tl) st S) (hh : nl1 a15 = true := by rfl) : K pc (a0 :: a1 :: a2 :: a3 :: a4 :: a5 :: a6 :: a7 :: a8 :: a9 :: a10 :: a11 :: a12 :: a13 :: a14 :: a15 :: some (.int x) :: tl) st S :=
  q_iincg (i := 16) hC dg rfl hv (by simp) (nlg_i (i := 15) rfl (nl1_ok hh)) k
theorem q_istore_17 (hC : Ok K cc own nL d θ sx Fi Fl Fv) {x : Int32} {a0 a1 a2 a3 a4 a5 a6 a7 a8 a9 a10 a11 a12 a13 a14 a15 a16 o : Option Value} {tl : LV} (dg : decode cc pc = .ok (.istore 17, 2)) (k : K (pc + 2) (a0 :: a1 :: a2 :: a3 :: a4 :: a5 :: a6 :: a7 :: a8 :: a9 :: a10 :: a11 :: a12 :: a13 :: a14 :: a15 :: a16 :: some (.int x) :: tl) st S) (hh : nl1 a16 = true := by rfl) : K pc (a0 :: a1 :: a2 :: a3 :: a4 :: a5 :: a6 :: a7 :: a8 :: a9 :: a10 :: a11 :: a12 :: a13 :: a14 :: a15 :: a16 :: o :: tl) (.int x :: st) S :=
  q_istoreg (i := 17) hC dg (by simp) (nlg_i (i := 16) rfl (nl1_ok hh)) k
theorem q_astore_17 (hC : Ok K cc own nL d θ sx Fi Fl Fv) {x : Nat} {a0 a1 a2 a3 a4 a5 a6 a7 a8 a9 a10 a11 a12 a13 a14 a15 a16 o : Option Value} {tl : LV} (dg : decode cc pc = .ok (.astore 17, 2)) (k : K (pc + 2) (a0 :: a1 :: a2 :: a3 :: a4 :: a5 :: a6 :: a7 :: a8 :: a9 :: a10 :: a11 :: a12 :: a13 :: a14 :: a15 :: a16 :: some (.ref x) :: tl) st S) (hh : nl1 a16 = true := by rfl) : K pc (a0 :: a1 :: a2 :: a3 :: a4 :: a5 :: a6 :: a7 :: a8 :: a9 :: a10 :: a11 :: a12 :: a13 :: a14 :: a15 :: a16 :: o :: tl) (.ref x :: st) S :=
  q_astoreg (i := 17) hC dg (by simp) (nlg_i (i := 16) rfl (nl1_ok hh)) k
theorem q_lstore_17 (hC : Ok K cc own nL d θ sx Fi Fl Fv) {x : Int64} {a0 a1 a2 a3 a4 a5 a6 a7 a8 a9 a10 a11 a12 a13 a14 a15 a16 o o2 : Option Value} {tl : LV} (dg : decode cc pc = .ok (.lstore 17, 2)) (k : K (pc + 2) (a0 :: a1 :: a2 :: a3 :: a4 :: a5 :: a6 :: a7 :: a8 :: a9 :: a10 :: a11 :: a12 :: a13 :: a14 :: a15 :: a16 :: some (.long x) :: none :: tl) st S) (hh : nl1 a16 = true := by rfl) : K pc (a0 :: a1 :: a2 :: a3 :: a4 :: a5 :: a6 :: a7 :: a8 :: a9 :: a10 :: a11 :: a12 :: a13 :: a14 :: a15 :: a16 :: o :: o2 :: tl) (.long x :: st) S :=
  q_lstoreg (i := 17) hC dg (by simp) (nlg_i (i := 16) rfl (nl1_ok hh)) k
theorem q_iinc_17 (hC : Ok K cc own nL d θ sx Fi Fl Fv) {n : Int} {x v : Int32} {a0 a1 a2 a3 a4 a5 a6 a7 a8 a9 a10 a11 a12 a13 a14 a15 a16 : Option Value} {tl : LV} (dg : decode cc pc = .ok (.iinc 17 n, 3)) (hv : x + Int32.ofInt n = v) (k : K (pc + 3) (a0 :: a1 :: a2 :: a3 :: a4 :: a5 :: a6 :: a7 :: a8 :: a9 :: a10 :: a11 :: a12 :: a13 :: a14 :: a15 :: a16 :: some (.int v) :: tl) st S) (hh : nl1 a16 = true := by rfl) : K pc (a0 :: a1 :: a2 :: a3 :: a4 :: a5 :: a6 :: a7 :: a8 :: a9 :: a10 :: a11 :: a12 :: a13 :: a14 :: a15 :: a16 :: some (.int x) :: tl) st S :=
  q_iincg (i := 17) hC dg rfl hv (by simp) (nlg_i (i := 16) rfl (nl1_ok hh)) k
theorem q_istore_18 (hC : Ok K cc own nL d θ sx Fi Fl Fv) {x : Int32} {a0 a1 a2 a3 a4 a5 a6 a7 a8 a9 a10 a11 a12 a13 a14 a15 a16 a17 o : Option Value} {tl : LV} (dg : decode cc pc = .ok (.istore 18, 2)) (k : K (pc + 2) (a0 :: a1 :: a2 :: a3 :: a4 :: a5 :: a6 :: a7 :: a8 :: a9 :: a10 :: a11 :: a12 :: a13 :: a14 :: a15 :: a16 :: a17 :: some (.int x) :: tl) st S) (hh : nl1 a17 = true := by rfl) : K pc (a0 :: a1 :: a2 :: a3 :: a4 :: a5 :: a6 :: a7 :: a8 :: a9 :: a10 :: a11 :: a12 :: a13 :: a14 :: a15 :: a16 :: a17 :: o :: tl) (.int x :: st) S :=
  q_istoreg (i := 18) hC dg (by simp) (nlg_i (i := 17) rfl (nl1_ok hh)) k
theorem q_astore_18 (hC : Ok K cc own nL d θ sx Fi Fl Fv) {x : Nat} {a0 a1 a2 a3 a4 a5 a6 a7 a8 a9 a10 a11 a12 a13 a14 a15 a16 a17 o : Option Value} {tl : LV} (dg : decode cc pc = .ok (.astore 18, 2)) (k : K (pc + 2) (a0 :: a1 :: a2 :: a3 :: a4 :: a5 :: a6 :: a7 :: a8 :: a9 :: a10 :: a11 :: a12 :: a13 :: a14 :: a15 :: a16 :: a17 :: some (.ref x) :: tl) st S) (hh : nl1 a17 = true := by rfl) : K pc (a0 :: a1 :: a2 :: a3 :: a4 :: a5 :: a6 :: a7 :: a8 :: a9 :: a10 :: a11 :: a12 :: a13 :: a14 :: a15 :: a16 :: a17 :: o :: tl) (.ref x :: st) S :=
  q_astoreg (i := 18) hC dg (by simp) (nlg_i (i := 17) rfl (nl1_ok hh)) k
theorem q_lstore_18 (hC : Ok K cc own nL d θ sx Fi Fl Fv) {x : Int64} {a0 a1 a2 a3 a4 a5 a6 a7 a8 a9 a10 a11 a12 a13 a14 a15 a16 a17 o o2 : Option Value} {tl : LV} (dg : decode cc pc = .ok (.lstore 18, 2)) (k : K (pc + 2) (a0 :: a1 :: a2 :: a3 :: a4 :: a5 :: a6 :: a7 :: a8 :: a9 :: a10 :: a11 :: a12 :: a13 :: a14 :: a15 :: a16 :: a17 :: some (.long x) :: none :: tl) st S) (hh : nl1 a17 = true := by rfl) : K pc (a0 :: a1 :: a2 :: a3 :: a4 :: a5 :: a6 :: a7 :: a8 :: a9 :: a10 :: a11 :: a12 :: a13 :: a14 :: a15 :: a16 :: a17 :: o :: o2 :: tl) (.long x :: st) S :=
  q_lstoreg (i := 18) hC dg (by simp) (nlg_i (i := 17) rfl (nl1_ok hh)) k
theorem q_iinc_18 (hC : Ok K cc own nL d θ sx Fi Fl Fv) {n : Int} {x v : Int32} {a0 a1 a2 a3 a4 a5 a6 a7 a8 a9 a10 a11 a12 a13 a14 a15 a16 a17 : Option Value} {tl : LV} (dg : decode cc pc = .ok (.iinc 18 n, 3)) (hv : x + Int32.ofInt n = v) (k : K (pc + 3) (a0 :: a1 :: a2 :: a3 :: a4 :: a5 :: a6 :: a7 :: a8 :: a9 :: a10 :: a11 :: a12 :: a13 :: a14 :: a15 :: a16 :: a17 :: some (.int v) :: tl) st S) (hh : nl1 a17 = true := by rfl) : K pc (a0 :: a1 :: a2 :: a3 :: a4 :: a5 :: a6 :: a7 :: a8 :: a9 :: a10 :: a11 :: a12 :: a13 :: a14 :: a15 :: a16 :: a17 :: some (.int x) :: tl) st S :=
  q_iincg (i := 18) hC dg rfl hv (by simp) (nlg_i (i := 17) rfl (nl1_ok hh)) k
theorem q_istore_19 (hC : Ok K cc own nL d θ sx Fi Fl Fv) {x : Int32} {a0 a1 a2 a3 a4 a5 a6 a7 a8 a9 a10 a11 a12 a13 a14 a15 a16 a17 a18 o : Option Value} {tl : LV} (dg : decode cc pc = .ok (.istore 19, 2)) (k : K (pc + 2) (a0 :: a1 :: a2 :: a3 :: a4 :: a5 :: a6 :: a7 :: a8 :: a9 :: a10 :: a11 :: a12 :: a13 :: a14 :: a15 :: a16 :: a17 :: a18 :: some (.int x) :: tl) st S) (hh : nl1 a18 = true := by rfl) : K pc (a0 :: a1 :: a2 :: a3 :: a4 :: a5 :: a6 :: a7 :: a8 :: a9 :: a10 :: a11 :: a12 :: a13 :: a14 :: a15 :: a16 :: a17 :: a18 :: o :: tl) (.int x :: st) S :=
  q_istoreg (i := 19) hC dg (by simp) (nlg_i (i := 18) rfl (nl1_ok hh)) k
theorem q_astore_19 (hC : Ok K cc own nL d θ sx Fi Fl Fv) {x : Nat} {a0 a1 a2 a3 a4 a5 a6 a7 a8 a9 a10 a11 a12 a13 a14 a15 a16 a17 a18 o : Option Value} {tl : LV} (dg : decode cc pc = .ok (.astore 19, 2)) (k : K (pc + 2) (a0 :: a1 :: a2 :: a3 :: a4 :: a5 :: a6 :: a7 :: a8 :: a9 :: a10 :: a11 :: a12 :: a13 :: a14 :: a15 :: a16 :: a17 :: a18 :: some (.ref x) :: tl) st S) (hh : nl1 a18 = true := by rfl) : K pc (a0 :: a1 :: a2 :: a3 :: a4 :: a5 :: a6 :: a7 :: a8 :: a9 :: a10 :: a11 :: a12 :: a13 :: a14 :: a15 :: a16 :: a17 :: a18 :: o :: tl) (.ref x :: st) S :=
  q_astoreg (i := 19) hC dg (by simp) (nlg_i (i := 18) rfl (nl1_ok hh)) k
theorem q_lstore_19 (hC : Ok K cc own nL d θ sx Fi Fl Fv) {x : Int64} {a0 a1 a2 a3 a4 a5 a6 a7 a8 a9 a10 a11 a12 a13 a14 a15 a16 a17 a18 o o2 : Option Value} {tl : LV} (dg : decode cc pc = .ok (.lstore 19, 2)) (k : K (pc + 2) (a0 :: a1 :: a2 :: a3 :: a4 :: a5 :: a6 :: a7 :: a8 :: a9 :: a10 :: a11 :: a12 :: a13 :: a14 :: a15 :: a16 :: a17 :: a18 :: some (.long x) :: none :: tl) st S) (hh : nl1 a18 = true := by rfl) : K pc (a0 :: a1 :: a2 :: a3 :: a4 :: a5 :: a6 :: a7 :: a8 :: a9 :: a10 :: a11 :: a12 :: a13 :: a14 :: a15 :: a16 :: a17 :: a18 :: o :: o2 :: tl) (.long x :: st) S :=
  q_lstoreg (i := 19) hC dg (by simp) (nlg_i (i := 18) rfl (nl1_ok hh)) k
theorem q_iinc_19 (hC : Ok K cc own nL d θ sx Fi Fl Fv) {n : Int} {x v : Int32} {a0 a1 a2 a3 a4 a5 a6 a7 a8 a9 a10 a11 a12 a13 a14 a15 a16 a17 a18 : Option Value} {tl : LV} (dg : decode cc pc = .ok (.iinc 19 n, 3)) (hv : x + Int32.ofInt n = v) (k : K (pc + 3) (a0 :: a1 :: a2 :: a3 :: a4 :: a5 :: a6 :: a7 :: a8 :: a9 :: a10 :: a11 :: a12 :: a13 :: a14 :: a15 :: a16 :: a17 :: a18 :: some (.int v) :: tl) st S) (hh : nl1 a18 = true := by rfl) : K pc (a0 :: a1 :: a2 :: a3 :: a4 :: a5 :: a6 :: a7 :: a8 :: a9 :: a10 :: a11 :: a12 :: a13 :: a14 :: a15 :: a16 :: a17 :: a18 :: some (.int x) :: tl) st S :=
  q_iincg (i := 19) hC dg rfl hv (by simp) (nlg_i (i := 18) rfl (nl1_ok hh)) k
theorem q_istore_20 (hC : Ok K cc own nL d θ sx Fi Fl Fv) {x : Int32} {a0 a1 a2 a3 a4 a5 a6 a7 a8 a9 a10 a11 a12 a13 a14 a15 a16 a17 a18 a19 o : Option Value} {tl : LV} (dg : decode cc pc = .ok (.istore 20, 2)) (k : K (pc + 2) (a0 :: a1 :: a2 :: a3 :: a4 :: a5 :: a6 :: a7 :: a8 :: a9 :: a10 :: a11 :: a12 :: a13 :: a14 :: a15 :: a16 :: a17 :: a18 :: a19 :: some (.int x) :: tl) st S) (hh : nl1 a19 = true := by rfl) : K pc (a0 :: a1 :: a2 :: a3 :: a4 :: a5 :: a6 :: a7 :: a8 :: a9 :: a10 :: a11 :: a12 :: a13 :: a14 :: a15 :: a16 :: a17 :: a18 :: a19 :: o :: tl) (.int x :: st) S :=
  q_istoreg (i := 20) hC dg (by simp) (nlg_i (i := 19) rfl (nl1_ok hh)) k
theorem q_astore_20 (hC : Ok K cc own nL d θ sx Fi Fl Fv) {x : Nat} {a0 a1 a2 a3 a4 a5 a6 a7 a8 a9 a10 a11 a12 a13 a14 a15 a16 a17 a18 a19 o : Option Value} {tl : LV} (dg : decode cc pc = .ok (.astore 20, 2)) (k : K (pc + 2) (a0 :: a1 :: a2 :: a3 :: a4 :: a5 :: a6 :: a7 :: a8 :: a9 :: a10 :: a11 :: a12 :: a13 :: a14 :: a15 :: a16 :: a17 :: a18 :: a19 :: some (.ref x) :: tl) st S) (hh : nl1 a19 = true := by rfl) : K pc (a0 :: a1 :: a2 :: a3 :: a4 :: a5 :: a6 :: a7 :: a8 :: a9 :: a10 :: a11 :: a12 :: a13 :: a14 :: a15 :: a16 :: a17 :: a18 :: a19 :: o :: tl) (.ref x :: st) S :=
  q_astoreg (i := 20) hC dg (by simp) (nlg_i (i := 19) rfl (nl1_ok hh)) k
theorem q_lstore_20 (hC : Ok K cc own nL d θ sx Fi Fl Fv) {x : Int64} {a0 a1 a2 a3 a4 a5 a6 a7 a8 a9 a10 a11 a12 a13 a14 a15 a16 a17 a18 a19 o o2 : Option Value} {tl : LV} (dg : decode cc pc = .ok (.lstore 20, 2)) (k : K (pc + 2) (a0 :: a1 :: a2 :: a3 :: a4 :: a5 :: a6 :: a7 :: a8 :: a9 :: a10 :: a11 :: a12 :: a13 :: a14 :: a15 :: a16 :: a17 :: a18 :: a19 :: some (.long x) :: none :: tl) st S) (hh : nl1 a19 = true := by rfl) : K pc (a0 :: a1 :: a2 :: a3 :: a4 :: a5 :: a6 :: a7 :: a8 :: a9 :: a10 :: a11 :: a12 :: a13 :: a14 :: a15 :: a16 :: a17 :: a18 :: a19 :: o :: o2 :: tl) (.long x :: st) S :=
  q_lstoreg (i := 20) hC dg (by simp) (nlg_i (i := 19) rfl (nl1_ok hh)) k
theorem q_iinc_20 (hC : Ok K cc own nL d θ sx Fi Fl Fv) {n : Int} {x v : Int32} {a0 a1 a2 a3 a4 a5 a6 a7 a8 a9 a10 a11 a12 a13 a14 a15 a16 a17 a18 a19 : Option Value} {tl : LV} (dg : decode cc pc = .ok (.iinc 20 n, 3)) (hv : x + Int32.ofInt n = v) (k : K (pc + 3) (a0 :: a1 :: a2 :: a3 :: a4 :: a5 :: a6 :: a7 :: a8 :: a9 :: a10 :: a11 :: a12 :: a13 :: a14 :: a15 :: a16 :: a17 :: a18 :: a19 :: some (.int v) :: tl) st S) (hh : nl1 a19 = true := by rfl) : K pc (a0 :: a1 :: a2 :: a3 :: a4 :: a5 :: a6 :: a7 :: a8 :: a9 :: a10 :: a11 :: a12 :: a13 :: a14 :: a15 :: a16 :: a17 :: a18 :: a19 :: some (.int x) :: tl) st S :=
  q_iincg (i := 20) hC dg rfl hv (by simp) (nlg_i (i := 19) rfl (nl1_ok hh)) k
theorem q_istore_21 (hC : Ok K cc own nL d θ sx Fi Fl Fv) {x : Int32} {a0 a1 a2 a3 a4 a5 a6 a7 a8 a9 a10 a11 a12 a13 a14 a15 a16 a17 a18 a19 a20 o : Option Value} {tl : LV} (dg : decode cc pc = .ok (.istore 21, 2)) (k : K (pc + 2) (a0 :: a1 :: a2 :: a3 :: a4 :: a5 :: a6 :: a7 :: a8 :: a9 :: a10 :: a11 :: a12 :: a13 :: a14 :: a15 :: a16 :: a17 :: a18 :: a19 :: a20 :: some (.int x) :: tl) st S) (hh : nl1 a20 = true := by rfl) : K pc (a0 :: a1 :: a2 :: a3 :: a4 :: a5 :: a6 :: a7 :: a8 :: a9 :: a10 :: a11 :: a12 :: a13 :: a14 :: a15 :: a16 :: a17 :: a18 :: a19 :: a20 :: o :: tl) (.int x :: st) S :=
  q_istoreg (i := 21) hC dg (by simp) (nlg_i (i := 20) rfl (nl1_ok hh)) k
theorem q_astore_21 (hC : Ok K cc own nL d θ sx Fi Fl Fv) {x : Nat} {a0 a1 a2 a3 a4 a5 a6 a7 a8 a9 a10 a11 a12 a13 a14 a15 a16 a17 a18 a19 a20 o : Option Value} {tl : LV} (dg : decode cc pc = .ok (.astore 21, 2)) (k : K (pc + 2) (a0 :: a1 :: a2 :: a3 :: a4 :: a5 :: a6 :: a7 :: a8 :: a9 :: a10 :: a11 :: a12 :: a13 :: a14 :: a15 :: a16 :: a17 :: a18 :: a19 :: a20 :: some (.ref x) :: tl) st S) (hh : nl1 a20 = true := by rfl) : K pc (a0 :: a1 :: a2 :: a3 :: a4 :: a5 :: a6 :: a7 :: a8 :: a9 :: a10 :: a11 :: a12 :: a13 :: a14 :: a15 :: a16 :: a17 :: a18 :: a19 :: a20 :: o :: tl) (.ref x :: st) S :=
  q_astoreg (i := 21) hC dg (by simp) (nlg_i (i := 20) rfl (nl1_ok hh)) k
theorem q_lstore_21 (hC : Ok K cc own nL d θ sx Fi Fl Fv) {x : Int64} {a0 a1 a2 a3 a4 a5 a6 a7 a8 a9 a10 a11 a12 a13 a14 a15 a16 a17 a18 a19 a20 o o2 : Option Value} {tl : LV} (dg : decode cc pc = .ok (.lstore 21, 2)) (k : K (pc + 2) (a0 :: a1 :: a2 :: a3 :: a4 :: a5 :: a6 :: a7 :: a8 :: a9 :: a10 :: a11 :: a12 :: a13 :: a14 :: a15 :: a16 :: a17 :: a18 :: a19 :: a20 :: some (.long x) :: none :: tl) st S) (hh : nl1 a20 = true := by rfl) : K pc (a0 :: a1 :: a2 :: a3 :: a4 :: a5 :: a6 :: a7 :: a8 :: a9 :: a10 :: a11 :: a12 :: a13 :: a14 :: a15 :: a16 :: a17 :: a18 :: a19 :: a20 :: o :: o2 :: tl) (.long x :: st) S :=
  q_lstoreg (i := 21) hC dg (by simp) (nlg_i (i := 20) rfl (nl1_ok hh)) k
theorem q_iinc_21 (hC : Ok K cc own nL d θ sx Fi Fl Fv) {n : Int} {x v : Int32} {a0 a1 a2 a3 a4 a5 a6 a7 a8 a9 a10 a11 a12 a13 a14 a15 a16 a17 a18 a19 a20 : Option Value} {tl : LV} (dg : decode cc pc = .ok (.iinc 21 n, 3)) (hv : x + Int32.ofInt n = v) (k : K (pc + 3) (a0 :: a1 :: a2 :: a3 :: a4 :: a5 :: a6 :: a7 :: a8 :: a9 :: a10 :: a11 :: a12 :: a13 :: a14 :: a15 :: a16 :: a17 :: a18 :: a19 :: a20 :: some (.int v) :: tl) st S) (hh : nl1 a20 = true := by rfl) : K pc (a0 :: a1 :: a2 :: a3 :: a4 :: a5 :: a6 :: a7 :: a8 :: a9 :: a10 :: a11 :: a12 :: a13 :: a14 :: a15 :: a16 :: a17 :: a18 :: a19 :: a20 :: some (.int x) :: tl) st S :=
  q_iincg (i := 21) hC dg rfl hv (by simp) (nlg_i (i := 20) rfl (nl1_ok hh)) k
theorem q_if_eq (hC : Ok K cc own nL d θ sx Fi Fl Fv) {x : Int32} {off : Int} (tgt : Nat) (dg : decode cc pc = .ok (.ifCond .eq off, 3)) (ht : (pc : Int) + off = (tgt : Int)) (kt : x = 0 → K tgt lv st S) (kf : ¬ x = 0 → K (pc + 3) lv st S) : K pc lv (.int x :: st) S := by
  obtain ⟨p, l, e, s, m, args, below, meth, c, Q, hx, hb, hml, hown, hts, hK, hJ, hE, ri, rl, rv, rfl⟩ := hC
  intro H locs ls hn hl hP hS
  exact lv_if_eq hx hb dg ht (fun h => kt h H locs ls hn hl hP hS) (fun h => kf h H locs ls hn hl hP hS)
theorem q_if_ne (hC : Ok K cc own nL d θ sx Fi Fl Fv) {x : Int32} {off : Int} (tgt : Nat) (dg : decode cc pc = .ok (.ifCond .ne off, 3)) (ht : (pc : Int) + off = (tgt : Int)) (kt : ¬ x = 0 → K tgt lv st S) (kf : x = 0 → K (pc + 3) lv st S) : K pc lv (.int x :: st) S := by
  obtain ⟨p, l, e, s, m, args, below, meth, c, Q, hx, hb, hml, hown, hts, hK, hJ, hE, ri, rl, rv, rfl⟩ := hC
  intro H locs ls hn hl hP hS
  exact lv_if_ne hx hb dg ht (fun h => kt h H locs ls hn hl hP hS) (fun h => kf h H locs ls hn hl hP hS)
theorem q_if_lt (hC : Ok K cc own nL d θ sx Fi Fl Fv) {x : Int32} {off : Int} (tgt : Nat) (dg : decode cc pc = .ok (.ifCond .lt off, 3)) (ht : (pc : Int) + off = (tgt : Int)) (kt : x < 0 → K tgt lv st S) (kf : ¬ x < 0 → K (pc + 3) lv st S) : K pc lv (.int x :: st) S := by
  obtain ⟨p, l, e, s, m, args, below, meth, c, Q, hx, hb, hml, hown, hts, hK, hJ, hE, ri, rl, rv, rfl⟩ := hC
  intro H locs ls hn hl hP hS
  exact lv_if_lt hx hb dg ht (fun h => kt h H locs ls hn hl hP hS) (fun h => kf h H locs ls hn hl hP hS)
theorem q_if_ge (hC : Ok K cc own nL d θ sx Fi Fl Fv) {x : Int32} {off : Int} (tgt : Nat) (dg : decode cc pc = .ok (.ifCond .ge off, 3)) (ht : (pc : Int) + off = (tgt : Int)) (kt : 0 ≤ x → K tgt lv st S) (kf : ¬ 0 ≤ x → K (pc + 3) lv st S) : K pc lv (.int x :: st) S := by
  obtain ⟨p, l, e, s, m, args, below, meth, c, Q, hx, hb, hml, hown, hts, hK, hJ, hE, ri, rl, rv, rfl⟩ := hC
  intro H locs ls hn hl hP hS
  exact lv_if_ge hx hb dg ht (fun h => kt h H locs ls hn hl hP hS) (fun h => kf h H locs ls hn hl hP hS)
theorem q_if_gt (hC : Ok K cc own nL d θ sx Fi Fl Fv) {x : Int32} {off : Int} (tgt : Nat) (dg : decode cc pc = .ok (.ifCond .gt off, 3)) (ht : (pc : Int) + off = (tgt : Int)) (kt : 0 < x → K tgt lv st S) (kf : ¬ 0 < x → K (pc + 3) lv st S) : K pc lv (.int x :: st) S := by
  obtain ⟨p, l, e, s, m, args, below, meth, c, Q, hx, hb, hml, hown, hts, hK, hJ, hE, ri, rl, rv, rfl⟩ := hC
  intro H locs ls hn hl hP hS
  exact lv_if_gt hx hb dg ht (fun h => kt h H locs ls hn hl hP hS) (fun h => kf h H locs ls hn hl hP hS)
theorem q_if_le (hC : Ok K cc own nL d θ sx Fi Fl Fv) {x : Int32} {off : Int} (tgt : Nat) (dg : decode cc pc = .ok (.ifCond .le off, 3)) (ht : (pc : Int) + off = (tgt : Int)) (kt : x ≤ 0 → K tgt lv st S) (kf : ¬ x ≤ 0 → K (pc + 3) lv st S) : K pc lv (.int x :: st) S := by
  obtain ⟨p, l, e, s, m, args, below, meth, c, Q, hx, hb, hml, hown, hts, hK, hJ, hE, ri, rl, rv, rfl⟩ := hC
  intro H locs ls hn hl hP hS
  exact lv_if_le hx hb dg ht (fun h => kt h H locs ls hn hl hP hS) (fun h => kf h H locs ls hn hl hP hS)
theorem q_icmp_eq (hC : Ok K cc own nL d θ sx Fi Fl Fv) {x y : Int32} {off : Int} (tgt : Nat) (dg : decode cc pc = .ok (.if_icmp .eq off, 3)) (ht : (pc : Int) + off = (tgt : Int)) (kt : x = y → K tgt lv st S) (kf : ¬ x = y → K (pc + 3) lv st S) : K pc lv (.int y :: .int x :: st) S := by
  obtain ⟨p, l, e, s, m, args, below, meth, c, Q, hx, hb, hml, hown, hts, hK, hJ, hE, ri, rl, rv, rfl⟩ := hC
  intro H locs ls hn hl hP hS
  exact lv_icmp_eq hx hb dg ht (fun h => kt h H locs ls hn hl hP hS) (fun h => kf h H locs ls hn hl hP hS)
theorem q_icmp_ne (hC : Ok K cc own nL d θ sx Fi Fl Fv) {x y : Int32} {off : Int} (tgt : Nat) (dg : decode cc pc = .ok (.if_icmp .ne off, 3)) (ht : (pc : Int) + off = (tgt : Int)) (kt : ¬ x = y → K tgt lv st S) (kf : x = y → K (pc + 3) lv st S) : K pc lv (.int y :: .int x :: st) S := by
  obtain ⟨p, l, e, s, m, args, below, meth, c, Q, hx, hb, hml, hown, hts, hK, hJ, hE, ri, rl, rv, rfl⟩ := hC
  intro H locs ls hn hl hP hS
  exact lv_icmp_ne hx hb dg ht (fun h => kt h H locs ls hn hl hP hS) (fun h => kf h H locs ls hn hl hP hS)
theorem q_icmp_lt (hC : Ok K cc own nL d θ sx Fi Fl Fv) {x y : Int32} {off : Int} (tgt : Nat) (dg : decode cc pc = .ok (.if_icmp .lt off, 3)) (ht : (pc : Int) + off = (tgt : Int)) (kt : x < y → K tgt lv st S) (kf : ¬ x < y → K (pc + 3) lv st S) : K pc lv (.int y :: .int x :: st) S := by
  obtain ⟨p, l, e, s, m, args, below, meth, c, Q, hx, hb, hml, hown, hts, hK, hJ, hE, ri, rl, rv, rfl⟩ := hC
  intro H locs ls hn hl hP hS
  exact lv_icmp_lt hx hb dg ht (fun h => kt h H locs ls hn hl hP hS) (fun h => kf h H locs ls hn hl hP hS)
theorem q_icmp_ge (hC : Ok K cc own nL d θ sx Fi Fl Fv) {x y : Int32} {off : Int} (tgt : Nat) (dg : decode cc pc = .ok (.if_icmp .ge off, 3)) (ht : (pc : Int) + off = (tgt : Int)) (kt : y ≤ x → K tgt lv st S) (kf : ¬ y ≤ x → K (pc + 3) lv st S) : K pc lv (.int y :: .int x :: st) S := by
  obtain ⟨p, l, e, s, m, args, below, meth, c, Q, hx, hb, hml, hown, hts, hK, hJ, hE, ri, rl, rv, rfl⟩ := hC
  intro H locs ls hn hl hP hS
  exact lv_icmp_ge hx hb dg ht (fun h => kt h H locs ls hn hl hP hS) (fun h => kf h H locs ls hn hl hP hS)
theorem q_icmp_gt (hC : Ok K cc own nL d θ sx Fi Fl Fv) {x y : Int32} {off : Int} (tgt : Nat) (dg : decode cc pc = .ok (.if_icmp .gt off, 3)) (ht : (pc : Int) + off = (tgt : Int)) (kt : y < x → K tgt lv st S) (kf : ¬ y < x → K (pc + 3) lv st S) : K pc lv (.int y :: .int x :: st) S := by
  obtain ⟨p, l, e, s, m, args, below, meth, c, Q, hx, hb, hml, hown, hts, hK, hJ, hE, ri, rl, rv, rfl⟩ := hC
  intro H locs ls hn hl hP hS
  exact lv_icmp_gt hx hb dg ht (fun h => kt h H locs ls hn hl hP hS) (fun h => kf h H locs ls hn hl hP hS)
theorem q_icmp_le (hC : Ok K cc own nL d θ sx Fi Fl Fv) {x y : Int32} {off : Int} (tgt : Nat) (dg : decode cc pc = .ok (.if_icmp .le off, 3)) (ht : (pc : Int) + off = (tgt : Int)) (kt : x ≤ y → K tgt lv st S) (kf : ¬ x ≤ y → K (pc + 3) lv st S) : K pc lv (.int y :: .int x :: st) S := by
  obtain ⟨p, l, e, s, m, args, below, meth, c, Q, hx, hb, hml, hown, hts, hK, hJ, hE, ri, rl, rv, rfl⟩ := hC
  intro H locs ls hn hl hP hS
  exact lv_icmp_le hx hb dg ht (fun h => kt h H locs ls hn hl hP hS) (fun h => kf h H locs ls hn hl hP hS)
theorem q_goto (hC : Ok K cc own nL d θ sx Fi Fl Fv) {off : Int} (tgt : Nat) (dg : decode cc pc = .ok (.goto off, 3)) (ht : (pc : Int) + off = (tgt : Int)) (k : K tgt lv st S) : K pc lv st S := by
  obtain ⟨p, l, e, s, m, args, below, meth, c, Q, hx, hb, hml, hown, hts, hK, hJ, hE, ri, rl, rv, rfl⟩ := hC
  intro H locs ls hn hl hP hS
  exact lv_goto hx hb dg ht (k H locs ls hn hl hP hS)
theorem q_tabIn (hC : Ok K cc own nL d θ sx Fi Fl Fv) {dflt lo hi : Int} {offs : Array Int} {len : Nat} {x : Int32} {off : Int} (tgt : Nat) (dg : decode cc pc = .ok (.tableswitch dflt lo hi offs, len)) (h1 : ¬ x.toInt < lo) (h2 : ¬ hi < x.toInt) (ho : offs[(x.toInt - lo).toNat]? = some off) (ht : (pc : Int) + off = (tgt : Int)) (k : K tgt lv st S) : K pc lv (.int x :: st) S := by
  obtain ⟨p, l, e, s, m, args, below, meth, c, Q, hx, hb, hml, hown, hts, hK, hJ, hE, ri, rl, rv, rfl⟩ := hC
  intro H locs ls hn hl hP hS
  exact lv_tableIn hx hb dg h1 h2 ho ht (k H locs ls hn hl hP hS)
theorem q_tabOut (hC : Ok K cc own nL d θ sx Fi Fl Fv) {dflt lo hi : Int} {offs : Array Int} {len : Nat} {x : Int32} (tgt : Nat) (dg : decode cc pc = .ok (.tableswitch dflt lo hi offs, len)) (h : x.toInt < lo ∨ hi < x.toInt) (ht : (pc : Int) + dflt = (tgt : Int)) (k : K tgt lv st S) : K pc lv (.int x :: st) S := by
  obtain ⟨p, l, e, s, m, args, below, meth, c, Q, hx, hb, hml, hown, hts, hK, hJ, hE, ri, rl, rv, rfl⟩ := hC
  intro H locs ls hn hl hP hS
  exact lv_tableOut hx hb dg h ht (k H locs ls hn hl hP hS)
theorem q_lcmp (hC : Ok K cc own nL d θ sx Fi Fl Fv) {x y : Int64} (dg : decode cc pc = .ok (.lcmp, 1)) (k : K (pc + 1) lv (.int (lg_cmp x y) :: st) S) : K pc lv (.long y :: .long x :: st) S := by
  obtain ⟨p, l, e, s, m, args, below, meth, c, Q, hx, hb, hml, hown, hts, hK, hJ, hE, ri, rl, rv, rfl⟩ := hC
  intro H locs ls hn hl hP hS
  exact W.lcmp hx hb dg (k H locs ls hn hl hP hS)
theorem q_iret (hC : Ok K cc own nL d θ sx Fi Fl Fv) {v : Int32} (dg : decode cc pc = .ok (.ireturn, 1)) (h : Fi v S) : K pc lv [.int v] S := by
  obtain ⟨p, l, e, s, m, args, below, meth, c, Q, hx, hb, hml, hown, hts, hK, hJ, hE, ri, rl, rv, rfl⟩ := hC
  intro H locs ls hn hl hP hS
  exact ri pc ls v S H locs dg h hP hS
theorem q_lret (hC : Ok K cc own nL d θ sx Fi Fl Fv) {v : Int64} (dg : decode cc pc = .ok (.lreturn, 1)) (h : Fl v S) : K pc lv [.long v] S := by
  obtain ⟨p, l, e, s, m, args, below, meth, c, Q, hx, hb, hml, hown, hts, hK, hJ, hE, ri, rl, rv, rfl⟩ := hC
  intro H locs ls hn hl hP hS
  exact rl pc ls v S H locs dg h hP hS
theorem q_vret (hC : Ok K cc own nL d θ sx Fi Fl Fv) (dg : decode cc pc = .ok (.return_, 1)) (h : Fv S) : K pc lv [] S := by
  obtain ⟨p, l, e, s, m, args, below, meth, c, Q, hx, hb, hml, hown, hts, hK, hJ, hE, ri, rl, rv, rfl⟩ := hC
  intro H locs ls hn hl hP hS
  exact rv pc ls S H locs dg h hP hS
theorem q_ldc (hC : Ok K cc own nL d θ sx Fi Fl Fv) {index : Nat} {v : Int32} (hc : Cond.constant own index v ∈ lwT) (dg : decode cc pc = .ok (.ldc index, 2)) (k : K (pc + 2) lv (.int v :: st) S) : K pc lv st S := by
  obtain ⟨p, l, e, s, m, args, below, meth, c, Q, hx, hb, hml, hown, hts, hK, hJ, hE, ri, rl, rv, rfl⟩ := hC
  intro H locs ls hn hl hP hS
  exact lv_ldc hx hb hown (hts _ hc) dg (k H locs ls hn hl hP hS)
theorem q_ldcw (hC : Ok K cc own nL d θ sx Fi Fl Fv) {index : Nat} {v : Int32} (hc : Cond.constant own index v ∈ lwT) (dg : decode cc pc = .ok (.ldc_w index, 3)) (k : K (pc + 3) lv (.int v :: st) S) : K pc lv st S := by
  obtain ⟨p, l, e, s, m, args, below, meth, c, Q, hx, hb, hml, hown, hts, hK, hJ, hE, ri, rl, rv, rfl⟩ := hC
  intro H locs ls hn hl hP hS
  exact lv_ldcw hx hb hown (hts _ hc) dg (k H locs ls hn hl hP hS)
theorem q_ldc2 (hC : Ok K cc own nL d θ sx Fi Fl Fv) {index : Nat} {v : Int64} (hc : Cond.constantLong own index v ∈ lwT) (dg : decode cc pc = .ok (.ldc2_w index, 3)) (k : K (pc + 3) lv (.long v :: st) S) : K pc lv st S := by
  obtain ⟨p, l, e, s, m, args, below, meth, c, Q, hx, hb, hml, hown, hts, hK, hJ, hE, ri, rl, rv, rfl⟩ := hC
  intro H locs ls hn hl hP hS
  exact lv_ldc2 hx hb hown (hts _ hc) dg (k H locs ls hn hl hP hS)
theorem q_getI (hC : Ok K cc own nL d θ sx Fi Fl Fv) {q ci j idx : Nat} {ks : List (Option (Option Nat))} (hs : sx[q]? = some (.inr (.inl (ci, ks)))) (fl : FL own idx ci j) (dg : decode cc pc = .ok (.getfield idx, 3)) (k : K (pc + 3) lv (.int (S.1 q j) :: st) S) (hj : ks[j]? = some (none) := by rfl) : K pc lv (.ref (sA θ q) :: st) S := by
  obtain ⟨p, l, e, s, m, args, below, meth, c, Q, hx, hb, hml, hown, hts, hK, hJ, hE, ri, rl, rv, rfl⟩ := hC
  intro H locs ls hn hl hP hS
  obtain ⟨C, T, N, f1, f2, f3, f4⟩ := fl
  refine va_get (D := sD θ) (cl := vwCl) (ws := GW θ sx S) (tys := tyC θ) (C := C) (T := T) (N := N) hx hb hts (clW f1) hown hK hP q (GW_get hs) f1 j f2 (hts _ f3) (fun x h => by rw [f4] at h; exact h) (v := .int (S.1 q j)) ?_ dg (k H locs ls hn hl hP hS)
  rw [List.getElem?_mapIdx, hj]; rfl
theorem q_getL (hC : Ok K cc own nL d θ sx Fi Fl Fv) {q ci j idx : Nat} {ks : List (Option (Option Nat))} (hs : sx[q]? = some (.inr (.inl (ci, ks)))) (fl : FL own idx ci j) (dg : decode cc pc = .ok (.getfield idx, 3)) (k : K (pc + 3) lv (.long (S.2 q j) :: st) S) (hj : ks[j]? = some (some none) := by rfl) : K pc lv (.ref (sA θ q) :: st) S := by
  obtain ⟨p, l, e, s, m, args, below, meth, c, Q, hx, hb, hml, hown, hts, hK, hJ, hE, ri, rl, rv, rfl⟩ := hC
  intro H locs ls hn hl hP hS
  obtain ⟨C, T, N, f1, f2, f3, f4⟩ := fl
  refine va_get (D := sD θ) (cl := vwCl) (ws := GW θ sx S) (tys := tyC θ) (C := C) (T := T) (N := N) hx hb hts (clW f1) hown hK hP q (GW_get hs) f1 j f2 (hts _ f3) (fun x h => by rw [f4] at h; exact h) (v := .long (S.2 q j)) ?_ dg (k H locs ls hn hl hP hS)
  rw [List.getElem?_mapIdx, hj]; rfl
theorem q_getR (hC : Ok K cc own nL d θ sx Fi Fl Fv) {q ci j idx : Nat} {ks : List (Option (Option Nat))} {r : Nat} (hs : sx[q]? = some (.inr (.inl (ci, ks)))) (fl : FL own idx ci j) (dg : decode cc pc = .ok (.getfield idx, 3)) (k : K (pc + 3) lv (.ref (sA θ r) :: st) S) (hj : ks[j]? = some (some (some r)) := by rfl) : K pc lv (.ref (sA θ q) :: st) S := by
  obtain ⟨p, l, e, s, m, args, below, meth, c, Q, hx, hb, hml, hown, hts, hK, hJ, hE, ri, rl, rv, rfl⟩ := hC
  intro H locs ls hn hl hP hS
  obtain ⟨C, T, N, f1, f2, f3, f4⟩ := fl
  refine va_get (D := sD θ) (cl := vwCl) (ws := GW θ sx S) (tys := tyC θ) (C := C) (T := T) (N := N) hx hb hts (clW f1) hown hK hP q (GW_get hs) f1 j f2 (hts _ f3) (fun x h => by rw [f4] at h; exact h) (v := .ref (sA θ r)) ?_ dg (k H locs ls hn hl hP hS)
  rw [List.getElem?_mapIdx, hj]; rfl
theorem q_putI (hC : Ok K cc own nL d θ sx Fi Fl Fv) {q ci j idx : Nat} {ks : List (Option (Option Nat))} {v : Int32} (hs : sx[q]? = some (.inr (.inl (ci, ks)))) (fl : FP own idx ci j .int) (dg : decode cc pc = .ok (.putfield idx, 3)) (k : K (pc + 3) lv st (up S q j v)) (hj : ks[j]? = some (none) := by rfl) : K pc lv (.int v :: .ref (sA θ q) :: st) S := by
  obtain ⟨p, l, e, s, m, args, below, meth, c, Q, hx, hb, hml, hown, hts, hK, hJ, hE, ri, rl, rv, rfl⟩ := hC
  intro H locs ls hn hl hP hS
  obtain ⟨⟨C, T, N, f1, f2, f3, f4⟩, f5⟩ := fl
  obtain ⟨f6, f7⟩ := f5 C T N f1
  obtain ⟨ty0, g1, g2⟩ := clT f1
  refine va_put (D := sD θ) (cl := vwCl) (ws := GW θ sx S) (tys := tyC θ) (A := AA θ sx s.heap.size) (C := C) (T := T) (N := N) hx hb hts (clW f1) ty0 g1 g2 hown hK hP (GW_D hJ) hS q (GW_get hs) f1 j f2 (hts _ f3) (fun x h => by rw [f4] at h; exact h) f6 (ty := .int) (v := .int v) f7 rfl rfl (by rw [List.length_mapIdx]; exact (List.getElem?_eq_some_iff.mp hj).1) dg (fun H1 locs1 hP1 hD1 hS1 => ?_)
  rw [GW_up hs hj] at hP1
  exact k H1 locs1 ls hn hl hP1 hS1
theorem q_putL (hC : Ok K cc own nL d θ sx Fi Fl Fv) {q ci j idx : Nat} {ks : List (Option (Option Nat))} {v : Int64} (hs : sx[q]? = some (.inr (.inl (ci, ks)))) (fl : FP own idx ci j .long) (dg : decode cc pc = .ok (.putfield idx, 3)) (k : K (pc + 3) lv st (upL S q j v)) (hj : ks[j]? = some (some none) := by rfl) : K pc lv (.long v :: .ref (sA θ q) :: st) S := by
  obtain ⟨p, l, e, s, m, args, below, meth, c, Q, hx, hb, hml, hown, hts, hK, hJ, hE, ri, rl, rv, rfl⟩ := hC
  intro H locs ls hn hl hP hS
  obtain ⟨⟨C, T, N, f1, f2, f3, f4⟩, f5⟩ := fl
  obtain ⟨f6, f7⟩ := f5 C T N f1
  obtain ⟨ty0, g1, g2⟩ := clT f1
  refine va_put (D := sD θ) (cl := vwCl) (ws := GW θ sx S) (tys := tyC θ) (A := AA θ sx s.heap.size) (C := C) (T := T) (N := N) hx hb hts (clW f1) ty0 g1 g2 hown hK hP (GW_D hJ) hS q (GW_get hs) f1 j f2 (hts _ f3) (fun x h => by rw [f4] at h; exact h) f6 (ty := .long) (v := .long v) f7 rfl rfl (by rw [List.length_mapIdx]; exact (List.getElem?_eq_some_iff.mp hj).1) dg (fun H1 locs1 hP1 hD1 hS1 => ?_)
  rw [GW_upL hs hj] at hP1
  exact k H1 locs1 ls hn hl hP1 hS1
theorem q_iald (hC : Ok K cc own nL d θ sx Fi Fl Fv) {q n : Nat} {i : Int32} (hs : sx[q]? = some (.inl (0, n))) (hi : vp_in i n) (dg : decode cc pc = .ok (.iaload, 1)) (k : K (pc + 1) lv (.int (S.1 q i.toNatClampNeg) :: st) S) : K pc lv (.int i :: .ref (sA θ q) :: st) S := by
  obtain ⟨p, l, e, s, m, args, below, meth, c, Q, hx, hb, hml, hown, hts, hK, hJ, hE, ri, rl, rv, rfl⟩ := hC
  intro H locs ls hn hl hP hS
  exact va_iald (D := sD θ) (cl := vwCl) (ws := GW θ sx S) (tys := tyC θ) hx hb hK hP q 0 (GW_get hs) rfl hi dg (k H locs ls hn hl hP hS)
theorem q_bald (hC : Ok K cc own nL d θ sx Fi Fl Fv) {q n : Nat} {i : Int32} (hs : sx[q]? = some (.inl (1, n))) (hi : vp_in i n) (dg : decode cc pc = .ok (.baload, 1)) (k : K (pc + 1) lv (.int (S.1 q i.toNatClampNeg) :: st) S) : K pc lv (.int i :: .ref (sA θ q) :: st) S := by
  obtain ⟨p, l, e, s, m, args, below, meth, c, Q, hx, hb, hml, hown, hts, hK, hJ, hE, ri, rl, rv, rfl⟩ := hC
  intro H locs ls hn hl hP hS
  exact va_bald (D := sD θ) (cl := vwCl) (ws := GW θ sx S) (tys := tyC θ) hx hb hK hP q 1 (GW_get hs) rfl hi dg (k H locs ls hn hl hP hS)
theorem q_zald (hC : Ok K cc own nL d θ sx Fi Fl Fv) {q n : Nat} {i : Int32} (hs : sx[q]? = some (.inl (2, n))) (hi : vp_in i n) (dg : decode cc pc = .ok (.baload, 1)) (k : K (pc + 1) lv (.int (S.1 q i.toNatClampNeg) :: st) S) : K pc lv (.int i :: .ref (sA θ q) :: st) S := by
  obtain ⟨p, l, e, s, m, args, below, meth, c, Q, hx, hb, hml, hown, hts, hK, hJ, hE, ri, rl, rv, rfl⟩ := hC
  intro H locs ls hn hl hP hS
  exact va_zald (D := sD θ) (cl := vwCl) (ws := GW θ sx S) (tys := tyC θ) hx hb hK hP q 2 (GW_get hs) rfl hi dg (k H locs ls hn hl hP hS)
theorem q_iast (hC : Ok K cc own nL d θ sx Fi Fl Fv) {q n : Nat} {i v : Int32} (hs : sx[q]? = some (.inl (0, n))) (hi : vp_in i n) (dg : decode cc pc = .ok (.iastore, 1)) (k : K (pc + 1) lv st (up S q i.toNatClampNeg v)) : K pc lv (.int v :: .int i :: .ref (sA θ q) :: st) S := by
  obtain ⟨p, l, e, s, m, args, below, meth, c, Q, hx, hb, hml, hown, hts, hK, hJ, hE, ri, rl, rv, rfl⟩ := hC
  intro H locs ls hn hl hP hS
  refine va_iast (D := sD θ) (cl := vwCl) (ws := GW θ sx S) (tys := tyC θ) (A := AA θ sx s.heap.size) hx hb hK hP (GW_D hJ) hS q 0 (GW_get hs) rfl hi dg (fun H1 locs1 hP1 hD1 hS1 => ?_)
  rw [GW_upA hs, upA_upd] at hP1
  exact k H1 locs1 ls hn hl hP1 hS1
theorem q_bast (hC : Ok K cc own nL d θ sx Fi Fl Fv) {q n : Nat} {i v : Int32} (hs : sx[q]? = some (.inl (1, n))) (hi : vp_in i n) (dg : decode cc pc = .ok (.bastore, 1)) (k : K (pc + 1) lv st (up S q i.toNatClampNeg (vp_nar .byte v))) : K pc lv (.int v :: .int i :: .ref (sA θ q) :: st) S := by
  obtain ⟨p, l, e, s, m, args, below, meth, c, Q, hx, hb, hml, hown, hts, hK, hJ, hE, ri, rl, rv, rfl⟩ := hC
  intro H locs ls hn hl hP hS
  refine va_bast (D := sD θ) (cl := vwCl) (ws := GW θ sx S) (tys := tyC θ) (A := AA θ sx s.heap.size) hx hb hK hP (GW_D hJ) hS q 1 (GW_get hs) rfl hi dg (fun H1 locs1 hP1 hD1 hS1 => ?_)
  rw [GW_upA hs, upA_upd] at hP1
  exact k H1 locs1 ls hn hl hP1 hS1
theorem q_zast (hC : Ok K cc own nL d θ sx Fi Fl Fv) {q n : Nat} {i v : Int32} (hs : sx[q]? = some (.inl (2, n))) (hi : vp_in i n) (dg : decode cc pc = .ok (.bastore, 1)) (k : K (pc + 1) lv st (up S q i.toNatClampNeg (vp_nar .boolean v))) : K pc lv (.int v :: .int i :: .ref (sA θ q) :: st) S := by
  obtain ⟨p, l, e, s, m, args, below, meth, c, Q, hx, hb, hml, hown, hts, hK, hJ, hE, ri, rl, rv, rfl⟩ := hC
  intro H locs ls hn hl hP hS
  refine va_zast (D := sD θ) (cl := vwCl) (ws := GW θ sx S) (tys := tyC θ) (A := AA θ sx s.heap.size) hx hb hK hP (GW_D hJ) hS q 2 (GW_get hs) rfl hi dg (fun H1 locs1 hP1 hD1 hS1 => ?_)
  rw [GW_upA hs, upA_upd] at hP1
  exact k H1 locs1 ls hn hl hP1 hS1
theorem q_alen (hC : Ok K cc own nL d θ sx Fi Fl Fv) {q t n : Nat} {v : Int32} (hs : sx[q]? = some (.inl (t, n))) (ht : t < 3) (hv : nI n = v) (dg : decode cc pc = .ok (.arraylength, 1)) (k : K (pc + 1) lv (.int v :: st) S) : K pc lv (.ref (sA θ q) :: st) S := by
  obtain ⟨p, l, e, s, m, args, below, meth, c, Q, hx, hb, hml, hown, hts, hK, hJ, hE, ri, rl, rv, rfl⟩ := hC
  intro H locs ls hn hl hP hS
  rcases (show t = 0 ∨ t = 1 ∨ t = 2 by omega) with rfl | rfl | rfl
  · exact va_alen (D := sD θ) (cl := vwCl) (ws := GW θ sx S) (tys := tyC θ) hx hb hK hP q 0 (GW_get hs) (ty := .int) rfl hv dg (k H locs ls hn hl hP hS)
  · exact va_alen (D := sD θ) (cl := vwCl) (ws := GW θ sx S) (tys := tyC θ) hx hb hK hP q 1 (GW_get hs) (ty := .byte) rfl hv dg (k H locs ls hn hl hP hS)
  · exact va_alen (D := sD θ) (cl := vwCl) (ws := GW θ sx S) (tys := tyC θ) hx hb hK hP q 2 (GW_get hs) (ty := .boolean) rfl hv dg (k H locs ls hn hl hP hS)
theorem q_aald (hC : Ok K cc own nL d θ sx Fi Fl Fv) {q r : Nat} {rs : List Nat} {i : Int32} (hs : sx[q]? = some (.inr (.inr rs))) (hi : vp_in i rs.length) (hr : rs[i.toNatClampNeg]? = some r) (dg : decode cc pc = .ok (.aaload, 1)) (k : K (pc + 1) lv (.ref (sA θ r) :: st) S) : K pc lv (.int i :: .ref (sA θ q) :: st) S := by
  obtain ⟨p, l, e, s, m, args, below, meth, c, Q, hx, hb, hml, hown, hts, hK, hJ, hE, ri, rl, rv, rfl⟩ := hC
  intro H locs ls hn hl hP hS
  refine va_aldq (D := sD θ) (cl := vwCl) (ws := GW θ sx S) (tys := tyC θ) hx hb hK hP q 3 (GW_get hs) (C := "PavedBan$Now") rfl hi dg ?_
  have h9 : (rs[i.toNatClampNeg]?).map (sA θ) = some (sA θ r) := by rw [hr]; rfl
  show W _ _ _ _ _ _ _ _ _ _ _ _ _ _ _ (F0 m (pc + 1) ls (va_rf ((rs[i.toNatClampNeg]?).map (sA θ)) :: st))
  rw [h9]
  exact k H locs ls hn hl hP hS
theorem q_copy (hC : Ok K cc own nL d θ sx Fi Fl Fv) {q r n0 n1 idx : Nat} {sp dp n : Int32} (hq : sx[q]? = some (.inl (0, n0))) (hr : sx[r]? = some (.inl (0, n1))) (hln : Cond.methodLink own idx arraycopyName ∈ lwT) (hd : 1 ≤ d) (h1 : ¬ sp < 0) (h2 : ¬ dp < 0) (h3 : ¬ n < 0) (h4 : sp.toNatClampNeg + n.toNatClampNeg ≤ n0) (h5 : dp.toNatClampNeg + n.toNatClampNeg ≤ n1) (dg : decode cc pc = .ok (.invokestatic idx, 3)) (k : K (pc + 3) lv st (upA S r (va_cpy (S.1 q) (S.1 r) sp.toNatClampNeg dp.toNatClampNeg n.toNatClampNeg))) (hst : (st.map fun v => v.category).sum ≤ 8 := by (first | exact Nat.le_of_ble_eq_true rfl | decide)) : K pc lv (.int n :: .int dp :: .ref (sA θ r) :: .int sp :: .ref (sA θ q) :: st) S := by
  obtain ⟨p, l, e, s, m, args, below, meth, c, Q, hx, hb, hml, hown, hts, hK, hJ, hE, ri, rl, rv, rfl⟩ := hC
  intro H locs ls hn hl hP hS
  refine va_copyi (D := sD θ) (cl := vwCl) (ws := GW θ sx S) (tys := tyC θ) (A := AA θ sx s.heap.size) hx hb (hml.trans hl.1.symm) hown (hts _ hln) (hts _ acN) (hts _ acS) (hts _ acI) hK hP (GW_D hJ) hS q r 0 0 (GW_get hq) (GW_get hr) (ty := .int) rfl rfl rfl h1 h2 h3 h4 h5 (fun _ _ => rfl) hd (by show _ ≤ 80 * d; have := acW; omega) dg (fun H1 locs1 hP1 hD1 hS1 => ?_)
  rw [GW_upA hr] at hP1
  exact k H1 locs1 ls hn hl hP1 hS1
theorem q_max (hC : Ok K cc own nL d θ sx Fi Fl Fv) {idx : Nat} {x y : Int32} (hln : Cond.methodLink own idx Lib.Math.max.name ∈ lwT) (hd : 1 ≤ d) (dg : decode cc pc = .ok (.invokestatic idx, 3)) (k : K (pc + 3) lv (.int (if x < y then y else x) :: st) S) (hst : (st.map fun v => v.category).sum ≤ 8 := by (first | exact Nat.le_of_ble_eq_true rfl | decide)) : K pc lv (.int y :: .int x :: st) S := by
  obtain ⟨p, l, e, s, m, args, below, meth, c, Q, hx, hb, hml, hown, hts, hK, hJ, hE, ri, rl, rv, rfl⟩ := hC
  intro H locs ls hn hl hP hS
  exact va_mmax hx hb (hml.trans hl.1.symm) hown (hts _ hln) (hts _ mmaxS) (hts _ mI) (hts _ mmaxC) hd (by show _ ≤ 80 * d; omega) (Nat.zero_le _) (Nat.zero_le _) dg (k H locs ls hn hl hP hS)
theorem q_min (hC : Ok K cc own nL d θ sx Fi Fl Fv) {idx : Nat} {x y : Int32} (hln : Cond.methodLink own idx Lib.Math.min.name ∈ lwT) (hd : 1 ≤ d) (dg : decode cc pc = .ok (.invokestatic idx, 3)) (k : K (pc + 3) lv (.int (if y < x then y else x) :: st) S) (hst : (st.map fun v => v.category).sum ≤ 8 := by (first | exact Nat.le_of_ble_eq_true rfl | decide)) : K pc lv (.int y :: .int x :: st) S := by
  obtain ⟨p, l, e, s, m, args, below, meth, c, Q, hx, hb, hml, hown, hts, hK, hJ, hE, ri, rl, rv, rfl⟩ := hC
  intro H locs ls hn hl hP hS
  exact va_mmin hx hb (hml.trans hl.1.symm) hown (hts _ hln) (hts _ mminS) (hts _ mI) (hts _ mminC) hd (by show _ ≤ 80 * d; omega) (Nat.zero_le _) (Nat.zero_le _) dg (k H locs ls hn hl hP hS)
theorem q_calliV0 (hC : Ok K cc own nL d θ sx Fi Fl Fv) {q ci idx ml d2 : Nat} {ks : List (Option (Option Nat))} {y : MethodName} {bs : ByteArray} {rt : Option FieldType} {P : Int32 → St → Prop} (hs : sx[q]? = some (.inr (.inl (ci, ks)))) (cv : CV own idx y bs ml rt 0 ci) (dg : decode cc pc = .ok (.invokevirtual idx, 3)) (hM : Cti y bs ml rt d2 θ sx (.ref (sA θ q) :: []) S P) (hd : d2 + 1 ≤ d) (kk : ∀ r S', P r S' → K (pc + 3) lv (.int r :: st) S') (hst : (st.map fun v => v.category).sum ≤ 8 := by (first | exact Nat.le_of_ble_eq_true rfl | decide)) : K pc lv (.ref (sA θ q) :: st) S := by
  obtain ⟨p, l, e, s, m, args, below, meth, c, Q, hx, hb, hml, hown, hts, hK, hJ, hE, ri, rl, rv, rfl⟩ := hC
  intro H locs ls hn hl hP hS
  obtain ⟨c1, c2, c3, c4, c5, c6, c7, c8, c9, T, N, c10⟩ := cv
  exact va_calli (va_runV (As := []) (rest := st) ⟨hx, hb, hml, hown, hts⟩ (hM l H.size) ⟨callB_of 0 hts (gTb c1) rfl rfl rfl (hts _ c5) (hts _ c2) ⟨c6, c7, c8⟩ (by constructor <;> (show _ ≤ _; simp only [rmD]; omega)), hts _ c3, hts _ c4⟩ ⟨PcW_blind, va_recv (D := sD θ) (cl := vwCl) hK hP c10 (GW_get hs), fun U hU hW => ⟨rfl, by rw [hU], by rw [hU]; exact hP, va_K.moved hW.alike hK, hJ, by rw [hU]; exact hE.go hS.2.1 (fun q h => h.elim Or.inl (fun z => Or.inr (Nat.le_trans hS.1 z))) hW⟩⟩ rfl rfl hl.1 rfl (lv_room hst) dg ⟨Nat.zero_le _, Nat.zero_le _⟩) hS (fun q h1 h2 => h2.elim Or.inl (fun z => absurd h1 (Nat.not_lt.mpr z))) (fun q h => h.elim Or.inl (fun z => Or.inr (Nat.le_trans hS.1 z))) (fun r u t H1 locs1 ht hvm hw hB hz1 hk1 hS1 => kk r u hw H1 locs1 ls hn hl (by rw [← ht]; exact hB) hS1)
theorem q_calliS0 (hC : Ok K cc own nL d θ sx Fi Fl Fv) {idx ml d2 : Nat} {y : MethodName} {bs : ByteArray} {rt : Option FieldType} {P : Int32 → St → Prop} (cv : CSt own idx y bs ml rt 0) (dg : decode cc pc = .ok (.invokestatic idx, 3)) (hM : Cti y bs ml rt d2 θ sx [] S P) (hd : d2 + 1 ≤ d) (kk : ∀ r S', P r S' → K (pc + 3) lv (.int r :: st) S') (hst : (st.map fun v => v.category).sum ≤ 8 := by (first | exact Nat.le_of_ble_eq_true rfl | decide)) : K pc lv (st) S := by
  obtain ⟨p, l, e, s, m, args, below, meth, c, Q, hx, hb, hml, hown, hts, hK, hJ, hE, ri, rl, rv, rfl⟩ := hC
  intro H locs ls hn hl hP hS
  obtain ⟨c1, c2, c3, c5, c6, c7, c8, c9⟩ := cv
  exact va_calli (va_runS (As := []) (rest := st) ⟨hx, hb, hml, hown, hts⟩ (hM l H.size) ⟨callB_of 0 hts (gTb c1) rfl rfl rfl (hts _ c5) (hts _ c2) ⟨c6, c7, c8⟩ (by constructor <;> (show _ ≤ _; simp only [rmD]; omega)), hts _ c3⟩ ⟨PcW_blind, fun U hU hW => ⟨rfl, by rw [hU], by rw [hU]; exact hP, va_K.moved hW.alike hK, hJ, by rw [hU]; exact hE.go hS.2.1 (fun q h => h.elim Or.inl (fun z => Or.inr (Nat.le_trans hS.1 z))) hW⟩⟩ rfl rfl hl.1 rfl (lv_room hst) dg ⟨Nat.zero_le _, Nat.zero_le _⟩) hS (fun q h1 h2 => h2.elim Or.inl (fun z => absurd h1 (Nat.not_lt.mpr z))) (fun q h => h.elim Or.inl (fun z => Or.inr (Nat.le_trans hS.1 z))) (fun r u t H1 locs1 ht hvm hw hB hz1 hk1 hS1 => kk r u hw H1 locs1 ls hn hl (by rw [← ht]; exact hB) hS1)
theorem q_calliV1 (hC : Ok K cc own nL d θ sx Fi Fl Fv) {q ci idx ml d2 : Nat} {ks : List (Option (Option Nat))} {y : MethodName} {bs : ByteArray} {rt : Option FieldType} {v0 : Value} {P : Int32 → St → Prop} (hs : sx[q]? = some (.inr (.inl (ci, ks)))) (cv : CV own idx y bs ml rt 1 ci) (dg : decode cc pc = .ok (.invokevirtual idx, 3)) (hM : Cti y bs ml rt d2 θ sx (.ref (sA θ q) :: [v0]) S P) (hd : d2 + 1 ≤ d) (kk : ∀ r S', P r S' → K (pc + 3) lv (.int r :: st) S') (hst : (st.map fun v => v.category).sum ≤ 8 := by (first | exact Nat.le_of_ble_eq_true rfl | decide)) : K pc lv (v0 :: .ref (sA θ q) :: st) S := by
  obtain ⟨p, l, e, s, m, args, below, meth, c, Q, hx, hb, hml, hown, hts, hK, hJ, hE, ri, rl, rv, rfl⟩ := hC
  intro H locs ls hn hl hP hS
  obtain ⟨c1, c2, c3, c4, c5, c6, c7, c8, c9, T, N, c10⟩ := cv
  exact va_calli (va_runV (As := [v0]) (rest := st) ⟨hx, hb, hml, hown, hts⟩ (hM l H.size) ⟨callB_of 1 hts (gTb c1) rfl rfl rfl (hts _ c5) (hts _ c2) ⟨c6, c7, c8⟩ (by constructor <;> (show _ ≤ _; simp only [rmD]; omega)), hts _ c3, hts _ c4⟩ ⟨PcW_blind, va_recv (D := sD θ) (cl := vwCl) hK hP c10 (GW_get hs), fun U hU hW => ⟨rfl, by rw [hU], by rw [hU]; exact hP, va_K.moved hW.alike hK, hJ, by rw [hU]; exact hE.go hS.2.1 (fun q h => h.elim Or.inl (fun z => Or.inr (Nat.le_trans hS.1 z))) hW⟩⟩ rfl rfl hl.1 rfl (lv_room hst) dg ⟨Nat.zero_le _, Nat.zero_le _⟩) hS (fun q h1 h2 => h2.elim Or.inl (fun z => absurd h1 (Nat.not_lt.mpr z))) (fun q h => h.elim Or.inl (fun z => Or.inr (Nat.le_trans hS.1 z))) (fun r u t H1 locs1 ht hvm hw hB hz1 hk1 hS1 => kk r u hw H1 locs1 ls hn hl (by rw [← ht]; exact hB) hS1)
theorem q_calliS1 (hC : Ok K cc own nL d θ sx Fi Fl Fv) {idx ml d2 : Nat} {y : MethodName} {bs : ByteArray} {rt : Option FieldType} {v0 : Value} {P : Int32 → St → Prop} (cv : CSt own idx y bs ml rt 1) (dg : decode cc pc = .ok (.invokestatic idx, 3)) (hM : Cti y bs ml rt d2 θ sx [v0] S P) (hd : d2 + 1 ≤ d) (kk : ∀ r S', P r S' → K (pc + 3) lv (.int r :: st) S') (hst : (st.map fun v => v.category).sum ≤ 8 := by (first | exact Nat.le_of_ble_eq_true rfl | decide)) : K pc lv (v0 :: st) S := by
  obtain ⟨p, l, e, s, m, args, below, meth, c, Q, hx, hb, hml, hown, hts, hK, hJ, hE, ri, rl, rv, rfl⟩ := hC
  intro H locs ls hn hl hP hS
  obtain ⟨c1, c2, c3, c5, c6, c7, c8, c9⟩ := cv
  exact va_calli (va_runS (As := [v0]) (rest := st) ⟨hx, hb, hml, hown, hts⟩ (hM l H.size) ⟨callB_of 1 hts (gTb c1) rfl rfl rfl (hts _ c5) (hts _ c2) ⟨c6, c7, c8⟩ (by constructor <;> (show _ ≤ _; simp only [rmD]; omega)), hts _ c3⟩ ⟨PcW_blind, fun U hU hW => ⟨rfl, by rw [hU], by rw [hU]; exact hP, va_K.moved hW.alike hK, hJ, by rw [hU]; exact hE.go hS.2.1 (fun q h => h.elim Or.inl (fun z => Or.inr (Nat.le_trans hS.1 z))) hW⟩⟩ rfl rfl hl.1 rfl (lv_room hst) dg ⟨Nat.zero_le _, Nat.zero_le _⟩) hS (fun q h1 h2 => h2.elim Or.inl (fun z => absurd h1 (Nat.not_lt.mpr z))) (fun q h => h.elim Or.inl (fun z => Or.inr (Nat.le_trans hS.1 z))) (fun r u t H1 locs1 ht hvm hw hB hz1 hk1 hS1 => kk r u hw H1 locs1 ls hn hl (by rw [← ht]; exact hB) hS1)
theorem q_calliV2 (hC : Ok K cc own nL d θ sx Fi Fl Fv) {q ci idx ml d2 : Nat} {ks : List (Option (Option Nat))} {y : MethodName} {bs : ByteArray} {rt : Option FieldType} {v0 v1 : Value} {P : Int32 → St → Prop} (hs : sx[q]? = some (.inr (.inl (ci, ks)))) (cv : CV own idx y bs ml rt 2 ci) (dg : decode cc pc = .ok (.invokevirtual idx, 3)) (hM : Cti y bs ml rt d2 θ sx (.ref (sA θ q) :: [v0, v1]) S P) (hd : d2 + 1 ≤ d) (kk : ∀ r S', P r S' → K (pc + 3) lv (.int r :: st) S') (hst : (st.map fun v => v.category).sum ≤ 8 := by (first | exact Nat.le_of_ble_eq_true rfl | decide)) : K pc lv (v1 :: v0 :: .ref (sA θ q) :: st) S := by
  obtain ⟨p, l, e, s, m, args, below, meth, c, Q, hx, hb, hml, hown, hts, hK, hJ, hE, ri, rl, rv, rfl⟩ := hC
  intro H locs ls hn hl hP hS
  obtain ⟨c1, c2, c3, c4, c5, c6, c7, c8, c9, T, N, c10⟩ := cv
  exact va_calli (va_runV (As := [v0, v1]) (rest := st) ⟨hx, hb, hml, hown, hts⟩ (hM l H.size) ⟨callB_of 2 hts (gTb c1) rfl rfl rfl (hts _ c5) (hts _ c2) ⟨c6, c7, c8⟩ (by constructor <;> (show _ ≤ _; simp only [rmD]; omega)), hts _ c3, hts _ c4⟩ ⟨PcW_blind, va_recv (D := sD θ) (cl := vwCl) hK hP c10 (GW_get hs), fun U hU hW => ⟨rfl, by rw [hU], by rw [hU]; exact hP, va_K.moved hW.alike hK, hJ, by rw [hU]; exact hE.go hS.2.1 (fun q h => h.elim Or.inl (fun z => Or.inr (Nat.le_trans hS.1 z))) hW⟩⟩ rfl rfl hl.1 rfl (lv_room hst) dg ⟨Nat.zero_le _, Nat.zero_le _⟩) hS (fun q h1 h2 => h2.elim Or.inl (fun z => absurd h1 (Nat.not_lt.mpr z))) (fun q h => h.elim Or.inl (fun z => Or.inr (Nat.le_trans hS.1 z))) (fun r u t H1 locs1 ht hvm hw hB hz1 hk1 hS1 => kk r u hw H1 locs1 ls hn hl (by rw [← ht]; exact hB) hS1)
theorem q_calliS2 (hC : Ok K cc own nL d θ sx Fi Fl Fv) {idx ml d2 : Nat} {y : MethodName} {bs : ByteArray} {rt : Option FieldType} {v0 v1 : Value} {P : Int32 → St → Prop} (cv : CSt own idx y bs ml rt 2) (dg : decode cc pc = .ok (.invokestatic idx, 3)) (hM : Cti y bs ml rt d2 θ sx [v0, v1] S P) (hd : d2 + 1 ≤ d) (kk : ∀ r S', P r S' → K (pc + 3) lv (.int r :: st) S') (hst : (st.map fun v => v.category).sum ≤ 8 := by (first | exact Nat.le_of_ble_eq_true rfl | decide)) : K pc lv (v1 :: v0 :: st) S := by
  obtain ⟨p, l, e, s, m, args, below, meth, c, Q, hx, hb, hml, hown, hts, hK, hJ, hE, ri, rl, rv, rfl⟩ := hC
  intro H locs ls hn hl hP hS
  obtain ⟨c1, c2, c3, c5, c6, c7, c8, c9⟩ := cv
  exact va_calli (va_runS (As := [v0, v1]) (rest := st) ⟨hx, hb, hml, hown, hts⟩ (hM l H.size) ⟨callB_of 2 hts (gTb c1) rfl rfl rfl (hts _ c5) (hts _ c2) ⟨c6, c7, c8⟩ (by constructor <;> (show _ ≤ _; simp only [rmD]; omega)), hts _ c3⟩ ⟨PcW_blind, fun U hU hW => ⟨rfl, by rw [hU], by rw [hU]; exact hP, va_K.moved hW.alike hK, hJ, by rw [hU]; exact hE.go hS.2.1 (fun q h => h.elim Or.inl (fun z => Or.inr (Nat.le_trans hS.1 z))) hW⟩⟩ rfl rfl hl.1 rfl (lv_room hst) dg ⟨Nat.zero_le _, Nat.zero_le _⟩) hS (fun q h1 h2 => h2.elim Or.inl (fun z => absurd h1 (Nat.not_lt.mpr z))) (fun q h => h.elim Or.inl (fun z => Or.inr (Nat.le_trans hS.1 z))) (fun r u t H1 locs1 ht hvm hw hB hz1 hk1 hS1 => kk r u hw H1 locs1 ls hn hl (by rw [← ht]; exact hB) hS1)
theorem q_calliV3 (hC : Ok K cc own nL d θ sx Fi Fl Fv) {q ci idx ml d2 : Nat} {ks : List (Option (Option Nat))} {y : MethodName} {bs : ByteArray} {rt : Option FieldType} {v0 v1 v2 : Value} {P : Int32 → St → Prop} (hs : sx[q]? = some (.inr (.inl (ci, ks)))) (cv : CV own idx y bs ml rt 3 ci) (dg : decode cc pc = .ok (.invokevirtual idx, 3)) (hM : Cti y bs ml rt d2 θ sx (.ref (sA θ q) :: [v0, v1, v2]) S P) (hd : d2 + 1 ≤ d) (kk : ∀ r S', P r S' → K (pc + 3) lv (.int r :: st) S') (hst : (st.map fun v => v.category).sum ≤ 8 := by (first | exact Nat.le_of_ble_eq_true rfl | decide)) : K pc lv (v2 :: v1 :: v0 :: .ref (sA θ q) :: st) S := by
  obtain ⟨p, l, e, s, m, args, below, meth, c, Q, hx, hb, hml, hown, hts, hK, hJ, hE, ri, rl, rv, rfl⟩ := hC
  intro H locs ls hn hl hP hS
  obtain ⟨c1, c2, c3, c4, c5, c6, c7, c8, c9, T, N, c10⟩ := cv
  exact va_calli (va_runV (As := [v0, v1, v2]) (rest := st) ⟨hx, hb, hml, hown, hts⟩ (hM l H.size) ⟨callB_of 3 hts (gTb c1) rfl rfl rfl (hts _ c5) (hts _ c2) ⟨c6, c7, c8⟩ (by constructor <;> (show _ ≤ _; simp only [rmD]; omega)), hts _ c3, hts _ c4⟩ ⟨PcW_blind, va_recv (D := sD θ) (cl := vwCl) hK hP c10 (GW_get hs), fun U hU hW => ⟨rfl, by rw [hU], by rw [hU]; exact hP, va_K.moved hW.alike hK, hJ, by rw [hU]; exact hE.go hS.2.1 (fun q h => h.elim Or.inl (fun z => Or.inr (Nat.le_trans hS.1 z))) hW⟩⟩ rfl rfl hl.1 rfl (lv_room hst) dg ⟨Nat.zero_le _, Nat.zero_le _⟩) hS (fun q h1 h2 => h2.elim Or.inl (fun z => absurd h1 (Nat.not_lt.mpr z))) (fun q h => h.elim Or.inl (fun z => Or.inr (Nat.le_trans hS.1 z))) (fun r u t H1 locs1 ht hvm hw hB hz1 hk1 hS1 => kk r u hw H1 locs1 ls hn hl (by rw [← ht]; exact hB) hS1)
theorem q_calliS3 (hC : Ok K cc own nL d θ sx Fi Fl Fv) {idx ml d2 : Nat} {y : MethodName} {bs : ByteArray} {rt : Option FieldType} {v0 v1 v2 : Value} {P : Int32 → St → Prop} (cv : CSt own idx y bs ml rt 3) (dg : decode cc pc = .ok (.invokestatic idx, 3)) (hM : Cti y bs ml rt d2 θ sx [v0, v1, v2] S P) (hd : d2 + 1 ≤ d) (kk : ∀ r S', P r S' → K (pc + 3) lv (.int r :: st) S') (hst : (st.map fun v => v.category).sum ≤ 8 := by (first | exact Nat.le_of_ble_eq_true rfl | decide)) : K pc lv (v2 :: v1 :: v0 :: st) S := by
  obtain ⟨p, l, e, s, m, args, below, meth, c, Q, hx, hb, hml, hown, hts, hK, hJ, hE, ri, rl, rv, rfl⟩ := hC
  intro H locs ls hn hl hP hS
  obtain ⟨c1, c2, c3, c5, c6, c7, c8, c9⟩ := cv
  exact va_calli (va_runS (As := [v0, v1, v2]) (rest := st) ⟨hx, hb, hml, hown, hts⟩ (hM l H.size) ⟨callB_of 3 hts (gTb c1) rfl rfl rfl (hts _ c5) (hts _ c2) ⟨c6, c7, c8⟩ (by constructor <;> (show _ ≤ _; simp only [rmD]; omega)), hts _ c3⟩ ⟨PcW_blind, fun U hU hW => ⟨rfl, by rw [hU], by rw [hU]; exact hP, va_K.moved hW.alike hK, hJ, by rw [hU]; exact hE.go hS.2.1 (fun q h => h.elim Or.inl (fun z => Or.inr (Nat.le_trans hS.1 z))) hW⟩⟩ rfl rfl hl.1 rfl (lv_room hst) dg ⟨Nat.zero_le _, Nat.zero_le _⟩) hS (fun q h1 h2 => h2.elim Or.inl (fun z => absurd h1 (Nat.not_lt.mpr z))) (fun q h => h.elim Or.inl (fun z => Or.inr (Nat.le_trans hS.1 z))) (fun r u t H1 locs1 ht hvm hw hB hz1 hk1 hS1 => kk r u hw H1 locs1 ls hn hl (by rw [← ht]; exact hB) hS1)
theorem q_calliV4 (hC : Ok K cc own nL d θ sx Fi Fl Fv) {q ci idx ml d2 : Nat} {ks : List (Option (Option Nat))} {y : MethodName} {bs : ByteArray} {rt : Option FieldType} {v0 v1 v2 v3 : Value} {P : Int32 → St → Prop} (hs : sx[q]? = some (.inr (.inl (ci, ks)))) (cv : CV own idx y bs ml rt 4 ci) (dg : decode cc pc = .ok (.invokevirtual idx, 3)) (hM : Cti y bs ml rt d2 θ sx (.ref (sA θ q) :: [v0, v1, v2, v3]) S P) (hd : d2 + 1 ≤ d) (kk : ∀ r S', P r S' → K (pc + 3) lv (.int r :: st) S') (hst : (st.map fun v => v.category).sum ≤ 8 := by (first | exact Nat.le_of_ble_eq_true rfl | decide)) : K pc lv (v3 :: v2 :: v1 :: v0 :: .ref (sA θ q) :: st) S := by
  obtain ⟨p, l, e, s, m, args, below, meth, c, Q, hx, hb, hml, hown, hts, hK, hJ, hE, ri, rl, rv, rfl⟩ := hC
  intro H locs ls hn hl hP hS
  obtain ⟨c1, c2, c3, c4, c5, c6, c7, c8, c9, T, N, c10⟩ := cv
  exact va_calli (va_runV (As := [v0, v1, v2, v3]) (rest := st) ⟨hx, hb, hml, hown, hts⟩ (hM l H.size) ⟨callB_of 4 hts (gTb c1) rfl rfl rfl (hts _ c5) (hts _ c2) ⟨c6, c7, c8⟩ (by constructor <;> (show _ ≤ _; simp only [rmD]; omega)), hts _ c3, hts _ c4⟩ ⟨PcW_blind, va_recv (D := sD θ) (cl := vwCl) hK hP c10 (GW_get hs), fun U hU hW => ⟨rfl, by rw [hU], by rw [hU]; exact hP, va_K.moved hW.alike hK, hJ, by rw [hU]; exact hE.go hS.2.1 (fun q h => h.elim Or.inl (fun z => Or.inr (Nat.le_trans hS.1 z))) hW⟩⟩ rfl rfl hl.1 rfl (lv_room hst) dg ⟨Nat.zero_le _, Nat.zero_le _⟩) hS (fun q h1 h2 => h2.elim Or.inl (fun z => absurd h1 (Nat.not_lt.mpr z))) (fun q h => h.elim Or.inl (fun z => Or.inr (Nat.le_trans hS.1 z))) (fun r u t H1 locs1 ht hvm hw hB hz1 hk1 hS1 => kk r u hw H1 locs1 ls hn hl (by rw [← ht]; exact hB) hS1)
theorem q_calliS4 (hC : Ok K cc own nL d θ sx Fi Fl Fv) {idx ml d2 : Nat} {y : MethodName} {bs : ByteArray} {rt : Option FieldType} {v0 v1 v2 v3 : Value} {P : Int32 → St → Prop} (cv : CSt own idx y bs ml rt 4) (dg : decode cc pc = .ok (.invokestatic idx, 3)) (hM : Cti y bs ml rt d2 θ sx [v0, v1, v2, v3] S P) (hd : d2 + 1 ≤ d) (kk : ∀ r S', P r S' → K (pc + 3) lv (.int r :: st) S') (hst : (st.map fun v => v.category).sum ≤ 8 := by (first | exact Nat.le_of_ble_eq_true rfl | decide)) : K pc lv (v3 :: v2 :: v1 :: v0 :: st) S := by
  obtain ⟨p, l, e, s, m, args, below, meth, c, Q, hx, hb, hml, hown, hts, hK, hJ, hE, ri, rl, rv, rfl⟩ := hC
  intro H locs ls hn hl hP hS
  obtain ⟨c1, c2, c3, c5, c6, c7, c8, c9⟩ := cv
  exact va_calli (va_runS (As := [v0, v1, v2, v3]) (rest := st) ⟨hx, hb, hml, hown, hts⟩ (hM l H.size) ⟨callB_of 4 hts (gTb c1) rfl rfl rfl (hts _ c5) (hts _ c2) ⟨c6, c7, c8⟩ (by constructor <;> (show _ ≤ _; simp only [rmD]; omega)), hts _ c3⟩ ⟨PcW_blind, fun U hU hW => ⟨rfl, by rw [hU], by rw [hU]; exact hP, va_K.moved hW.alike hK, hJ, by rw [hU]; exact hE.go hS.2.1 (fun q h => h.elim Or.inl (fun z => Or.inr (Nat.le_trans hS.1 z))) hW⟩⟩ rfl rfl hl.1 rfl (lv_room hst) dg ⟨Nat.zero_le _, Nat.zero_le _⟩) hS (fun q h1 h2 => h2.elim Or.inl (fun z => absurd h1 (Nat.not_lt.mpr z))) (fun q h => h.elim Or.inl (fun z => Or.inr (Nat.le_trans hS.1 z))) (fun r u t H1 locs1 ht hvm hw hB hz1 hk1 hS1 => kk r u hw H1 locs1 ls hn hl (by rw [← ht]; exact hB) hS1)
theorem q_calllV0 (hC : Ok K cc own nL d θ sx Fi Fl Fv) {q ci idx ml d2 : Nat} {ks : List (Option (Option Nat))} {y : MethodName} {bs : ByteArray} {rt : Option FieldType} {P : Int64 → St → Prop} (hs : sx[q]? = some (.inr (.inl (ci, ks)))) (cv : CV own idx y bs ml rt 0 ci) (dg : decode cc pc = .ok (.invokevirtual idx, 3)) (hM : Ctl y bs ml rt d2 θ sx (.ref (sA θ q) :: []) S P) (hd : d2 + 1 ≤ d) (kk : ∀ r S', P r S' → K (pc + 3) lv (.long r :: st) S') (hst : (st.map fun v => v.category).sum ≤ 8 := by (first | exact Nat.le_of_ble_eq_true rfl | decide)) : K pc lv (.ref (sA θ q) :: st) S := by
  obtain ⟨p, l, e, s, m, args, below, meth, c, Q, hx, hb, hml, hown, hts, hK, hJ, hE, ri, rl, rv, rfl⟩ := hC
  intro H locs ls hn hl hP hS
  obtain ⟨c1, c2, c3, c4, c5, c6, c7, c8, c9, T, N, c10⟩ := cv
  exact va_calll (va_runV (As := []) (rest := st) ⟨hx, hb, hml, hown, hts⟩ (hM l H.size) ⟨callB_of 0 hts (gTb c1) rfl rfl rfl (hts _ c5) (hts _ c2) ⟨c6, c7, c8⟩ (by constructor <;> (show _ ≤ _; simp only [rmD]; omega)), hts _ c3, hts _ c4⟩ ⟨PcW_blind, va_recv (D := sD θ) (cl := vwCl) hK hP c10 (GW_get hs), fun U hU hW => ⟨rfl, by rw [hU], by rw [hU]; exact hP, va_K.moved hW.alike hK, hJ, by rw [hU]; exact hE.go hS.2.1 (fun q h => h.elim Or.inl (fun z => Or.inr (Nat.le_trans hS.1 z))) hW⟩⟩ rfl rfl hl.1 rfl (lv_room hst) dg ⟨Nat.zero_le _, Nat.zero_le _⟩) hS (fun q h1 h2 => h2.elim Or.inl (fun z => absurd h1 (Nat.not_lt.mpr z))) (fun q h => h.elim Or.inl (fun z => Or.inr (Nat.le_trans hS.1 z))) (fun r u t H1 locs1 ht hvm hw hB hz1 hk1 hS1 => kk r u hw H1 locs1 ls hn hl (by rw [← ht]; exact hB) hS1)
theorem q_calllS0 (hC : Ok K cc own nL d θ sx Fi Fl Fv) {idx ml d2 : Nat} {y : MethodName} {bs : ByteArray} {rt : Option FieldType} {P : Int64 → St → Prop} (cv : CSt own idx y bs ml rt 0) (dg : decode cc pc = .ok (.invokestatic idx, 3)) (hM : Ctl y bs ml rt d2 θ sx [] S P) (hd : d2 + 1 ≤ d) (kk : ∀ r S', P r S' → K (pc + 3) lv (.long r :: st) S') (hst : (st.map fun v => v.category).sum ≤ 8 := by (first | exact Nat.le_of_ble_eq_true rfl | decide)) : K pc lv (st) S := by
  obtain ⟨p, l, e, s, m, args, below, meth, c, Q, hx, hb, hml, hown, hts, hK, hJ, hE, ri, rl, rv, rfl⟩ := hC
  intro H locs ls hn hl hP hS
  obtain ⟨c1, c2, c3, c5, c6, c7, c8, c9⟩ := cv
  exact va_calll (va_runS (As := []) (rest := st) ⟨hx, hb, hml, hown, hts⟩ (hM l H.size) ⟨callB_of 0 hts (gTb c1) rfl rfl rfl (hts _ c5) (hts _ c2) ⟨c6, c7, c8⟩ (by constructor <;> (show _ ≤ _; simp only [rmD]; omega)), hts _ c3⟩ ⟨PcW_blind, fun U hU hW => ⟨rfl, by rw [hU], by rw [hU]; exact hP, va_K.moved hW.alike hK, hJ, by rw [hU]; exact hE.go hS.2.1 (fun q h => h.elim Or.inl (fun z => Or.inr (Nat.le_trans hS.1 z))) hW⟩⟩ rfl rfl hl.1 rfl (lv_room hst) dg ⟨Nat.zero_le _, Nat.zero_le _⟩) hS (fun q h1 h2 => h2.elim Or.inl (fun z => absurd h1 (Nat.not_lt.mpr z))) (fun q h => h.elim Or.inl (fun z => Or.inr (Nat.le_trans hS.1 z))) (fun r u t H1 locs1 ht hvm hw hB hz1 hk1 hS1 => kk r u hw H1 locs1 ls hn hl (by rw [← ht]; exact hB) hS1)
theorem q_calllV1 (hC : Ok K cc own nL d θ sx Fi Fl Fv) {q ci idx ml d2 : Nat} {ks : List (Option (Option Nat))} {y : MethodName} {bs : ByteArray} {rt : Option FieldType} {v0 : Value} {P : Int64 → St → Prop} (hs : sx[q]? = some (.inr (.inl (ci, ks)))) (cv : CV own idx y bs ml rt 1 ci) (dg : decode cc pc = .ok (.invokevirtual idx, 3)) (hM : Ctl y bs ml rt d2 θ sx (.ref (sA θ q) :: [v0]) S P) (hd : d2 + 1 ≤ d) (kk : ∀ r S', P r S' → K (pc + 3) lv (.long r :: st) S') (hst : (st.map fun v => v.category).sum ≤ 8 := by (first | exact Nat.le_of_ble_eq_true rfl | decide)) : K pc lv (v0 :: .ref (sA θ q) :: st) S := by
  obtain ⟨p, l, e, s, m, args, below, meth, c, Q, hx, hb, hml, hown, hts, hK, hJ, hE, ri, rl, rv, rfl⟩ := hC
  intro H locs ls hn hl hP hS
  obtain ⟨c1, c2, c3, c4, c5, c6, c7, c8, c9, T, N, c10⟩ := cv
  exact va_calll (va_runV (As := [v0]) (rest := st) ⟨hx, hb, hml, hown, hts⟩ (hM l H.size) ⟨callB_of 1 hts (gTb c1) rfl rfl rfl (hts _ c5) (hts _ c2) ⟨c6, c7, c8⟩ (by constructor <;> (show _ ≤ _; simp only [rmD]; omega)), hts _ c3, hts _ c4⟩ ⟨PcW_blind, va_recv (D := sD θ) (cl := vwCl) hK hP c10 (GW_get hs), fun U hU hW => ⟨rfl, by rw [hU], by rw [hU]; exact hP, va_K.moved hW.alike hK, hJ, by rw [hU]; exact hE.go hS.2.1 (fun q h => h.elim Or.inl (fun z => Or.inr (Nat.le_trans hS.1 z))) hW⟩⟩ rfl rfl hl.1 rfl (lv_room hst) dg ⟨Nat.zero_le _, Nat.zero_le _⟩) hS (fun q h1 h2 => h2.elim Or.inl (fun z => absurd h1 (Nat.not_lt.mpr z))) (fun q h => h.elim Or.inl (fun z => Or.inr (Nat.le_trans hS.1 z))) (fun r u t H1 locs1 ht hvm hw hB hz1 hk1 hS1 => kk r u hw H1 locs1 ls hn hl (by rw [← ht]; exact hB) hS1)
theorem q_calllS1 (hC : Ok K cc own nL d θ sx Fi Fl Fv) {idx ml d2 : Nat} {y : MethodName} {bs : ByteArray} {rt : Option FieldType} {v0 : Value} {P : Int64 → St → Prop} (cv : CSt own idx y bs ml rt 1) (dg : decode cc pc = .ok (.invokestatic idx, 3)) (hM : Ctl y bs ml rt d2 θ sx [v0] S P) (hd : d2 + 1 ≤ d) (kk : ∀ r S', P r S' → K (pc + 3) lv (.long r :: st) S') (hst : (st.map fun v => v.category).sum ≤ 8 := by (first | exact Nat.le_of_ble_eq_true rfl | decide)) : K pc lv (v0 :: st) S := by
  obtain ⟨p, l, e, s, m, args, below, meth, c, Q, hx, hb, hml, hown, hts, hK, hJ, hE, ri, rl, rv, rfl⟩ := hC
  intro H locs ls hn hl hP hS
  obtain ⟨c1, c2, c3, c5, c6, c7, c8, c9⟩ := cv
  exact va_calll (va_runS (As := [v0]) (rest := st) ⟨hx, hb, hml, hown, hts⟩ (hM l H.size) ⟨callB_of 1 hts (gTb c1) rfl rfl rfl (hts _ c5) (hts _ c2) ⟨c6, c7, c8⟩ (by constructor <;> (show _ ≤ _; simp only [rmD]; omega)), hts _ c3⟩ ⟨PcW_blind, fun U hU hW => ⟨rfl, by rw [hU], by rw [hU]; exact hP, va_K.moved hW.alike hK, hJ, by rw [hU]; exact hE.go hS.2.1 (fun q h => h.elim Or.inl (fun z => Or.inr (Nat.le_trans hS.1 z))) hW⟩⟩ rfl rfl hl.1 rfl (lv_room hst) dg ⟨Nat.zero_le _, Nat.zero_le _⟩) hS (fun q h1 h2 => h2.elim Or.inl (fun z => absurd h1 (Nat.not_lt.mpr z))) (fun q h => h.elim Or.inl (fun z => Or.inr (Nat.le_trans hS.1 z))) (fun r u t H1 locs1 ht hvm hw hB hz1 hk1 hS1 => kk r u hw H1 locs1 ls hn hl (by rw [← ht]; exact hB) hS1)
theorem q_calllV2 (hC : Ok K cc own nL d θ sx Fi Fl Fv) {q ci idx ml d2 : Nat} {ks : List (Option (Option Nat))} {y : MethodName} {bs : ByteArray} {rt : Option FieldType} {v0 v1 : Value} {P : Int64 → St → Prop} (hs : sx[q]? = some (.inr (.inl (ci, ks)))) (cv : CV own idx y bs ml rt 2 ci) (dg : decode cc pc = .ok (.invokevirtual idx, 3)) (hM : Ctl y bs ml rt d2 θ sx (.ref (sA θ q) :: [v0, v1]) S P) (hd : d2 + 1 ≤ d) (kk : ∀ r S', P r S' → K (pc + 3) lv (.long r :: st) S') (hst : (st.map fun v => v.category).sum ≤ 8 := by (first | exact Nat.le_of_ble_eq_true rfl | decide)) : K pc lv (v1 :: v0 :: .ref (sA θ q) :: st) S := by
  obtain ⟨p, l, e, s, m, args, below, meth, c, Q, hx, hb, hml, hown, hts, hK, hJ, hE, ri, rl, rv, rfl⟩ := hC
  intro H locs ls hn hl hP hS
  obtain ⟨c1, c2, c3, c4, c5, c6, c7, c8, c9, T, N, c10⟩ := cv
  exact va_calll (va_runV (As := [v0, v1]) (rest := st) ⟨hx, hb, hml, hown, hts⟩ (hM l H.size) ⟨callB_of 2 hts (gTb c1) rfl rfl rfl (hts _ c5) (hts _ c2) ⟨c6, c7, c8⟩ (by constructor <;> (show _ ≤ _; simp only [rmD]; omega)), hts _ c3, hts _ c4⟩ ⟨PcW_blind, va_recv (D := sD θ) (cl := vwCl) hK hP c10 (GW_get hs), fun U hU hW => ⟨rfl, by rw [hU], by rw [hU]; exact hP, va_K.moved hW.alike hK, hJ, by rw [hU]; exact hE.go hS.2.1 (fun q h => h.elim Or.inl (fun z => Or.inr (Nat.le_trans hS.1 z))) hW⟩⟩ rfl rfl hl.1 rfl (lv_room hst) dg ⟨Nat.zero_le _, Nat.zero_le _⟩) hS (fun q h1 h2 => h2.elim Or.inl (fun z => absurd h1 (Nat.not_lt.mpr z))) (fun q h => h.elim Or.inl (fun z => Or.inr (Nat.le_trans hS.1 z))) (fun r u t H1 locs1 ht hvm hw hB hz1 hk1 hS1 => kk r u hw H1 locs1 ls hn hl (by rw [← ht]; exact hB) hS1)
theorem q_calllS2 (hC : Ok K cc own nL d θ sx Fi Fl Fv) {idx ml d2 : Nat} {y : MethodName} {bs : ByteArray} {rt : Option FieldType} {v0 v1 : Value} {P : Int64 → St → Prop} (cv : CSt own idx y bs ml rt 2) (dg : decode cc pc = .ok (.invokestatic idx, 3)) (hM : Ctl y bs ml rt d2 θ sx [v0, v1] S P) (hd : d2 + 1 ≤ d) (kk : ∀ r S', P r S' → K (pc + 3) lv (.long r :: st) S') (hst : (st.map fun v => v.category).sum ≤ 8 := by (first | exact Nat.le_of_ble_eq_true rfl | decide)) : K pc lv (v1 :: v0 :: st) S := by
  obtain ⟨p, l, e, s, m, args, below, meth, c, Q, hx, hb, hml, hown, hts, hK, hJ, hE, ri, rl, rv, rfl⟩ := hC
  intro H locs ls hn hl hP hS
  obtain ⟨c1, c2, c3, c5, c6, c7, c8, c9⟩ := cv
  exact va_calll (va_runS (As := [v0, v1]) (rest := st) ⟨hx, hb, hml, hown, hts⟩ (hM l H.size) ⟨callB_of 2 hts (gTb c1) rfl rfl rfl (hts _ c5) (hts _ c2) ⟨c6, c7, c8⟩ (by constructor <;> (show _ ≤ _; simp only [rmD]; omega)), hts _ c3⟩ ⟨PcW_blind, fun U hU hW => ⟨rfl, by rw [hU], by rw [hU]; exact hP, va_K.moved hW.alike hK, hJ, by rw [hU]; exact hE.go hS.2.1 (fun q h => h.elim Or.inl (fun z => Or.inr (Nat.le_trans hS.1 z))) hW⟩⟩ rfl rfl hl.1 rfl (lv_room hst) dg ⟨Nat.zero_le _, Nat.zero_le _⟩) hS (fun q h1 h2 => h2.elim Or.inl (fun z => absurd h1 (Nat.not_lt.mpr z))) (fun q h => h.elim Or.inl (fun z => Or.inr (Nat.le_trans hS.1 z))) (fun r u t H1 locs1 ht hvm hw hB hz1 hk1 hS1 => kk r u hw H1 locs1 ls hn hl (by rw [← ht]; exact hB) hS1)
theorem q_calllV3 (hC : Ok K cc own nL d θ sx Fi Fl Fv) {q ci idx ml d2 : Nat} {ks : List (Option (Option Nat))} {y : MethodName} {bs : ByteArray} {rt : Option FieldType} {v0 v1 v2 : Value} {P : Int64 → St → Prop} (hs : sx[q]? = some (.inr (.inl (ci, ks)))) (cv : CV own idx y bs ml rt 3 ci) (dg : decode cc pc = .ok (.invokevirtual idx, 3)) (hM : Ctl y bs ml rt d2 θ sx (.ref (sA θ q) :: [v0, v1, v2]) S P) (hd : d2 + 1 ≤ d) (kk : ∀ r S', P r S' → K (pc + 3) lv (.long r :: st) S') (hst : (st.map fun v => v.category).sum ≤ 8 := by (first | exact Nat.le_of_ble_eq_true rfl | decide)) : K pc lv (v2 :: v1 :: v0 :: .ref (sA θ q) :: st) S := by
  obtain ⟨p, l, e, s, m, args, below, meth, c, Q, hx, hb, hml, hown, hts, hK, hJ, hE, ri, rl, rv, rfl⟩ := hC
  intro H locs ls hn hl hP hS
  obtain ⟨c1, c2, c3, c4, c5, c6, c7, c8, c9, T, N, c10⟩ := cv
  exact va_calll (va_runV (As := [v0, v1, v2]) (rest := st) ⟨hx, hb, hml, hown, hts⟩ (hM l H.size) ⟨callB_of 3 hts (gTb c1) rfl rfl rfl (hts _ c5) (hts _ c2) ⟨c6, c7, c8⟩ (by constructor <;> (show _ ≤ _; simp only [rmD]; omega)), hts _ c3, hts _ c4⟩ ⟨PcW_blind, va_recv (D := sD θ) (cl := vwCl) hK hP c10 (GW_get hs), fun U hU hW => ⟨rfl, by rw [hU], by rw [hU]; exact hP, va_K.moved hW.alike hK, hJ, by rw [hU]; exact hE.go hS.2.1 (fun q h => h.elim Or.inl (fun z => Or.inr (Nat.le_trans hS.1 z))) hW⟩⟩ rfl rfl hl.1 rfl (lv_room hst) dg ⟨Nat.zero_le _, Nat.zero_le _⟩) hS (fun q h1 h2 => h2.elim Or.inl (fun z => absurd h1 (Nat.not_lt.mpr z))) (fun q h => h.elim Or.inl (fun z => Or.inr (Nat.le_trans hS.1 z))) (fun r u t H1 locs1 ht hvm hw hB hz1 hk1 hS1 => kk r u hw H1 locs1 ls hn hl (by rw [← ht]; exact hB) hS1)
theorem q_calllS3 (hC : Ok K cc own nL d θ sx Fi Fl Fv) {idx ml d2 : Nat} {y : MethodName} {bs : ByteArray} {rt : Option FieldType} {v0 v1 v2 : Value} {P : Int64 → St → Prop} (cv : CSt own idx y bs ml rt 3) (dg : decode cc pc = .ok (.invokestatic idx, 3)) (hM : Ctl y bs ml rt d2 θ sx [v0, v1, v2] S P) (hd : d2 + 1 ≤ d) (kk : ∀ r S', P r S' → K (pc + 3) lv (.long r :: st) S') (hst : (st.map fun v => v.category).sum ≤ 8 := by (first | exact Nat.le_of_ble_eq_true rfl | decide)) : K pc lv (v2 :: v1 :: v0 :: st) S := by
  obtain ⟨p, l, e, s, m, args, below, meth, c, Q, hx, hb, hml, hown, hts, hK, hJ, hE, ri, rl, rv, rfl⟩ := hC
  intro H locs ls hn hl hP hS
  obtain ⟨c1, c2, c3, c5, c6, c7, c8, c9⟩ := cv
  exact va_calll (va_runS (As := [v0, v1, v2]) (rest := st) ⟨hx, hb, hml, hown, hts⟩ (hM l H.size) ⟨callB_of 3 hts (gTb c1) rfl rfl rfl (hts _ c5) (hts _ c2) ⟨c6, c7, c8⟩ (by constructor <;> (show _ ≤ _; simp only [rmD]; omega)), hts _ c3⟩ ⟨PcW_blind, fun U hU hW => ⟨rfl, by rw [hU], by rw [hU]; exact hP, va_K.moved hW.alike hK, hJ, by rw [hU]; exact hE.go hS.2.1 (fun q h => h.elim Or.inl (fun z => Or.inr (Nat.le_trans hS.1 z))) hW⟩⟩ rfl rfl hl.1 rfl (lv_room hst) dg ⟨Nat.zero_le _, Nat.zero_le _⟩) hS (fun q h1 h2 => h2.elim Or.inl (fun z => absurd h1 (Nat.not_lt.mpr z))) (fun q h => h.elim Or.inl (fun z => Or.inr (Nat.le_trans hS.1 z))) (fun r u t H1 locs1 ht hvm hw hB hz1 hk1 hS1 => kk r u hw H1 locs1 ls hn hl (by rw [← ht]; exact hB) hS1)
theorem q_calllV4 (hC : Ok K cc own nL d θ sx Fi Fl Fv) {q ci idx ml d2 : Nat} {ks : List (Option (Option Nat))} {y : MethodName} {bs : ByteArray} {rt : Option FieldType} {v0 v1 v2 v3 : Value} {P : Int64 → St → Prop} (hs : sx[q]? = some (.inr (.inl (ci, ks)))) (cv : CV own idx y bs ml rt 4 ci) (dg : decode cc pc = .ok (.invokevirtual idx, 3)) (hM : Ctl y bs ml rt d2 θ sx (.ref (sA θ q) :: [v0, v1, v2, v3]) S P) (hd : d2 + 1 ≤ d) (kk : ∀ r S', P r S' → K (pc + 3) lv (.long r :: st) S') (hst : (st.map fun v => v.category).sum ≤ 8 := by (first | exact Nat.le_of_ble_eq_true rfl | decide)) : K pc lv (v3 :: v2 :: v1 :: v0 :: .ref (sA θ q) :: st) S := by
  obtain ⟨p, l, e, s, m, args, below, meth, c, Q, hx, hb, hml, hown, hts, hK, hJ, hE, ri, rl, rv, rfl⟩ := hC
  intro H locs ls hn hl hP hS
  obtain ⟨c1, c2, c3, c4, c5, c6, c7, c8, c9, T, N, c10⟩ := cv
  exact va_calll (va_runV (As := [v0, v1, v2, v3]) (rest := st) ⟨hx, hb, hml, hown, hts⟩ (hM l H.size) ⟨callB_of 4 hts (gTb c1) rfl rfl rfl (hts _ c5) (hts _ c2) ⟨c6, c7, c8⟩ (by constructor <;> (show _ ≤ _; simp only [rmD]; omega)), hts _ c3, hts _ c4⟩ ⟨PcW_blind, va_recv (D := sD θ) (cl := vwCl) hK hP c10 (GW_get hs), fun U hU hW => ⟨rfl, by rw [hU], by rw [hU]; exact hP, va_K.moved hW.alike hK, hJ, by rw [hU]; exact hE.go hS.2.1 (fun q h => h.elim Or.inl (fun z => Or.inr (Nat.le_trans hS.1 z))) hW⟩⟩ rfl rfl hl.1 rfl (lv_room hst) dg ⟨Nat.zero_le _, Nat.zero_le _⟩) hS (fun q h1 h2 => h2.elim Or.inl (fun z => absurd h1 (Nat.not_lt.mpr z))) (fun q h => h.elim Or.inl (fun z => Or.inr (Nat.le_trans hS.1 z))) (fun r u t H1 locs1 ht hvm hw hB hz1 hk1 hS1 => kk r u hw H1 locs1 ls hn hl (by rw [← ht]; exact hB) hS1)
theorem q_calllS4 (hC : Ok K cc own nL d θ sx Fi Fl Fv) {idx ml d2 : Nat} {y : MethodName} {bs : ByteArray} {rt : Option FieldType} {v0 v1 v2 v3 : Value} {P : Int64 → St → Prop} (cv : CSt own idx y bs ml rt 4) (dg : decode cc pc = .ok (.invokestatic idx, 3)) (hM : Ctl y bs ml rt d2 θ sx [v0, v1, v2, v3] S P) (hd : d2 + 1 ≤ d) (kk : ∀ r S', P r S' → K (pc + 3) lv (.long r :: st) S') (hst : (st.map fun v => v.category).sum ≤ 8 := by (first | exact Nat.le_of_ble_eq_true rfl | decide)) : K pc lv (v3 :: v2 :: v1 :: v0 :: st) S := by
  obtain ⟨p, l, e, s, m, args, below, meth, c, Q, hx, hb, hml, hown, hts, hK, hJ, hE, ri, rl, rv, rfl⟩ := hC
  intro H locs ls hn hl hP hS
  obtain ⟨c1, c2, c3, c5, c6, c7, c8, c9⟩ := cv
  exact va_calll (va_runS (As := [v0, v1, v2, v3]) (rest := st) ⟨hx, hb, hml, hown, hts⟩ (hM l H.size) ⟨callB_of 4 hts (gTb c1) rfl rfl rfl (hts _ c5) (hts _ c2) ⟨c6, c7, c8⟩ (by constructor <;> (show _ ≤ _; simp only [rmD]; omega)), hts _ c3⟩ ⟨PcW_blind, fun U hU hW => ⟨rfl, by rw [hU], by rw [hU]; exact hP, va_K.moved hW.alike hK, hJ, by rw [hU]; exact hE.go hS.2.1 (fun q h => h.elim Or.inl (fun z => Or.inr (Nat.le_trans hS.1 z))) hW⟩⟩ rfl rfl hl.1 rfl (lv_room hst) dg ⟨Nat.zero_le _, Nat.zero_le _⟩) hS (fun q h1 h2 => h2.elim Or.inl (fun z => absurd h1 (Nat.not_lt.mpr z))) (fun q h => h.elim Or.inl (fun z => Or.inr (Nat.le_trans hS.1 z))) (fun r u t H1 locs1 ht hvm hw hB hz1 hk1 hS1 => kk r u hw H1 locs1 ls hn hl (by rw [← ht]; exact hB) hS1)
theorem q_callvV0 (hC : Ok K cc own nL d θ sx Fi Fl Fv) {q ci idx ml d2 : Nat} {ks : List (Option (Option Nat))} {y : MethodName} {bs : ByteArray} {rt : Option FieldType} {P : St → Prop} (hs : sx[q]? = some (.inr (.inl (ci, ks)))) (cv : CV own idx y bs ml rt 0 ci) (dg : decode cc pc = .ok (.invokevirtual idx, 3)) (hM : Ctv y bs ml rt d2 θ sx (.ref (sA θ q) :: []) S P) (hd : d2 + 1 ≤ d) (kk : ∀ S', P S' → K (pc + 3) lv st S') (hst : (st.map fun v => v.category).sum ≤ 8 := by (first | exact Nat.le_of_ble_eq_true rfl | decide)) : K pc lv (.ref (sA θ q) :: st) S := by
  obtain ⟨p, l, e, s, m, args, below, meth, c, Q, hx, hb, hml, hown, hts, hK, hJ, hE, ri, rl, rv, rfl⟩ := hC
  intro H locs ls hn hl hP hS
  obtain ⟨c1, c2, c3, c4, c5, c6, c7, c8, c9, T, N, c10⟩ := cv
  exact va_callv (va_runV (As := []) (rest := st) ⟨hx, hb, hml, hown, hts⟩ (hM l H.size) ⟨callB_of 0 hts (gTb c1) rfl rfl rfl (hts _ c5) (hts _ c2) ⟨c6, c7, c8⟩ (by constructor <;> (show _ ≤ _; simp only [rmD]; omega)), hts _ c3, hts _ c4⟩ ⟨PcW_blind, va_recv (D := sD θ) (cl := vwCl) hK hP c10 (GW_get hs), fun U hU hW => ⟨rfl, by rw [hU], by rw [hU]; exact hP, va_K.moved hW.alike hK, hJ, by rw [hU]; exact hE.go hS.2.1 (fun q h => h.elim Or.inl (fun z => Or.inr (Nat.le_trans hS.1 z))) hW⟩⟩ rfl rfl hl.1 rfl (lv_room hst) dg ⟨Nat.zero_le _, Nat.zero_le _⟩) hS (fun q h1 h2 => h2.elim Or.inl (fun z => absurd h1 (Nat.not_lt.mpr z))) (fun q h => h.elim Or.inl (fun z => Or.inr (Nat.le_trans hS.1 z))) (fun u t H1 locs1 ht hvm hw hB hz1 hk1 hS1 => kk u hw H1 locs1 ls hn hl (by rw [← ht]; exact hB) hS1)
theorem q_callvS0 (hC : Ok K cc own nL d θ sx Fi Fl Fv) {idx ml d2 : Nat} {y : MethodName} {bs : ByteArray} {rt : Option FieldType} {P : St → Prop} (cv : CSt own idx y bs ml rt 0) (dg : decode cc pc = .ok (.invokestatic idx, 3)) (hM : Ctv y bs ml rt d2 θ sx [] S P) (hd : d2 + 1 ≤ d) (kk : ∀ S', P S' → K (pc + 3) lv st S') (hst : (st.map fun v => v.category).sum ≤ 8 := by (first | exact Nat.le_of_ble_eq_true rfl | decide)) : K pc lv (st) S := by
  obtain ⟨p, l, e, s, m, args, below, meth, c, Q, hx, hb, hml, hown, hts, hK, hJ, hE, ri, rl, rv, rfl⟩ := hC
  intro H locs ls hn hl hP hS
  obtain ⟨c1, c2, c3, c5, c6, c7, c8, c9⟩ := cv
  exact va_callv (va_runS (As := []) (rest := st) ⟨hx, hb, hml, hown, hts⟩ (hM l H.size) ⟨callB_of 0 hts (gTb c1) rfl rfl rfl (hts _ c5) (hts _ c2) ⟨c6, c7, c8⟩ (by constructor <;> (show _ ≤ _; simp only [rmD]; omega)), hts _ c3⟩ ⟨PcW_blind, fun U hU hW => ⟨rfl, by rw [hU], by rw [hU]; exact hP, va_K.moved hW.alike hK, hJ, by rw [hU]; exact hE.go hS.2.1 (fun q h => h.elim Or.inl (fun z => Or.inr (Nat.le_trans hS.1 z))) hW⟩⟩ rfl rfl hl.1 rfl (lv_room hst) dg ⟨Nat.zero_le _, Nat.zero_le _⟩) hS (fun q h1 h2 => h2.elim Or.inl (fun z => absurd h1 (Nat.not_lt.mpr z))) (fun q h => h.elim Or.inl (fun z => Or.inr (Nat.le_trans hS.1 z))) (fun u t H1 locs1 ht hvm hw hB hz1 hk1 hS1 => kk u hw H1 locs1 ls hn hl (by rw [← ht]; exact hB) hS1)
theorem q_callvV1 (hC : Ok K cc own nL d θ sx Fi Fl Fv) {q ci idx ml d2 : Nat} {ks : List (Option (Option Nat))} {y : MethodName} {bs : ByteArray} {rt : Option FieldType} {v0 : Value} {P : St → Prop} (hs : sx[q]? = some (.inr (.inl (ci, ks)))) (cv : CV own idx y bs ml rt 1 ci) (dg : decode cc pc = .ok (.invokevirtual idx, 3)) (hM : Ctv y bs ml rt d2 θ sx (.ref (sA θ q) :: [v0]) S P) (hd : d2 + 1 ≤ d) (kk : ∀ S', P S' → K (pc + 3) lv st S') (hst : (st.map fun v => v.category).sum ≤ 8 := by (first | exact Nat.le_of_ble_eq_true rfl | decide)) : K pc lv (v0 :: .ref (sA θ q) :: st) S := by
  obtain ⟨p, l, e, s, m, args, below, meth, c, Q, hx, hb, hml, hown, hts, hK, hJ, hE, ri, rl, rv, rfl⟩ := hC
  intro H locs ls hn hl hP hS
  obtain ⟨c1, c2, c3, c4, c5, c6, c7, c8, c9, T, N, c10⟩ := cv
  exact va_callv (va_runV (As := [v0]) (rest := st) ⟨hx, hb, hml, hown, hts⟩ (hM l H.size) ⟨callB_of 1 hts (gTb c1) rfl rfl rfl (hts _ c5) (hts _ c2) ⟨c6, c7, c8⟩ (by constructor <;> (show _ ≤ _; simp only [rmD]; omega)), hts _ c3, hts _ c4⟩ ⟨PcW_blind, va_recv (D := sD θ) (cl := vwCl) hK hP c10 (GW_get hs), fun U hU hW => ⟨rfl, by rw [hU], by rw [hU]; exact hP, va_K.moved hW.alike hK, hJ, by rw [hU]; exact hE.go hS.2.1 (fun q h => h.elim Or.inl (fun z => Or.inr (Nat.le_trans hS.1 z))) hW⟩⟩ rfl rfl hl.1 rfl (lv_room hst) dg ⟨Nat.zero_le _, Nat.zero_le _⟩) hS (fun q h1 h2 => h2.elim Or.inl (fun z => absurd h1 (Nat.not_lt.mpr z))) (fun q h => h.elim Or.inl (fun z => Or.inr (Nat.le_trans hS.1 z))) (fun u t H1 locs1 ht hvm hw hB hz1 hk1 hS1 => kk u hw H1 locs1 ls hn hl (by rw [← ht]; exact hB) hS1)
theorem q_callvS1 (hC : Ok K cc own nL d θ sx Fi Fl Fv) {idx ml d2 : Nat} {y : MethodName} {bs : ByteArray} {rt : Option FieldType} {v0 : Value} {P : St → Prop} (cv : CSt own idx y bs ml rt 1) (dg : decode cc pc = .ok (.invokestatic idx, 3)) (hM : Ctv y bs ml rt d2 θ sx [v0] S P) (hd : d2 + 1 ≤ d) (kk : ∀ S', P S' → K (pc + 3) lv st S') (hst : (st.map fun v => v.category).sum ≤ 8 := by (first | exact Nat.le_of_ble_eq_true rfl | decide)) : K pc lv (v0 :: st) S := by
  obtain ⟨p, l, e, s, m, args, below, meth, c, Q, hx, hb, hml, hown, hts, hK, hJ, hE, ri, rl, rv, rfl⟩ := hC
  intro H locs ls hn hl hP hS
  obtain ⟨c1, c2, c3, c5, c6, c7, c8, c9⟩ := cv
  exact va_callv (va_runS (As := [v0]) (rest := st) ⟨hx, hb, hml, hown, hts⟩ (hM l H.size) ⟨callB_of 1 hts (gTb c1) rfl rfl rfl (hts _ c5) (hts _ c2) ⟨c6, c7, c8⟩ (by constructor <;> (show _ ≤ _; simp only [rmD]; omega)), hts _ c3⟩ ⟨PcW_blind, fun U hU hW => ⟨rfl, by rw [hU], by rw [hU]; exact hP, va_K.moved hW.alike hK, hJ, by rw [hU]; exact hE.go hS.2.1 (fun q h => h.elim Or.inl (fun z => Or.inr (Nat.le_trans hS.1 z))) hW⟩⟩ rfl rfl hl.1 rfl (lv_room hst) dg ⟨Nat.zero_le _, Nat.zero_le _⟩) hS (fun q h1 h2 => h2.elim Or.inl (fun z => absurd h1 (Nat.not_lt.mpr z))) (fun q h => h.elim Or.inl (fun z => Or.inr (Nat.le_trans hS.1 z))) (fun u t H1 locs1 ht hvm hw hB hz1 hk1 hS1 => kk u hw H1 locs1 ls hn hl (by rw [← ht]; exact hB) hS1)
theorem q_callvV2 (hC : Ok K cc own nL d θ sx Fi Fl Fv) {q ci idx ml d2 : Nat} {ks : List (Option (Option Nat))} {y : MethodName} {bs : ByteArray} {rt : Option FieldType} {v0 v1 : Value} {P : St → Prop} (hs : sx[q]? = some (.inr (.inl (ci, ks)))) (cv : CV own idx y bs ml rt 2 ci) (dg : decode cc pc = .ok (.invokevirtual idx, 3)) (hM : Ctv y bs ml rt d2 θ sx (.ref (sA θ q) :: [v0, v1]) S P) (hd : d2 + 1 ≤ d) (kk : ∀ S', P S' → K (pc + 3) lv st S') (hst : (st.map fun v => v.category).sum ≤ 8 := by (first | exact Nat.le_of_ble_eq_true rfl | decide)) : K pc lv (v1 :: v0 :: .ref (sA θ q) :: st) S := by
  obtain ⟨p, l, e, s, m, args, below, meth, c, Q, hx, hb, hml, hown, hts, hK, hJ, hE, ri, rl, rv, rfl⟩ := hC
  intro H locs ls hn hl hP hS
  obtain ⟨c1, c2, c3, c4, c5, c6, c7, c8, c9, T, N, c10⟩ := cv
  exact va_callv (va_runV (As := [v0, v1]) (rest := st) ⟨hx, hb, hml, hown, hts⟩ (hM l H.size) ⟨callB_of 2 hts (gTb c1) rfl rfl rfl (hts _ c5) (hts _ c2) ⟨c6, c7, c8⟩ (by constructor <;> (show _ ≤ _; simp only [rmD]; omega)), hts _ c3, hts _ c4⟩ ⟨PcW_blind, va_recv (D := sD θ) (cl := vwCl) hK hP c10 (GW_get hs), fun U hU hW => ⟨rfl, by rw [hU], by rw [hU]; exact hP, va_K.moved hW.alike hK, hJ, by rw [hU]; exact hE.go hS.2.1 (fun q h => h.elim Or.inl (fun z => Or.inr (Nat.le_trans hS.1 z))) hW⟩⟩ rfl rfl hl.1 rfl (lv_room hst) dg ⟨Nat.zero_le _, Nat.zero_le _⟩) hS (fun q h1 h2 => h2.elim Or.inl (fun z => absurd h1 (Nat.not_lt.mpr z))) (fun q h => h.elim Or.inl (fun z => Or.inr (Nat.le_trans hS.1 z))) (fun u t H1 locs1 ht hvm hw hB hz1 hk1 hS1 => kk u hw H1 locs1 ls hn hl (by rw [← ht]; exact hB) hS1)
theorem q_callvS2 (hC : Ok K cc own nL d θ sx Fi Fl Fv) {idx ml d2 : Nat} {y : MethodName} {bs : ByteArray} {rt : Option FieldType} {v0 v1 : Value} {P : St → Prop} (cv : CSt own idx y bs ml rt 2) (dg : decode cc pc = .ok (.invokestatic idx, 3)) (hM : Ctv y bs ml rt d2 θ sx [v0, v1] S P) (hd : d2 + 1 ≤ d) (kk : ∀ S', P S' → K (pc + 3) lv st S') (hst : (st.map fun v => v.category).sum ≤ 8 := by (first | exact Nat.le_of_ble_eq_true rfl | decide)) : K pc lv (v1 :: v0 :: st) S := by
  obtain ⟨p, l, e, s, m, args, below, meth, c, Q, hx, hb, hml, hown, hts, hK, hJ, hE, ri, rl, rv, rfl⟩ := hC
  intro H locs ls hn hl hP hS
  obtain ⟨c1, c2, c3, c5, c6, c7, c8, c9⟩ := cv
  exact va_callv (va_runS (As := [v0, v1]) (rest := st) ⟨hx, hb, hml, hown, hts⟩ (hM l H.size) ⟨callB_of 2 hts (gTb c1) rfl rfl rfl (hts _ c5) (hts _ c2) ⟨c6, c7, c8⟩ (by constructor <;> (show _ ≤ _; simp only [rmD]; omega)), hts _ c3⟩ ⟨PcW_blind, fun U hU hW => ⟨rfl, by rw [hU], by rw [hU]; exact hP, va_K.moved hW.alike hK, hJ, by rw [hU]; exact hE.go hS.2.1 (fun q h => h.elim Or.inl (fun z => Or.inr (Nat.le_trans hS.1 z))) hW⟩⟩ rfl rfl hl.1 rfl (lv_room hst) dg ⟨Nat.zero_le _, Nat.zero_le _⟩) hS (fun q h1 h2 => h2.elim Or.inl (fun z => absurd h1 (Nat.not_lt.mpr z))) (fun q h => h.elim Or.inl (fun z => Or.inr (Nat.le_trans hS.1 z))) (fun u t H1 locs1 ht hvm hw hB hz1 hk1 hS1 => kk u hw H1 locs1 ls hn hl (by rw [← ht]; exact hB) hS1)
theorem q_callvV3 (hC : Ok K cc own nL d θ sx Fi Fl Fv) {q ci idx ml d2 : Nat} {ks : List (Option (Option Nat))} {y : MethodName} {bs : ByteArray} {rt : Option FieldType} {v0 v1 v2 : Value} {P : St → Prop} (hs : sx[q]? = some (.inr (.inl (ci, ks)))) (cv : CV own idx y bs ml rt 3 ci) (dg : decode cc pc = .ok (.invokevirtual idx, 3)) (hM : Ctv y bs ml rt d2 θ sx (.ref (sA θ q) :: [v0, v1, v2]) S P) (hd : d2 + 1 ≤ d) (kk : ∀ S', P S' → K (pc + 3) lv st S') (hst : (st.map fun v => v.category).sum ≤ 8 := by (first | exact Nat.le_of_ble_eq_true rfl | decide)) : K pc lv (v2 :: v1 :: v0 :: .ref (sA θ q) :: st) S := by
  obtain ⟨p, l, e, s, m, args, below, meth, c, Q, hx, hb, hml, hown, hts, hK, hJ, hE, ri, rl, rv, rfl⟩ := hC
  intro H locs ls hn hl hP hS
  obtain ⟨c1, c2, c3, c4, c5, c6, c7, c8, c9, T, N, c10⟩ := cv
  exact va_callv (va_runV (As := [v0, v1, v2]) (rest := st) ⟨hx, hb, hml, hown, hts⟩ (hM l H.size) ⟨callB_of 3 hts (gTb c1) rfl rfl rfl (hts _ c5) (hts _ c2) ⟨c6, c7, c8⟩ (by constructor <;> (show _ ≤ _; simp only [rmD]; omega)), hts _ c3, hts _ c4⟩ ⟨PcW_blind, va_recv (D := sD θ) (cl := vwCl) hK hP c10 (GW_get hs), fun U hU hW => ⟨rfl, by rw [hU], by rw [hU]; exact hP, va_K.moved hW.alike hK, hJ, by rw [hU]; exact hE.go hS.2.1 (fun q h => h.elim Or.inl (fun z => Or.inr (Nat.le_trans hS.1 z))) hW⟩⟩ rfl rfl hl.1 rfl (lv_room hst) dg ⟨Nat.zero_le _, Nat.zero_le _⟩) hS (fun q h1 h2 => h2.elim Or.inl (fun z => absurd h1 (Nat.not_lt.mpr z))) (fun q h => h.elim Or.inl (fun z => Or.inr (Nat.le_trans hS.1 z))) (fun u t H1 locs1 ht hvm hw hB hz1 hk1 hS1 => kk u hw H1 locs1 ls hn hl (by rw [← ht]; exact hB) hS1)
theorem q_callvS3 (hC : Ok K cc own nL d θ sx Fi Fl Fv) {idx ml d2 : Nat} {y : MethodName} {bs : ByteArray} {rt : Option FieldType} {v0 v1 v2 : Value} {P : St → Prop} (cv : CSt own idx y bs ml rt 3) (dg : decode cc pc = .ok (.invokestatic idx, 3)) (hM : Ctv y bs ml rt d2 θ sx [v0, v1, v2] S P) (hd : d2 + 1 ≤ d) (kk : ∀ S', P S' → K (pc + 3) lv st S') (hst : (st.map fun v => v.category).sum ≤ 8 := by (first | exact Nat.le_of_ble_eq_true rfl | decide)) : K pc lv (v2 :: v1 :: v0 :: st) S := by
  obtain ⟨p, l, e, s, m, args, below, meth, c, Q, hx, hb, hml, hown, hts, hK, hJ, hE, ri, rl, rv, rfl⟩ := hC
  intro H locs ls hn hl hP hS
  obtain ⟨c1, c2, c3, c5, c6, c7, c8, c9⟩ := cv
  exact va_callv (va_runS (As := [v0, v1, v2]) (rest := st) ⟨hx, hb, hml, hown, hts⟩ (hM l H.size) ⟨callB_of 3 hts (gTb c1) rfl rfl rfl (hts _ c5) (hts _ c2) ⟨c6, c7, c8⟩ (by constructor <;> (show _ ≤ _; simp only [rmD]; omega)), hts _ c3⟩ ⟨PcW_blind, fun U hU hW => ⟨rfl, by rw [hU], by rw [hU]; exact hP, va_K.moved hW.alike hK, hJ, by rw [hU]; exact hE.go hS.2.1 (fun q h => h.elim Or.inl (fun z => Or.inr (Nat.le_trans hS.1 z))) hW⟩⟩ rfl rfl hl.1 rfl (lv_room hst) dg ⟨Nat.zero_le _, Nat.zero_le _⟩) hS (fun q h1 h2 => h2.elim Or.inl (fun z => absurd h1 (Nat.not_lt.mpr z))) (fun q h => h.elim Or.inl (fun z => Or.inr (Nat.le_trans hS.1 z))) (fun u t H1 locs1 ht hvm hw hB hz1 hk1 hS1 => kk u hw H1 locs1 ls hn hl (by rw [← ht]; exact hB) hS1)
theorem q_callvV4 (hC : Ok K cc own nL d θ sx Fi Fl Fv) {q ci idx ml d2 : Nat} {ks : List (Option (Option Nat))} {y : MethodName} {bs : ByteArray} {rt : Option FieldType} {v0 v1 v2 v3 : Value} {P : St → Prop} (hs : sx[q]? = some (.inr (.inl (ci, ks)))) (cv : CV own idx y bs ml rt 4 ci) (dg : decode cc pc = .ok (.invokevirtual idx, 3)) (hM : Ctv y bs ml rt d2 θ sx (.ref (sA θ q) :: [v0, v1, v2, v3]) S P) (hd : d2 + 1 ≤ d) (kk : ∀ S', P S' → K (pc + 3) lv st S') (hst : (st.map fun v => v.category).sum ≤ 8 := by (first | exact Nat.le_of_ble_eq_true rfl | decide)) : K pc lv (v3 :: v2 :: v1 :: v0 :: .ref (sA θ q) :: st) S := by
  obtain ⟨p, l, e, s, m, args, below, meth, c, Q, hx, hb, hml, hown, hts, hK, hJ, hE, ri, rl, rv, rfl⟩ := hC
  intro H locs ls hn hl hP hS
  obtain ⟨c1, c2, c3, c4, c5, c6, c7, c8, c9, T, N, c10⟩ := cv
  exact va_callv (va_runV (As := [v0, v1, v2, v3]) (rest := st) ⟨hx, hb, hml, hown, hts⟩ (hM l H.size) ⟨callB_of 4 hts (gTb c1) rfl rfl rfl (hts _ c5) (hts _ c2) ⟨c6, c7, c8⟩ (by constructor <;> (show _ ≤ _; simp only [rmD]; omega)), hts _ c3, hts _ c4⟩ ⟨PcW_blind, va_recv (D := sD θ) (cl := vwCl) hK hP c10 (GW_get hs), fun U hU hW => ⟨rfl, by rw [hU], by rw [hU]; exact hP, va_K.moved hW.alike hK, hJ, by rw [hU]; exact hE.go hS.2.1 (fun q h => h.elim Or.inl (fun z => Or.inr (Nat.le_trans hS.1 z))) hW⟩⟩ rfl rfl hl.1 rfl (lv_room hst) dg ⟨Nat.zero_le _, Nat.zero_le _⟩) hS (fun q h1 h2 => h2.elim Or.inl (fun z => absurd h1 (Nat.not_lt.mpr z))) (fun q h => h.elim Or.inl (fun z => Or.inr (Nat.le_trans hS.1 z))) (fun u t H1 locs1 ht hvm hw hB hz1 hk1 hS1 => kk u hw H1 locs1 ls hn hl (by rw [← ht]; exact hB) hS1)
theorem q_callvS4 (hC : Ok K cc own nL d θ sx Fi Fl Fv) {idx ml d2 : Nat} {y : MethodName} {bs : ByteArray} {rt : Option FieldType} {v0 v1 v2 v3 : Value} {P : St → Prop} (cv : CSt own idx y bs ml rt 4) (dg : decode cc pc = .ok (.invokestatic idx, 3)) (hM : Ctv y bs ml rt d2 θ sx [v0, v1, v2, v3] S P) (hd : d2 + 1 ≤ d) (kk : ∀ S', P S' → K (pc + 3) lv st S') (hst : (st.map fun v => v.category).sum ≤ 8 := by (first | exact Nat.le_of_ble_eq_true rfl | decide)) : K pc lv (v3 :: v2 :: v1 :: v0 :: st) S := by
  obtain ⟨p, l, e, s, m, args, below, meth, c, Q, hx, hb, hml, hown, hts, hK, hJ, hE, ri, rl, rv, rfl⟩ := hC
  intro H locs ls hn hl hP hS
  obtain ⟨c1, c2, c3, c5, c6, c7, c8, c9⟩ := cv
  exact va_callv (va_runS (As := [v0, v1, v2, v3]) (rest := st) ⟨hx, hb, hml, hown, hts⟩ (hM l H.size) ⟨callB_of 4 hts (gTb c1) rfl rfl rfl (hts _ c5) (hts _ c2) ⟨c6, c7, c8⟩ (by constructor <;> (show _ ≤ _; simp only [rmD]; omega)), hts _ c3⟩ ⟨PcW_blind, fun U hU hW => ⟨rfl, by rw [hU], by rw [hU]; exact hP, va_K.moved hW.alike hK, hJ, by rw [hU]; exact hE.go hS.2.1 (fun q h => h.elim Or.inl (fun z => Or.inr (Nat.le_trans hS.1 z))) hW⟩⟩ rfl rfl hl.1 rfl (lv_room hst) dg ⟨Nat.zero_le _, Nat.zero_le _⟩) hS (fun q h1 h2 => h2.elim Or.inl (fun z => absurd h1 (Nat.not_lt.mpr z))) (fun q h => h.elim Or.inl (fun z => Or.inr (Nat.le_trans hS.1 z))) (fun u t H1 locs1 ht hvm hw hB hz1 hk1 hS1 => kk u hw H1 locs1 ls hn hl (by rw [← ht]; exact hB) hS1)
/-- fewer locals are known -/
theorem q_weak {K : KT} {cc : ByteArray} {own : String} {nL d : Nat} {θ : Site} {sx : List Shp} {Fi : Int32 → St → Prop} {Fl : Int64 → St → Prop} {Fv : St → Prop} (hC : Ok K cc own nL d θ sx Fi Fl Fv) {lv lv' : LV} (hs : ∀ (i : Nat) (v : Value), lv'[i]? = some (some v) → lv[i]? = some (some v)) (hL : lv'.length = lv.length) (k : K pc lv' st S) : K pc lv st S := by
  obtain ⟨p, l, e, s, m, args, below, meth, c, Q, hx, hb, hml, hown, hts, hK, hJ, hE, ri, rl, rv, rfl⟩ := hC
  intro H locs ls hn hl hP hS
  exact k H locs ls (by omega) (lv_weak hl hs) hP hS
end RUL
end
section
theorem mT1 {w : Cond} (i : Nat) (h : tables_1_1[i]? = some w) (hg : goodWord w = true) : w ∈ lwT := by
  have h1 := List.mem_of_getElem? h
  exact List.mem_filter.mpr ⟨List.mem_append_right _ (List.mem_append_left _ h1), hg⟩
theorem mT2 {w : Cond} (i : Nat) (h : tables_1_2[i]? = some w) (hg : goodWord w = true) : w ∈ lwT := by
  have h1 := List.mem_of_getElem? h
  exact List.mem_filter.mpr ⟨List.mem_append_right _ (List.mem_append_right _ (List.mem_append_left _ h1)), hg⟩
theorem mT3 {w : Cond} (i : Nat) (h : tables_1_3[i]? = some w) (hg : goodWord w = true) : w ∈ lwT := by
  have h1 := List.mem_of_getElem? h
  exact List.mem_filter.mpr ⟨List.mem_append_right _ (List.mem_append_right _ (List.mem_append_right _ (List.mem_append_left _ h1))), hg⟩
theorem mT4 {w : Cond} (i : Nat) (h : tables_1_4[i]? = some w) (hg : goodWord w = true) : w ∈ lwT := by
  have h1 := List.mem_of_getElem? h
  exact List.mem_filter.mpr ⟨List.mem_append_right _ (List.mem_append_right _ (List.mem_append_right _ (List.mem_append_right _ (List.mem_append_left _ h1)))), hg⟩
theorem mT5 {w : Cond} (i : Nat) (h : tables_1_5[i]? = some w) (hg : goodWord w = true) : w ∈ lwT := by
  have h1 := List.mem_of_getElem? h
  exact List.mem_filter.mpr ⟨List.mem_append_right _ (List.mem_append_right _ (List.mem_append_right _ (List.mem_append_right _ (List.mem_append_right _ h1)))), hg⟩
theorem mTp1 {y : MethodName} {n : Nat} (i : Nat) (h : lw_privs_1[i]? = some (y, n)) : Cond.selects y.cls y y ∈ lwT := by
  have h1 := List.mem_of_getElem? h
  have h2 : (y, n) ∈ lw_privs := List.mem_append_left _ h1
  exact List.mem_filter.mpr ⟨List.mem_append_left _ (List.mem_map.mpr ⟨(y, n), h2, rfl⟩), rfl⟩
theorem mTp2 {y : MethodName} {n : Nat} (i : Nat) (h : lw_privs_2[i]? = some (y, n)) : Cond.selects y.cls y y ∈ lwT := by
  have h1 := List.mem_of_getElem? h
  have h2 : (y, n) ∈ lw_privs := List.mem_append_right _ (List.mem_append_left _ h1)
  exact List.mem_filter.mpr ⟨List.mem_append_left _ (List.mem_map.mpr ⟨(y, n), h2, rfl⟩), rfl⟩
theorem mTp3 {y : MethodName} {n : Nat} (i : Nat) (h : lw_privs_3[i]? = some (y, n)) : Cond.selects y.cls y y ∈ lwT := by
  have h1 := List.mem_of_getElem? h
  have h2 : (y, n) ∈ lw_privs := List.mem_append_right _ (List.mem_append_right _ (List.mem_append_left _ h1))
  exact List.mem_filter.mpr ⟨List.mem_append_left _ (List.mem_map.mpr ⟨(y, n), h2, rfl⟩), rfl⟩
theorem mTp4 {y : MethodName} {n : Nat} (i : Nat) (h : lw_privs_4[i]? = some (y, n)) : Cond.selects y.cls y y ∈ lwT := by
  have h1 := List.mem_of_getElem? h
  have h2 : (y, n) ∈ lw_privs := List.mem_append_right _ (List.mem_append_right _ (List.mem_append_right _ h1))
  exact List.mem_filter.mpr ⟨List.mem_append_left _ (List.mem_map.mpr ⟨(y, n), h2, rfl⟩), rfl⟩
theorem flX7_9 : FL RX7 9 7 0 := ⟨RX7, TX7, 2, rfl, by decide, mT1 34 rfl rfl, rfl⟩
theorem flX4_102 : FL RX4 102 7 0 := ⟨RX7, TX7, 2, rfl, by decide, mT1 35 rfl rfl, rfl⟩
theorem flX7_15 : FL RX7 15 7 1 := ⟨RX7, TX7, 2, rfl, by decide, mT1 36 rfl rfl, rfl⟩
theorem fpX7_15 : FP RX7 15 7 1 .int := ⟨flX7_15, fun C T N h => by cases h; exact ⟨rfl, by decide +kernel⟩⟩
theorem flX9_96 : FL RX9 96 7 1 := ⟨RX7, TX7, 2, rfl, by decide, mT1 37 rfl rfl, rfl⟩
theorem fpX9_96 : FP RX9 96 7 1 .int := ⟨flX9_96, fun C T N h => by cases h; exact ⟨rfl, by decide +kernel⟩⟩
theorem flX4_97 : FL RX4 97 7 1 := ⟨RX7, TX7, 2, rfl, by decide, mT1 38 rfl rfl, rfl⟩
theorem fpX4_97 : FP RX4 97 7 1 .int := ⟨flX4_97, fun C T N h => by cases h; exact ⟨rfl, by decide +kernel⟩⟩
theorem flX5_9 : FL RX5 9 5 0 := ⟨RX5, TX5, 8, rfl, by decide, mT1 51 rfl rfl, rfl⟩
theorem fpX5_9 : FP RX5 9 5 0 .int := ⟨flX5_9, fun C T N h => by cases h; exact ⟨rfl, by decide +kernel⟩⟩
theorem flX1_23 : FL RX1 23 5 0 := ⟨RX5, TX5, 8, rfl, by decide, mT1 52 rfl rfl, rfl⟩
theorem fpX1_23 : FP RX1 23 5 0 .int := ⟨flX1_23, fun C T N h => by cases h; exact ⟨rfl, by decide +kernel⟩⟩
theorem flX2_32 : FL RX2 32 5 0 := ⟨RX5, TX5, 8, rfl, by decide, mT1 53 rfl rfl, rfl⟩
theorem fpX2_32 : FP RX2 32 5 0 .int := ⟨flX2_32, fun C T N h => by cases h; exact ⟨rfl, by decide +kernel⟩⟩
theorem flX6_28 : FL RX6 28 5 0 := ⟨RX5, TX5, 8, rfl, by decide, mT1 54 rfl rfl, rfl⟩
theorem fpX6_28 : FP RX6 28 5 0 .int := ⟨flX6_28, fun C T N h => by cases h; exact ⟨rfl, by decide +kernel⟩⟩
theorem flX4_63 : FL RX4 63 5 0 := ⟨RX5, TX5, 8, rfl, by decide, mT1 55 rfl rfl, rfl⟩
theorem fpX4_63 : FP RX4 63 5 0 .int := ⟨flX4_63, fun C T N h => by cases h; exact ⟨rfl, by decide +kernel⟩⟩
theorem flX8_44 : FL RX8 44 5 0 := ⟨RX5, TX5, 8, rfl, by decide, mT1 56 rfl rfl, rfl⟩
theorem fpX8_44 : FP RX8 44 5 0 .int := ⟨flX8_44, fun C T N h => by cases h; exact ⟨rfl, by decide +kernel⟩⟩
theorem flX0_73 : FL RX0 73 5 0 := ⟨RX5, TX5, 8, rfl, by decide, mT1 57 rfl rfl, rfl⟩
theorem fpX0_73 : FP RX0 73 5 0 .int := ⟨flX0_73, fun C T N h => by cases h; exact ⟨rfl, by decide +kernel⟩⟩
theorem flX9_229 : FL RX9 229 5 0 := ⟨RX5, TX5, 8, rfl, by decide, mT1 58 rfl rfl, rfl⟩
theorem fpX9_229 : FP RX9 229 5 0 .int := ⟨flX9_229, fun C T N h => by cases h; exact ⟨rfl, by decide +kernel⟩⟩
theorem flX5_15 : FL RX5 15 5 1 := ⟨RX5, TX5, 8, rfl, by decide, mT1 59 rfl rfl, rfl⟩
theorem flX9_122 : FL RX9 122 5 1 := ⟨RX5, TX5, 8, rfl, by decide, mT1 60 rfl rfl, rfl⟩
theorem flX8_56 : FL RX8 56 5 1 := ⟨RX5, TX5, 8, rfl, by decide, mT1 61 rfl rfl, rfl⟩
theorem flX5_19 : FL RX5 19 5 2 := ⟨RX5, TX5, 8, rfl, by decide, mT1 62 rfl rfl, rfl⟩
theorem flX9_126 : FL RX9 126 5 2 := ⟨RX5, TX5, 8, rfl, by decide, mT1 63 rfl rfl, rfl⟩
theorem flX8_59 : FL RX8 59 5 2 := ⟨RX5, TX5, 8, rfl, by decide, mT1 64 rfl rfl, rfl⟩
theorem flX5_22 : FL RX5 22 5 3 := ⟨RX5, TX5, 8, rfl, by decide, mT1 65 rfl rfl, rfl⟩
theorem flX9_129 : FL RX9 129 5 3 := ⟨RX5, TX5, 8, rfl, by decide, mT1 66 rfl rfl, rfl⟩
theorem flX8_70 : FL RX8 70 5 3 := ⟨RX5, TX5, 8, rfl, by decide, mT1 67 rfl rfl, rfl⟩
theorem flX5_25 : FL RX5 25 5 4 := ⟨RX5, TX5, 8, rfl, by decide, mT1 68 rfl rfl, rfl⟩
theorem fpX5_25 : FP RX5 25 5 4 .int := ⟨flX5_25, fun C T N h => by cases h; exact ⟨rfl, by decide +kernel⟩⟩
theorem flX6_44 : FL RX6 44 5 4 := ⟨RX5, TX5, 8, rfl, by decide, mT1 69 rfl rfl, rfl⟩
theorem fpX6_44 : FP RX6 44 5 4 .int := ⟨flX6_44, fun C T N h => by cases h; exact ⟨rfl, by decide +kernel⟩⟩
theorem flX4_77 : FL RX4 77 5 4 := ⟨RX5, TX5, 8, rfl, by decide, mT1 70 rfl rfl, rfl⟩
theorem fpX4_77 : FP RX4 77 5 4 .int := ⟨flX4_77, fun C T N h => by cases h; exact ⟨rfl, by decide +kernel⟩⟩
theorem flX0_58 : FL RX0 58 5 4 := ⟨RX5, TX5, 8, rfl, by decide, mT1 71 rfl rfl, rfl⟩
theorem fpX0_58 : FP RX0 58 5 4 .int := ⟨flX0_58, fun C T N h => by cases h; exact ⟨rfl, by decide +kernel⟩⟩
theorem flX9_188 : FL RX9 188 5 4 := ⟨RX5, TX5, 8, rfl, by decide, mT1 72 rfl rfl, rfl⟩
theorem fpX9_188 : FP RX9 188 5 4 .int := ⟨flX9_188, fun C T N h => by cases h; exact ⟨rfl, by decide +kernel⟩⟩
theorem flX5_28 : FL RX5 28 5 5 := ⟨RX5, TX5, 8, rfl, by decide, mT1 73 rfl rfl, rfl⟩
theorem flX8_32 : FL RX8 32 5 5 := ⟨RX5, TX5, 8, rfl, by decide, mT1 74 rfl rfl, rfl⟩
theorem flX9_144 : FL RX9 144 5 5 := ⟨RX5, TX5, 8, rfl, by decide, mT1 75 rfl rfl, rfl⟩
theorem flX5_31 : FL RX5 31 5 6 := ⟨RX5, TX5, 8, rfl, by decide, mT1 76 rfl rfl, rfl⟩
theorem flX9_147 : FL RX9 147 5 6 := ⟨RX5, TX5, 8, rfl, by decide, mT1 77 rfl rfl, rfl⟩
theorem flX8_53 : FL RX8 53 5 6 := ⟨RX5, TX5, 8, rfl, by decide, mT1 78 rfl rfl, rfl⟩
theorem flX5_34 : FL RX5 34 5 7 := ⟨RX5, TX5, 8, rfl, by decide, mT1 79 rfl rfl, rfl⟩
theorem flX8_41 : FL RX8 41 5 7 := ⟨RX5, TX5, 8, rfl, by decide, mT1 80 rfl rfl, rfl⟩
theorem flX0_88 : FL RX0 88 5 7 := ⟨RX5, TX5, 8, rfl, by decide, mT1 81 rfl rfl, rfl⟩
theorem flX9_150 : FL RX9 150 5 7 := ⟨RX5, TX5, 8, rfl, by decide, mT1 82 rfl rfl, rfl⟩
theorem flX3_9 : FL RX3 9 3 0 := ⟨RX3, TX3, 5, rfl, by decide, mT1 110 rfl rfl, rfl⟩
theorem flX4_87 : FL RX4 87 3 0 := ⟨RX3, TX3, 5, rfl, by decide, mT1 111 rfl rfl, rfl⟩
theorem flX9_132 : FL RX9 132 3 0 := ⟨RX3, TX3, 5, rfl, by decide, mT1 112 rfl rfl, rfl⟩
theorem flX3_15 : FL RX3 15 3 1 := ⟨RX3, TX3, 5, rfl, by decide, mT1 113 rfl rfl, rfl⟩
theorem flX2_38 : FL RX2 38 3 1 := ⟨RX3, TX3, 5, rfl, by decide, mT1 114 rfl rfl, rfl⟩
theorem flX9_138 : FL RX9 138 3 1 := ⟨RX3, TX3, 5, rfl, by decide, mT1 115 rfl rfl, rfl⟩
theorem flX4_94 : FL RX4 94 3 1 := ⟨RX3, TX3, 5, rfl, by decide, mT1 116 rfl rfl, rfl⟩
theorem flX3_18 : FL RX3 18 3 2 := ⟨RX3, TX3, 5, rfl, by decide, mT1 117 rfl rfl, rfl⟩
theorem fpX3_18 : FP RX3 18 3 2 .int := ⟨flX3_18, fun C T N h => by cases h; exact ⟨rfl, by decide +kernel⟩⟩
theorem flX9_135 : FL RX9 135 3 2 := ⟨RX3, TX3, 5, rfl, by decide, mT1 118 rfl rfl, rfl⟩
theorem fpX9_135 : FP RX9 135 3 2 .int := ⟨flX9_135, fun C T N h => by cases h; exact ⟨rfl, by decide +kernel⟩⟩
theorem flX3_22 : FL RX3 22 3 3 := ⟨RX3, TX3, 5, rfl, by decide, mT1 119 rfl rfl, rfl⟩
theorem fpX3_22 : FP RX3 22 3 3 .int := ⟨flX3_22, fun C T N h => by cases h; exact ⟨rfl, by decide +kernel⟩⟩
theorem flX9_232 : FL RX9 232 3 3 := ⟨RX3, TX3, 5, rfl, by decide, mT1 120 rfl rfl, rfl⟩
theorem fpX9_232 : FP RX9 232 3 3 .int := ⟨flX9_232, fun C T N h => by cases h; exact ⟨rfl, by decide +kernel⟩⟩
theorem flX3_25 : FL RX3 25 3 4 := ⟨RX3, TX3, 5, rfl, by decide, mT1 121 rfl rfl, rfl⟩
theorem flX6_51 : FL RX6 51 3 4 := ⟨RX3, TX3, 5, rfl, by decide, mT1 122 rfl rfl, rfl⟩
theorem flX9_235 : FL RX9 235 3 4 := ⟨RX3, TX3, 5, rfl, by decide, mT1 123 rfl rfl, rfl⟩
theorem flX4_24 : FL RX4 24 4 0 := ⟨RX4, TX4, 7, rfl, by decide, mT1 141 rfl rfl, rfl⟩
theorem flX4_28 : FL RX4 28 4 1 := ⟨RX4, TX4, 7, rfl, by decide, mT1 142 rfl rfl, rfl⟩
theorem flX4_32 : FL RX4 32 4 2 := ⟨RX4, TX4, 7, rfl, by decide, mT1 143 rfl rfl, rfl⟩
theorem flX4_9 : FL RX4 9 4 3 := ⟨RX4, TX4, 7, rfl, by decide, mT1 144 rfl rfl, rfl⟩
theorem fpX4_9 : FP RX4 9 4 3 .int := ⟨flX4_9, fun C T N h => by cases h; exact ⟨rfl, by decide +kernel⟩⟩
theorem flX4_15 : FL RX4 15 4 4 := ⟨RX4, TX4, 7, rfl, by decide, mT1 145 rfl rfl, rfl⟩
theorem fpX4_15 : FP RX4 15 4 4 .int := ⟨flX4_15, fun C T N h => by cases h; exact ⟨rfl, by decide +kernel⟩⟩
theorem flX4_18 : FL RX4 18 4 5 := ⟨RX4, TX4, 7, rfl, by decide, mT1 146 rfl rfl, rfl⟩
theorem fpX4_18 : FP RX4 18 4 5 .int := ⟨flX4_18, fun C T N h => by cases h; exact ⟨rfl, by decide +kernel⟩⟩
theorem flX4_21 : FL RX4 21 4 6 := ⟨RX4, TX4, 7, rfl, by decide, mT1 147 rfl rfl, rfl⟩
theorem fpX4_21 : FP RX4 21 4 6 .int := ⟨flX4_21, fun C T N h => by cases h; exact ⟨rfl, by decide +kernel⟩⟩
theorem flX8_18 : FL RX8 18 8 0 := ⟨RX8, TX8, 3, rfl, by decide, mT1 170 rfl rfl, rfl⟩
theorem flX8_9 : FL RX8 9 8 1 := ⟨RX8, TX8, 3, rfl, by decide, mT1 171 rfl rfl, rfl⟩
theorem flX8_15 : FL RX8 15 8 2 := ⟨RX8, TX8, 3, rfl, by decide, mT1 172 rfl rfl, rfl⟩
theorem flX0_32 : FL RX0 32 0 0 := ⟨RX0, TX0, 8, rfl, by decide, mT1 188 rfl rfl, rfl⟩
theorem flX0_36 : FL RX0 36 0 1 := ⟨RX0, TX0, 8, rfl, by decide, mT1 189 rfl rfl, rfl⟩
theorem flX0_11 : FL RX0 11 0 2 := ⟨RX0, TX0, 8, rfl, by decide, mT1 190 rfl rfl, rfl⟩
theorem fpX0_11 : FP RX0 11 0 2 .int := ⟨flX0_11, fun C T N h => by cases h; exact ⟨rfl, by decide +kernel⟩⟩
theorem flX0_15 : FL RX0 15 0 3 := ⟨RX0, TX0, 8, rfl, by decide, mT1 191 rfl rfl, rfl⟩
theorem fpX0_15 : FP RX0 15 0 3 .int := ⟨flX0_15, fun C T N h => by cases h; exact ⟨rfl, by decide +kernel⟩⟩
theorem flX0_19 : FL RX0 19 0 4 := ⟨RX0, TX0, 8, rfl, by decide, mT1 192 rfl rfl, rfl⟩
theorem fpX0_19 : FP RX0 19 0 4 .int := ⟨flX0_19, fun C T N h => by cases h; exact ⟨rfl, by decide +kernel⟩⟩
theorem flX9_271 : FL RX9 271 0 4 := ⟨RX0, TX0, 8, rfl, by decide, mT1 193 rfl rfl, rfl⟩
theorem fpX9_271 : FP RX9 271 0 4 .int := ⟨flX9_271, fun C T N h => by cases h; exact ⟨rfl, by decide +kernel⟩⟩
theorem flX0_22 : FL RX0 22 0 5 := ⟨RX0, TX0, 8, rfl, by decide, mT1 194 rfl rfl, rfl⟩
theorem flX9_274 : FL RX9 274 0 5 := ⟨RX0, TX0, 8, rfl, by decide, mT1 195 rfl rfl, rfl⟩
theorem flX0_26 : FL RX0 26 0 6 := ⟨RX0, TX0, 8, rfl, by decide, mT1 196 rfl rfl, rfl⟩
theorem flX0_29 : FL RX0 29 0 7 := ⟨RX0, TX0, 8, rfl, by decide, mT1 197 rfl rfl, rfl⟩
theorem flX1_15 : FL RX1 15 1 0 := ⟨RX1, TX1, 3, rfl, by decide, mT1 221 rfl rfl, rfl⟩
theorem flX1_19 : FL RX1 19 1 1 := ⟨RX1, TX1, 3, rfl, by decide, mT1 222 rfl rfl, rfl⟩
theorem flX1_9 : FL RX1 9 1 2 := ⟨RX1, TX1, 3, rfl, by decide, mT1 223 rfl rfl, rfl⟩
theorem flX2_18 : FL RX2 18 2 0 := ⟨RX2, TX2, 4, rfl, by decide, mT1 237 rfl rfl, rfl⟩
theorem flX2_22 : FL RX2 22 2 1 := ⟨RX2, TX2, 4, rfl, by decide, mT1 238 rfl rfl, rfl⟩
theorem flX2_9 : FL RX2 9 2 2 := ⟨RX2, TX2, 4, rfl, by decide, mT1 239 rfl rfl, rfl⟩
theorem fpX2_9 : FP RX2 9 2 2 .long := ⟨flX2_9, fun C T N h => by cases h; exact ⟨rfl, by decide +kernel⟩⟩
theorem flX9_223 : FL RX9 223 2 2 := ⟨RX2, TX2, 4, rfl, by decide, mT2 0 rfl rfl, rfl⟩
theorem fpX9_223 : FP RX9 223 2 2 .long := ⟨flX9_223, fun C T N h => by cases h; exact ⟨rfl, by decide +kernel⟩⟩
theorem flX2_15 : FL RX2 15 2 3 := ⟨RX2, TX2, 4, rfl, by decide, mT2 1 rfl rfl, rfl⟩
theorem fpX2_15 : FP RX2 15 2 3 .long := ⟨flX2_15, fun C T N h => by cases h; exact ⟨rfl, by decide +kernel⟩⟩
theorem flX9_226 : FL RX9 226 2 3 := ⟨RX2, TX2, 4, rfl, by decide, mT2 2 rfl rfl, rfl⟩
theorem fpX9_226 : FP RX9 226 2 3 .long := ⟨flX9_226, fun C T N h => by cases h; exact ⟨rfl, by decide +kernel⟩⟩
theorem flX6_18 : FL RX6 18 6 0 := ⟨RX6, TX6, 3, rfl, by decide, mT2 18 rfl rfl, rfl⟩
theorem flX6_9 : FL RX6 9 6 1 := ⟨RX6, TX6, 3, rfl, by decide, mT2 19 rfl rfl, rfl⟩
theorem flX6_15 : FL RX6 15 6 2 := ⟨RX6, TX6, 3, rfl, by decide, mT2 20 rfl rfl, rfl⟩
theorem flX9_10 : FL RX9 10 9 0 := ⟨RX9, TX9, 14, rfl, by decide, mT2 28 rfl rfl, rfl⟩
theorem flX9_41 : FL RX9 41 9 1 := ⟨RX9, TX9, 14, rfl, by decide, mT2 29 rfl rfl, rfl⟩
theorem flX9_19 : FL RX9 19 9 2 := ⟨RX9, TX9, 14, rfl, by decide, mT2 30 rfl rfl, rfl⟩
theorem flX9_23 : FL RX9 23 9 3 := ⟨RX9, TX9, 14, rfl, by decide, mT2 31 rfl rfl, rfl⟩
theorem flX9_29 : FL RX9 29 9 4 := ⟨RX9, TX9, 14, rfl, by decide, mT2 32 rfl rfl, rfl⟩
theorem flX9_33 : FL RX9 33 9 5 := ⟨RX9, TX9, 14, rfl, by decide, mT2 33 rfl rfl, rfl⟩
theorem flX9_45 : FL RX9 45 9 6 := ⟨RX9, TX9, 14, rfl, by decide, mT2 34 rfl rfl, rfl⟩
theorem flX9_49 : FL RX9 49 9 7 := ⟨RX9, TX9, 14, rfl, by decide, mT2 35 rfl rfl, rfl⟩
theorem flX9_58 : FL RX9 58 9 8 := ⟨RX9, TX9, 14, rfl, by decide, mT2 36 rfl rfl, rfl⟩
theorem flX9_67 : FL RX9 67 9 9 := ⟨RX9, TX9, 14, rfl, by decide, mT2 37 rfl rfl, rfl⟩
theorem flX9_74 : FL RX9 74 9 10 := ⟨RX9, TX9, 14, rfl, by decide, mT2 38 rfl rfl, rfl⟩
theorem flX9_81 : FL RX9 81 9 11 := ⟨RX9, TX9, 14, rfl, by decide, mT2 39 rfl rfl, rfl⟩
theorem flX9_88 : FL RX9 88 9 12 := ⟨RX9, TX9, 14, rfl, by decide, mT2 40 rfl rfl, rfl⟩
theorem flX9_92 : FL RX9 92 9 13 := ⟨RX9, TX9, 14, rfl, by decide, mT2 41 rfl rfl, rfl⟩
theorem fpX9_92 : FP RX9 92 9 13 .long := ⟨flX9_92, fun C T N h => by cases h; exact ⟨rfl, by decide +kernel⟩⟩
theorem flX10_7 : FL RX10 7 10 0 := ⟨RX10, TX10, 30, rfl, by decide, mT4 87 rfl rfl, rfl⟩
theorem flX10_80 : FL RX10 80 10 1 := ⟨RX10, TX10, 30, rfl, by decide, mT4 88 rfl rfl, rfl⟩
theorem fpX10_80 : FP RX10 80 10 1 .int := ⟨flX10_80, fun C T N h => by cases h; exact ⟨rfl, by decide +kernel⟩⟩
theorem flX10_67 : FL RX10 67 10 2 := ⟨RX10, TX10, 30, rfl, by decide, mT4 89 rfl rfl, rfl⟩
theorem fpX10_67 : FP RX10 67 10 2 .int := ⟨flX10_67, fun C T N h => by cases h; exact ⟨rfl, by decide +kernel⟩⟩
theorem flX10_13 : FL RX10 13 10 3 := ⟨RX10, TX10, 30, rfl, by decide, mT4 90 rfl rfl, rfl⟩
theorem flX10_16 : FL RX10 16 10 4 := ⟨RX10, TX10, 30, rfl, by decide, mT4 91 rfl rfl, rfl⟩
theorem flX10_19 : FL RX10 19 10 5 := ⟨RX10, TX10, 30, rfl, by decide, mT4 92 rfl rfl, rfl⟩
theorem flX10_75 : FL RX10 75 10 6 := ⟨RX10, TX10, 30, rfl, by decide, mT4 93 rfl rfl, rfl⟩
theorem fpX10_75 : FP RX10 75 10 6 .int := ⟨flX10_75, fun C T N h => by cases h; exact ⟨rfl, by decide +kernel⟩⟩
theorem flX10_22 : FL RX10 22 10 7 := ⟨RX10, TX10, 30, rfl, by decide, mT4 94 rfl rfl, rfl⟩
theorem flX10_25 : FL RX10 25 10 8 := ⟨RX10, TX10, 30, rfl, by decide, mT4 95 rfl rfl, rfl⟩
theorem flX10_28 : FL RX10 28 10 9 := ⟨RX10, TX10, 30, rfl, by decide, mT4 96 rfl rfl, rfl⟩
theorem flX10_31 : FL RX10 31 10 10 := ⟨RX10, TX10, 30, rfl, by decide, mT4 97 rfl rfl, rfl⟩
theorem flX10_34 : FL RX10 34 10 11 := ⟨RX10, TX10, 30, rfl, by decide, mT4 98 rfl rfl, rfl⟩
theorem flX10_158 : FL RX10 158 10 12 := ⟨RX10, TX10, 30, rfl, by decide, mT4 99 rfl rfl, rfl⟩
theorem fpX10_158 : FP RX10 158 10 12 .int := ⟨flX10_158, fun C T N h => by cases h; exact ⟨rfl, by decide +kernel⟩⟩
theorem flX10_37 : FL RX10 37 10 13 := ⟨RX10, TX10, 30, rfl, by decide, mT4 100 rfl rfl, rfl⟩
theorem flX10_40 : FL RX10 40 10 14 := ⟨RX10, TX10, 30, rfl, by decide, mT4 101 rfl rfl, rfl⟩
theorem flX10_43 : FL RX10 43 10 15 := ⟨RX10, TX10, 30, rfl, by decide, mT4 102 rfl rfl, rfl⟩
theorem flX10_227 : FL RX10 227 10 16 := ⟨RX10, TX10, 30, rfl, by decide, mT4 103 rfl rfl, rfl⟩
theorem fpX10_227 : FP RX10 227 10 16 .long := ⟨flX10_227, fun C T N h => by cases h; exact ⟨rfl, by decide +kernel⟩⟩
theorem flX10_85 : FL RX10 85 10 17 := ⟨RX10, TX10, 30, rfl, by decide, mT4 104 rfl rfl, rfl⟩
theorem fpX10_85 : FP RX10 85 10 17 .int := ⟨flX10_85, fun C T N h => by cases h; exact ⟨rfl, by decide +kernel⟩⟩
theorem flX10_88 : FL RX10 88 10 18 := ⟨RX10, TX10, 30, rfl, by decide, mT4 105 rfl rfl, rfl⟩
theorem fpX10_88 : FP RX10 88 10 18 .int := ⟨flX10_88, fun C T N h => by cases h; exact ⟨rfl, by decide +kernel⟩⟩
theorem flX10_102 : FL RX10 102 10 19 := ⟨RX10, TX10, 30, rfl, by decide, mT4 106 rfl rfl, rfl⟩
theorem fpX10_102 : FP RX10 102 10 19 .int := ⟨flX10_102, fun C T N h => by cases h; exact ⟨rfl, by decide +kernel⟩⟩
theorem flX10_91 : FL RX10 91 10 20 := ⟨RX10, TX10, 30, rfl, by decide, mT4 107 rfl rfl, rfl⟩
theorem fpX10_91 : FP RX10 91 10 20 .long := ⟨flX10_91, fun C T N h => by cases h; exact ⟨rfl, by decide +kernel⟩⟩
theorem flX10_120 : FL RX10 120 10 21 := ⟨RX10, TX10, 30, rfl, by decide, mT4 108 rfl rfl, rfl⟩
theorem fpX10_120 : FP RX10 120 10 21 .int := ⟨flX10_120, fun C T N h => by cases h; exact ⟨rfl, by decide +kernel⟩⟩
theorem flX10_131 : FL RX10 131 10 22 := ⟨RX10, TX10, 30, rfl, by decide, mT4 109 rfl rfl, rfl⟩
theorem fpX10_131 : FP RX10 131 10 22 .int := ⟨flX10_131, fun C T N h => by cases h; exact ⟨rfl, by decide +kernel⟩⟩
theorem flX10_46 : FL RX10 46 10 23 := ⟨RX10, TX10, 30, rfl, by decide, mT4 110 rfl rfl, rfl⟩
theorem flX10_49 : FL RX10 49 10 24 := ⟨RX10, TX10, 30, rfl, by decide, mT4 111 rfl rfl, rfl⟩
theorem flX10_52 : FL RX10 52 10 25 := ⟨RX10, TX10, 30, rfl, by decide, mT4 112 rfl rfl, rfl⟩
theorem flX10_55 : FL RX10 55 10 26 := ⟨RX10, TX10, 30, rfl, by decide, mT4 113 rfl rfl, rfl⟩
theorem flX10_58 : FL RX10 58 10 27 := ⟨RX10, TX10, 30, rfl, by decide, mT4 114 rfl rfl, rfl⟩
theorem flX10_61 : FL RX10 61 10 28 := ⟨RX10, TX10, 30, rfl, by decide, mT4 115 rfl rfl, rfl⟩
theorem flX10_64 : FL RX10 64 10 29 := ⟨RX10, TX10, 30, rfl, by decide, mT4 116 rfl rfl, rfl⟩
theorem cwX9_init : Cond.code yX9_init cX9_init 2 none ∈ lwT := mT1 24 rfl rfl
theorem cwX7_init : Cond.code yX7_init cX7_init 1 none ∈ lwT := mT1 32 rfl rfl
theorem cwX5_init : Cond.code yX5_init cX5_init 1 none ∈ lwT := mT1 49 rfl rfl
theorem cwX3_init : Cond.code yX3_init cX3_init 1 none ∈ lwT := mT1 105 rfl rfl
theorem cwJ7_fill_53178 : Cond.code yJ7_fill_53178 cJ7_fill_53178 4 none ∈ lwT := mT1 109 rfl rfl
theorem cwX4_init : Cond.code yX4_init cX4_init 4 none ∈ lwT := mT1 139 rfl rfl
theorem cwX8_init : Cond.code yX8_init cX8_init 2 none ∈ lwT := mT1 168 rfl rfl
theorem cwX0_init : Cond.code yX0_init cX0_init 3 none ∈ lwT := mT1 185 rfl rfl
theorem cwX1_init : Cond.code yX1_init cX1_init 3 none ∈ lwT := mT1 219 rfl rfl
theorem cwX2_init : Cond.code yX2_init cX2_init 3 none ∈ lwT := mT1 235 rfl rfl
theorem cwX6_init : Cond.code yX6_init cX6_init 2 none ∈ lwT := mT2 16 rfl rfl
theorem cwX9_type : Cond.code yX9_type cX9_type 4 (some .int) ∈ lwT := mT2 74 rfl rfl
theorem cwX7_append : Cond.code yX7_append cX7_append 5 none ∈ lwT := mT2 78 rfl rfl
theorem cwX9_clear : Cond.code yX9_clear cX9_clear 2 (some .int) ∈ lwT := mT2 82 rfl rfl
theorem cwX9_town : Cond.code yX9_town cX9_town 3 (some .int) ∈ lwT := mT2 86 rfl rfl
theorem cwX4_readAll : Cond.code yX4_readAll cX4_readAll 3 (some .int) ∈ lwT := mT2 90 rfl rfl
theorem cwX5_empty : Cond.code yX5_empty cX5_empty 1 none ∈ lwT := mT2 94 rfl rfl
theorem cwX3_empty : Cond.code yX3_empty cX3_empty 1 none ∈ lwT := mT2 98 rfl rfl
theorem cwX3_unsee : Cond.code yX3_unsee cX3_unsee 1 none ∈ lwT := mT2 102 rfl rfl
theorem cwX4_nextToken : Cond.code yX4_nextToken cX4_nextToken 1 none ∈ lwT := mT2 106 rfl rfl
theorem cwX4_isLetter : Cond.code yX4_isLetter cX4_isLetter 1 (some .boolean) ∈ lwT := mT2 109 rfl rfl
theorem cwX4_takeWord : Cond.code yX4_takeWord cX4_takeWord 1 none ∈ lwT := mT2 113 rfl rfl
theorem cwX4_spells : Cond.code yX4_spells cX4_spells 3 (some .boolean) ∈ lwT := mT2 118 rfl rfl
theorem cwJ0_length_8abf5 : Cond.code yJ0_length_8abf5 cJ0_length_8abf5 1 (some .int) ∈ lwT := mT2 122 rfl rfl
theorem cwJ0_coder_7d493 : Cond.code yJ0_coder_7d493 cJ0_coder_7d493 1 (some .byte) ∈ lwT := mT2 126 rfl rfl
theorem cwJ0_charAt_5068e : Cond.code yJ0_charAt_5068e cJ0_charAt_5068e 2 (some .char) ∈ lwT := mT2 132 rfl rfl
theorem cwJ0_isLatin1_aae02 : Cond.code yJ0_isLatin1_aae02 cJ0_isLatin1_aae02 1 (some .boolean) ∈ lwT := mT2 136 rfl rfl
theorem cwJ1_charAt_3b067 : Cond.code yJ1_charAt_3b067 cJ1_charAt_3b067 2 (some .char) ∈ lwT := mT2 139 rfl rfl
theorem cwJ0_checkIndex_df160 : Cond.code yJ0_checkIndex_df160 cJ0_checkIndex_df160 2 none ∈ lwT := mT2 142 rfl rfl
theorem cwJ3_checkIndex_8e157 : Cond.code yJ3_checkIndex_8e157 cJ3_checkIndex_8e157 3 (some .int) ∈ lwT := mT2 147 rfl rfl
theorem cwJ2_charAt_3b067 : Cond.code yJ2_charAt_3b067 cJ2_charAt_3b067 2 (some .char) ∈ lwT := mT2 150 rfl rfl
theorem cwJ2_checkIndex_2214a : Cond.code yJ2_checkIndex_2214a cJ2_checkIndex_2214a 2 none ∈ lwT := mT2 153 rfl rfl
theorem cwJ2_length_9d52b : Cond.code yJ2_length_9d52b cJ2_length_9d52b 1 (some .int) ∈ lwT := mT2 156 rfl rfl
theorem cwJ2_getChar_3b067 : Cond.code yJ2_getChar_3b067 cJ2_getChar_3b067 2 (some .char) ∈ lwT := mT2 160 rfl rfl
theorem cwX4_isDigit : Cond.code yX4_isDigit cX4_isDigit 1 (some .boolean) ∈ lwT := mT2 173 rfl rfl
theorem cwX4_takeNumber : Cond.code yX4_takeNumber cX4_takeNumber 2 none ∈ lwT := mT2 177 rfl rfl
theorem cwJ9_min_7cf53 : Cond.code yJ9_min_7cf53 cJ9_min_7cf53 2 (some .int) ∈ lwT := mT2 180 rfl rfl
theorem cwX4_readPiece : Cond.code yX4_readPiece cX4_readPiece 4 (some .boolean) ∈ lwT := mT2 184 rfl rfl
theorem cwX4_number : Cond.code yX4_number cX4_number 2 (some .int) ∈ lwT := mT2 188 rfl rfl
theorem cwX4_stops : Cond.code yX4_stops cX4_stops 1 (some .boolean) ∈ lwT := mT2 192 rfl rfl
theorem cwX5_addPiece : Cond.code yX5_addPiece cX5_addPiece 4 none ∈ lwT := mT2 196 rfl rfl
theorem cwX4_readFamily : Cond.code yX4_readFamily cX4_readFamily 4 (some .boolean) ∈ lwT := mT2 200 rfl rfl
theorem cwX5_addFamily : Cond.code yX5_addFamily cX5_addFamily 4 none ∈ lwT := mT2 204 rfl rfl
theorem cwX4_readPaved : Cond.code yX4_readPaved cX4_readPaved 3 (some .boolean) ∈ lwT := mT2 208 rfl rfl
theorem cwX3_makeNoStone : Cond.code yX3_makeNoStone cX3_makeNoStone 2 none ∈ lwT := mT2 212 rfl rfl
theorem cwX4_readStone : Cond.code yX4_readStone cX4_readStone 2 (some .boolean) ∈ lwT := mT2 216 rfl rfl
theorem cwX3_makeStone : Cond.code yX3_makeStone cX3_makeStone 2 none ∈ lwT := mT2 220 rfl rfl
theorem cwX4_readFlood : Cond.code yX4_readFlood cX4_readFlood 3 (some .boolean) ∈ lwT := mT2 224 rfl rfl
theorem cwX5_become : Cond.code yX5_become cX5_become 2 none ∈ lwT := mT2 228 rfl rfl
theorem cwX3_become : Cond.code yX3_become cX3_become 2 none ∈ lwT := mT2 235 rfl rfl
theorem cwX8_startAnew : Cond.code yX8_startAnew cX8_startAnew 1 none ∈ lwT := mT3 0 rfl rfl
theorem cwX0_startAnew : Cond.code yX0_startAnew cX0_startAnew 1 none ∈ lwT := mT3 5 rfl rfl
theorem cwX9_piece : Cond.code yX9_piece cX9_piece 3 (some .int) ∈ lwT := mT3 9 rfl rfl
theorem cwX9_isPiece : Cond.code yX9_isPiece cX9_isPiece 2 (some .boolean) ∈ lwT := mT3 13 rfl rfl
theorem cwX9_family : Cond.code yX9_family cX9_family 3 (some .int) ∈ lwT := mT3 17 rfl rfl
theorem cwX9_isFamily : Cond.code yX9_isFamily cX9_isFamily 2 (some .boolean) ∈ lwT := mT3 21 rfl rfl
theorem cwX3_ownedBy : Cond.code yX3_ownedBy cX3_ownedBy 2 (some .int) ∈ lwT := mT3 25 rfl rfl
theorem cwX3_ownedIn : Cond.code yX3_ownedIn cX3_ownedIn 4 (some .int) ∈ lwT := mT3 28 rfl rfl
theorem cwJ6_bitCount_0f7a4 : Cond.code yJ6_bitCount_0f7a4 cJ6_bitCount_0f7a4 1 (some .int) ∈ lwT := mT3 31 rfl rfl
theorem cwX9_pave : Cond.code yX9_pave cX9_pave 4 (some .int) ∈ lwT := mT3 38 rfl rfl
theorem cwX3_isStone : Cond.code yX3_isStone cX3_isStone 2 (some .boolean) ∈ lwT := mT3 42 rfl rfl
theorem cwX9_free : Cond.code yX9_free cX9_free 3 (some .int) ∈ lwT := mT3 46 rfl rfl
theorem cwX9_stone : Cond.code yX9_stone cX9_stone 4 (some .int) ∈ lwT := mT3 50 rfl rfl
theorem cwX9_flood : Cond.code yX9_flood cX9_flood 4 (some .int) ∈ lwT := mT3 56 rfl rfl
theorem cwX9_way : Cond.code yX9_way cX9_way 2 (some .int) ∈ lwT := mT3 60 rfl rfl
theorem cwX9_wayNow : Cond.code yX9_wayNow cX9_wayNow 2 (some .int) ∈ lwT := mT3 64 rfl rfl
theorem cwX8_yards : Cond.code yX8_yards cX8_yards 4 (some .int) ∈ lwT := mT3 68 rfl rfl
theorem cwX8_measure : Cond.code yX8_measure cX8_measure 6 none ∈ lwT := mT3 72 rfl rfl
theorem cwX8_leg : Cond.code yX8_leg cX8_leg 2 (some .int) ∈ lwT := mT3 77 rfl rfl
theorem cwX8_shorten : Cond.code yX8_shorten cX8_shorten 4 (some .boolean) ∈ lwT := mT3 81 rfl rfl
theorem cwX9_orNone : Cond.code yX9_orNone cX9_orNone 1 (some .int) ∈ lwT := mT3 84 rfl rfl
theorem cwX9_place : Cond.code yX9_place cX9_place 3 (some .int) ∈ lwT := mT3 89 rfl rfl
theorem cwX8_placeOnWay : Cond.code yX8_placeOnWay cX8_placeOnWay 6 (some .int) ∈ lwT := mT3 93 rfl rfl
theorem cwX8_nextPlace : Cond.code yX8_nextPlace cX8_nextPlace 6 (some .int) ∈ lwT := mT3 97 rfl rfl
theorem cwX8_otherEnd : Cond.code yX8_otherEnd cX8_otherEnd 3 (some .int) ∈ lwT := mT3 101 rfl rfl
theorem cwX9_pole : Cond.code yX9_pole cX9_pole 4 (some .int) ∈ lwT := mT3 106 rfl rfl
theorem cwX5_widerThan : Cond.code yX5_widerThan cX5_widerThan 4 (some .int) ∈ lwT := mT3 110 rfl rfl
theorem cwX9_judge : Cond.code yX9_judge cX9_judge 7 (some .int) ∈ lwT := mT3 114 rfl rfl
theorem cwJ9_max_7cf53 : Cond.code yJ9_max_7cf53 cJ9_max_7cf53 2 (some .int) ∈ lwT := mT3 117 rfl rfl
theorem cwX9_one : Cond.code yX9_one cX9_one 3 (some .int) ∈ lwT := mT3 121 rfl rfl
theorem cwX0_seek : Cond.code yX0_seek cX0_seek 4 none ∈ lwT := mT3 125 rfl rfl
theorem cwX0_tryFamily : Cond.code yX0_tryFamily cX0_tryFamily 7 none ∈ lwT := mT3 129 rfl rfl
theorem cwX0_take : Cond.code yX0_take cX0_take 2 none ∈ lwT := mT3 133 rfl rfl
theorem cwX0_worthWith : Cond.code yX0_worthWith cX0_worthWith 4 (some .int) ∈ lwT := mT3 138 rfl rfl
theorem cwX0_costsOfNone : Cond.code yX0_costsOfNone cX0_costsOfNone 3 (some .int) ∈ lwT := mT3 145 rfl rfl
theorem cwX8_cost : Cond.code yX8_cost cX8_cost 3 (some .int) ∈ lwT := mT3 149 rfl rfl
theorem cwX0_tryPiece : Cond.code yX0_tryPiece cX0_tryPiece 6 none ∈ lwT := mT3 154 rfl rfl
theorem cwX9_chosen : Cond.code yX9_chosen cX9_chosen 2 (some .int) ∈ lwT := mT3 158 rfl rfl
theorem cwX9_all : Cond.code yX9_all cX9_all 2 (some .int) ∈ lwT := mT3 162 rfl rfl
theorem cwX9_change : Cond.code yX9_change cX9_change 1 (some .int) ∈ lwT := mT3 166 rfl rfl
theorem cwX1_firstOf : Cond.code yX1_firstOf cX1_firstOf 5 (some .int) ∈ lwT := mT3 170 rfl rfl
theorem cwX1_gains : Cond.code yX1_gains cX1_gains 7 (some .boolean) ∈ lwT := mT3 174 rfl rfl
theorem cwX9_rest : Cond.code yX9_rest cX9_rest 1 (some .int) ∈ lwT := mT3 180 rfl rfl
theorem cwX1_numberOf : Cond.code yX1_numberOf cX1_numberOf 4 (some .int) ∈ lwT := mT3 184 rfl rfl
theorem cwX1_exchange : Cond.code yX1_exchange cX1_exchange 4 none ∈ lwT := mT3 190 rfl rfl
theorem cwX9_match : Cond.code yX9_match cX9_match 6 (some .int) ∈ lwT := mT3 194 rfl rfl
theorem cwX9_always : Cond.code yX9_always cX9_always 3 (some .int) ∈ lwT := mT3 199 rfl rfl
theorem cwX8_neededBy : Cond.code yX8_neededBy cX8_neededBy 4 (some .int) ∈ lwT := mT3 203 rfl rfl
theorem cwX9_shut : Cond.code yX9_shut cX9_shut 3 (some .long) ∈ lwT := mT3 208 rfl rfl
theorem cwX2_reckon : Cond.code yX2_reckon cX2_reckon 7 none ∈ lwT := mT3 213 rfl rfl
theorem cwX2_chanceOf : Cond.code yX2_chanceOf cX2_chanceOf 6 (some .long) ∈ lwT := mT3 218 rfl rfl
theorem cwX2_reduce : Cond.code yX2_reduce cX2_reduce 2 none ∈ lwT := mT3 225 rfl rfl
theorem cwX2_divideBoth : Cond.code yX2_divideBoth cX2_divideBoth 2 none ∈ lwT := mT3 229 rfl rfl
theorem cwX9_saw : Cond.code yX9_saw cX9_saw 3 (some .int) ∈ lwT := mT3 233 rfl rfl
theorem cwX9_forget : Cond.code yX9_forget cX9_forget 2 (some .int) ∈ lwT := mT3 237 rfl rfl
theorem cwX9_fits : Cond.code yX9_fits cX9_fits 1 (some .int) ∈ lwT := mT4 2 rfl rfl
theorem cwX6_waysOf : Cond.code yX6_waysOf cX6_waysOf 5 (some .int) ∈ lwT := mT4 6 rfl rfl
theorem cwX6_addPiece : Cond.code yX6_addPiece cX6_addPiece 7 none ∈ lwT := mT4 12 rfl rfl
theorem cwX9_who : Cond.code yX9_who cX9_who 2 (some .int) ∈ lwT := mT4 17 rfl rfl
theorem cwX6_onlyOwner : Cond.code yX6_onlyOwner cX6_onlyOwner 5 (some .int) ∈ lwT := mT4 21 rfl rfl
theorem cwX9_mark : Cond.code yX9_mark cX9_mark 3 (some .int) ∈ lwT := mT4 26 rfl rfl
theorem cwX9_asFamily : Cond.code yX9_asFamily cX9_asFamily 2 (some .int) ∈ lwT := mT4 31 rfl rfl
theorem cwX9_asWidow : Cond.code yX9_asWidow cX9_asWidow 2 (some .int) ∈ lwT := mT4 35 rfl rfl
theorem cwX9_asMason : Cond.code yX9_asMason cX9_asMason 3 (some .int) ∈ lwT := mT4 40 rfl rfl
theorem cwX9_asHeir : Cond.code yX9_asHeir cX9_asHeir 2 (some .int) ∈ lwT := mT4 45 rfl rfl
theorem cwX9_asHired : Cond.code yX9_asHired cX9_asHired 2 (some .int) ∈ lwT := mT4 50 rfl rfl
theorem cwX5_yardsOf : Cond.code yX5_yardsOf cX5_yardsOf 4 (some .int) ∈ lwT := mT4 55 rfl rfl
theorem cwX9_asBachelor : Cond.code yX9_asBachelor cX9_asBachelor 2 (some .int) ∈ lwT := mT4 59 rfl rfl
theorem cwX9_keep : Cond.code yX9_keep cX9_keep 2 (some .int) ∈ lwT := mT4 64 rfl rfl
theorem cwX3_ownedPieces : Cond.code yX3_ownedPieces cX3_ownedPieces 3 (some .int) ∈ lwT := mT4 68 rfl rfl
theorem cwX9_back : Cond.code yX9_back cX9_back 2 (some .int) ∈ lwT := mT4 72 rfl rfl
theorem cwX9_count : Cond.code yX9_count cX9_count 2 (some .int) ∈ lwT := mT4 76 rfl rfl
theorem cwX9_trace : Cond.code yX9_trace cX9_trace 1 (some .long) ∈ lwT := mT4 80 rfl rfl
theorem cwX10_init : Cond.code yX10_init cX10_init 1 none ∈ lwT := mT4 85 rfl rfl
theorem cwX10_type : Cond.code yX10_type cX10_type 5 (some .int) ∈ lwT := mT4 181 rfl rfl
theorem cwX10_in : Cond.code yX10_in cX10_in 6 (some .boolean) ∈ lwT := mT4 185 rfl rfl
theorem cwX10_clear : Cond.code yX10_clear cX10_clear 2 (some .int) ∈ lwT := mT4 190 rfl rfl
theorem cwX10_town : Cond.code yX10_town cX10_town 3 (some .int) ∈ lwT := mT4 194 rfl rfl
theorem cwX10_takesAll : Cond.code yX10_takesAll cX10_takesAll 5 (some .int) ∈ lwT := mT4 198 rfl rfl
theorem cwX10_next : Cond.code yX10_next cX10_next 2 none ∈ lwT := mT4 202 rfl rfl
theorem cwX10_isLetter : Cond.code yX10_isLetter cX10_isLetter 1 (some .boolean) ∈ lwT := mT4 205 rfl rfl
theorem cwX10_isFigure : Cond.code yX10_isFigure cX10_isFigure 1 (some .boolean) ∈ lwT := mT4 208 rfl rfl
theorem cwX10_takesPiece : Cond.code yX10_takesPiece cX10_takesPiece 2 (some .boolean) ∈ lwT := mT4 219 rfl rfl
theorem cwX10_takes : Cond.code yX10_takes cX10_takes 3 (some .boolean) ∈ lwT := mT4 223 rfl rfl
theorem cwX10_stops : Cond.code yX10_stops cX10_stops 1 (some .boolean) ∈ lwT := mT4 227 rfl rfl
theorem cwX10_takesFamily : Cond.code yX10_takesFamily cX10_takesFamily 2 (some .boolean) ∈ lwT := mT4 232 rfl rfl
theorem cwX10_takesTold : Cond.code yX10_takesTold cX10_takesTold 4 (some .boolean) ∈ lwT := mT4 239 rfl rfl
theorem cwX10_piece : Cond.code yX10_piece cX10_piece 3 (some .int) ∈ lwT := mT5 3 rfl rfl
theorem cwX10_isPiece : Cond.code yX10_isPiece cX10_isPiece 2 (some .boolean) ∈ lwT := mT5 7 rfl rfl
theorem cwX10_ownerOf : Cond.code yX10_ownerOf cX10_ownerOf 2 (some .int) ∈ lwT := mT5 12 rfl rfl
theorem cwX10_isStone : Cond.code yX10_isStone cX10_isStone 2 (some .boolean) ∈ lwT := mT5 16 rfl rfl
theorem cwX10_family : Cond.code yX10_family cX10_family 3 (some .int) ∈ lwT := mT5 20 rfl rfl
theorem cwX10_isFamily : Cond.code yX10_isFamily cX10_isFamily 2 (some .boolean) ∈ lwT := mT5 24 rfl rfl
theorem cwX10_ownBy : Cond.code yX10_ownBy cX10_ownBy 5 (some .int) ∈ lwT := mT5 29 rfl rfl
theorem cwX10_many : Cond.code yX10_many cX10_many 3 (some .int) ∈ lwT := mT5 32 rfl rfl
theorem cwX10_pave : Cond.code yX10_pave cX10_pave 4 (some .int) ∈ lwT := mT5 36 rfl rfl
theorem cwX10_free : Cond.code yX10_free cX10_free 3 (some .int) ∈ lwT := mT5 40 rfl rfl
theorem cwX10_stone : Cond.code yX10_stone cX10_stone 4 (some .int) ∈ lwT := mT5 44 rfl rfl
theorem cwX10_flood : Cond.code yX10_flood cX10_flood 4 (some .int) ∈ lwT := mT5 48 rfl rfl
theorem cwX10_way : Cond.code yX10_way cX10_way 2 (some .int) ∈ lwT := mT5 53 rfl rfl
theorem cwX10_wayOf : Cond.code yX10_wayOf cX10_wayOf 3 (some .int) ∈ lwT := mT5 57 rfl rfl
theorem cwX10_measures : Cond.code yX10_measures cX10_measures 6 none ∈ lwT := mT5 61 rfl rfl
theorem cwX10_place : Cond.code yX10_place cX10_place 10 (some .int) ∈ lwT := mT5 66 rfl rfl
theorem cwX10_pole : Cond.code yX10_pole cX10_pole 5 (some .int) ∈ lwT := mT5 70 rfl rfl
theorem cwX10_judge : Cond.code yX10_judge cX10_judge 7 (some .int) ∈ lwT := mT5 75 rfl rfl
theorem cwX10_one : Cond.code yX10_one cX10_one 4 (some .int) ∈ lwT := mT5 80 rfl rfl
theorem cwX10_bestOfOne : Cond.code yX10_bestOfOne cX10_bestOfOne 12 (some .int) ∈ lwT := mT5 84 rfl rfl
theorem cwX10_tells : Cond.code yX10_tells cX10_tells 3 none ∈ lwT := mT5 88 rfl rfl
theorem cwX10_all : Cond.code yX10_all cX10_all 8 (some .int) ∈ lwT := mT5 92 rfl rfl
theorem cwX10_rowsOfAll : Cond.code yX10_rowsOfAll cX10_rowsOfAll 3 (some .int) ∈ lwT := mT5 96 rfl rfl
theorem cwX10_lays : Cond.code yX10_lays cX10_lays 4 none ∈ lwT := mT5 100 rfl rfl
theorem cwX10_change : Cond.code yX10_change cX10_change 1 (some .int) ∈ lwT := mT5 104 rfl rfl
theorem cwX10_changeBy : Cond.code yX10_changeBy cX10_changeBy 9 (some .int) ∈ lwT := mT5 108 rfl rfl
theorem cwX10_costBy : Cond.code yX10_costBy cX10_costBy 4 (some .int) ∈ lwT := mT5 112 rfl rfl
theorem cwX10_isLess : Cond.code yX10_isLess cX10_isLess 2 (some .boolean) ∈ lwT := mT5 115 rfl rfl
theorem cwX10_rest : Cond.code yX10_rest cX10_rest 4 (some .int) ∈ lwT := mT5 119 rfl rfl
theorem cwX10_match : Cond.code yX10_match cX10_match 6 (some .int) ∈ lwT := mT5 123 rfl rfl
theorem cwX10_always : Cond.code yX10_always cX10_always 4 (some .int) ∈ lwT := mT5 127 rfl rfl
theorem cwX10_shut : Cond.code yX10_shut cX10_shut 14 (some .long) ∈ lwT := mT5 131 rfl rfl
theorem cwX10_saw : Cond.code yX10_saw cX10_saw 3 (some .int) ∈ lwT := mT5 135 rfl rfl
theorem cwX10_forget : Cond.code yX10_forget cX10_forget 2 (some .int) ∈ lwT := mT5 139 rfl rfl
theorem cwX10_fits : Cond.code yX10_fits cX10_fits 1 (some .int) ∈ lwT := mT5 143 rfl rfl
theorem cwX10_paves : Cond.code yX10_paves cX10_paves 7 (some .int) ∈ lwT := mT5 147 rfl rfl
theorem cwX10_who : Cond.code yX10_who cX10_who 4 (some .int) ∈ lwT := mT5 151 rfl rfl
theorem cwX10_mark : Cond.code yX10_mark cX10_mark 8 (some .int) ∈ lwT := mT5 155 rfl rfl
theorem cwX10_keep : Cond.code yX10_keep cX10_keep 4 (some .int) ∈ lwT := mT5 165 rfl rfl
theorem cwX10_owned : Cond.code yX10_owned cX10_owned 3 (some .int) ∈ lwT := mT5 169 rfl rfl
theorem cwX10_back : Cond.code yX10_back cX10_back 4 (some .int) ∈ lwT := mT5 173 rfl rfl
theorem cwX10_count : Cond.code yX10_count cX10_count 2 (some .int) ∈ lwT := mT5 177 rfl rfl
theorem cwX10_trace : Cond.code yX10_trace cX10_trace 1 (some .long) ∈ lwT := mT5 181 rfl rfl
theorem csX3_28 : CSt RX3 28 yJ7_fill_53178 cJ7_fill_53178 4 none 2 := ⟨cwJ7_fill_53178, mT1 107 rfl rfl, mT1 108 rfl rfl, mT1 5 rfl rfl, by decide +kernel, by decide +kernel, by decide +kernel, by decide⟩
theorem cvL_15 : CV RL 15 yX9_type cX9_type 4 (some .int) 2 9 := ⟨cwX9_type, mT2 71 rfl rfl, mT2 72 rfl rfl, mT2 73 rfl rfl, mT1 1 rfl rfl, by decide +kernel, by decide +kernel, by decide +kernel, by decide, TX9, 14, rfl⟩
theorem cvX9_100 : CV RX9 100 yX7_append cX7_append 5 none 2 7 := ⟨cwX7_append, mT2 75 rfl rfl, mT2 76 rfl rfl, mT2 77 rfl rfl, mT1 2 rfl rfl, by decide +kernel, by decide +kernel, by decide +kernel, by decide, TX7, 2, rfl⟩
theorem cvL_20 : CV RL 20 yX9_clear cX9_clear 2 (some .int) 0 9 := ⟨cwX9_clear, mT2 79 rfl rfl, mT2 80 rfl rfl, mT2 81 rfl rfl, mT1 1 rfl rfl, by decide +kernel, by decide +kernel, by decide +kernel, by decide, TX9, 14, rfl⟩
theorem cvL_25 : CV RL 25 yX9_town cX9_town 3 (some .int) 0 9 := ⟨cwX9_town, mT2 83 rfl rfl, mT2 84 rfl rfl, mT2 85 rfl rfl, mT1 1 rfl rfl, by decide +kernel, by decide +kernel, by decide +kernel, by decide, TX9, 14, rfl⟩
theorem cvX9_104 : CV RX9 104 yX4_readAll cX4_readAll 3 (some .int) 0 4 := ⟨cwX4_readAll, mT2 87 rfl rfl, mT2 88 rfl rfl, mT2 89 rfl rfl, mT1 6 rfl rfl, by decide +kernel, by decide +kernel, by decide +kernel, by decide, TX4, 7, rfl⟩
theorem cvX4_36 : CV RX4 36 yX5_empty cX5_empty 1 none 0 5 := ⟨cwX5_empty, mT2 91 rfl rfl, mT2 92 rfl rfl, mT2 93 rfl rfl, mT1 3 rfl rfl, by decide +kernel, by decide +kernel, by decide +kernel, by decide, TX5, 8, rfl⟩
theorem cvX4_41 : CV RX4 41 yX3_empty cX3_empty 1 none 0 3 := ⟨cwX3_empty, mT2 95 rfl rfl, mT2 96 rfl rfl, mT2 97 rfl rfl, mT1 4 rfl rfl, by decide +kernel, by decide +kernel, by decide +kernel, by decide, TX3, 5, rfl⟩
theorem cvX3_34 : CV RX3 34 yX3_unsee cX3_unsee 1 none 0 3 := ⟨cwX3_unsee, mT2 99 rfl rfl, mT2 100 rfl rfl, mT2 101 rfl rfl, mT1 4 rfl rfl, by decide +kernel, by decide +kernel, by decide +kernel, by decide, TX3, 5, rfl⟩
theorem cvX4_44 : CV RX4 44 yX4_nextToken cX4_nextToken 1 none 0 4 := ⟨cwX4_nextToken, mT2 103 rfl rfl, mT2 105 rfl rfl, mTp1 (n := _) 0 rfl, mT1 6 rfl rfl, by decide +kernel, by decide +kernel, by decide +kernel, by decide, TX4, 7, rfl⟩
theorem csX4_106 : CSt RX4 106 yX4_isLetter cX4_isLetter 1 (some .boolean) 1 := ⟨cwX4_isLetter, mT2 107 rfl rfl, mT2 108 rfl rfl, mT1 6 rfl rfl, by decide +kernel, by decide +kernel, by decide +kernel, by decide⟩
theorem cvX4_110 : CV RX4 110 yX4_takeWord cX4_takeWord 1 none 0 4 := ⟨cwX4_takeWord, mT2 110 rfl rfl, mT2 112 rfl rfl, mTp1 (n := _) 1 rfl, mT1 6 rfl rfl, by decide +kernel, by decide +kernel, by decide +kernel, by decide, TX4, 7, rfl⟩
theorem cvX4_121 : CV RX4 121 yX4_spells cX4_spells 3 (some .boolean) 1 4 := ⟨cwX4_spells, mT2 115 rfl rfl, mT2 117 rfl rfl, mTp1 (n := _) 2 rfl, mT1 6 rfl rfl, by decide +kernel, by decide +kernel, by decide +kernel, by decide, TX4, 7, rfl⟩
theorem csJ0_495 : CSt RJ0 495 yJ1_charAt_3b067 cJ1_charAt_3b067 2 (some .char) 2 := ⟨cwJ1_charAt_3b067, mT2 137 rfl rfl, mT2 138 rfl rfl, mT1 14 rfl rfl, by decide +kernel, by decide +kernel, by decide +kernel, by decide⟩
theorem csJ1_9 : CSt RJ1 9 yJ0_checkIndex_df160 cJ0_checkIndex_df160 2 none 2 := ⟨cwJ0_checkIndex_df160, mT2 140 rfl rfl, mT2 141 rfl rfl, mT1 13 rfl rfl, by decide +kernel, by decide +kernel, by decide +kernel, by decide⟩
theorem csJ0_1059 : CSt RJ0 1059 yJ3_checkIndex_8e157 cJ3_checkIndex_8e157 3 (some .int) 3 := ⟨cwJ3_checkIndex_8e157, mT2 145 rfl rfl, mT2 146 rfl rfl, mT1 15 rfl rfl, by decide +kernel, by decide +kernel, by decide +kernel, by decide⟩
theorem csJ0_498 : CSt RJ0 498 yJ2_charAt_3b067 cJ2_charAt_3b067 2 (some .char) 2 := ⟨cwJ2_charAt_3b067, mT2 148 rfl rfl, mT2 149 rfl rfl, mT1 16 rfl rfl, by decide +kernel, by decide +kernel, by decide +kernel, by decide⟩
theorem csJ2_67 : CSt RJ2 67 yJ2_checkIndex_2214a cJ2_checkIndex_2214a 2 none 2 := ⟨cwJ2_checkIndex_2214a, mT2 151 rfl rfl, mT2 152 rfl rfl, mT1 16 rfl rfl, by decide +kernel, by decide +kernel, by decide +kernel, by decide⟩
theorem csJ2_48 : CSt RJ2 48 yJ2_length_9d52b cJ2_length_9d52b 1 (some .int) 1 := ⟨cwJ2_length_9d52b, mT2 154 rfl rfl, mT2 155 rfl rfl, mT1 16 rfl rfl, by decide +kernel, by decide +kernel, by decide +kernel, by decide⟩
theorem csJ2_414 : CSt RJ2 414 yJ0_checkIndex_df160 cJ0_checkIndex_df160 2 none 2 := ⟨cwJ0_checkIndex_df160, mT2 157 rfl rfl, mT2 141 rfl rfl, mT1 13 rfl rfl, by decide +kernel, by decide +kernel, by decide +kernel, by decide⟩
theorem csJ2_71 : CSt RJ2 71 yJ2_getChar_3b067 cJ2_getChar_3b067 2 (some .char) 2 := ⟨cwJ2_getChar_3b067, mT2 158 rfl rfl, mT2 159 rfl rfl, mT1 16 rfl rfl, by decide +kernel, by decide +kernel, by decide +kernel, by decide⟩
theorem csX4_113 : CSt RX4 113 yX4_isDigit cX4_isDigit 1 (some .boolean) 1 := ⟨cwX4_isDigit, mT2 171 rfl rfl, mT2 172 rfl rfl, mT1 6 rfl rfl, by decide +kernel, by decide +kernel, by decide +kernel, by decide⟩
theorem cvX4_116 : CV RX4 116 yX4_takeNumber cX4_takeNumber 2 none 0 4 := ⟨cwX4_takeNumber, mT2 174 rfl rfl, mT2 176 rfl rfl, mTp1 (n := _) 3 rfl, mT1 6 rfl rfl, by decide +kernel, by decide +kernel, by decide +kernel, by decide, TX4, 7, rfl⟩
theorem mlX4_133 : Cond.methodLink RX4 133 Lib.Math.min.name ∈ lwT := mT2 178 rfl rfl
theorem cvX4_47 : CV RX4 47 yX4_readPiece cX4_readPiece 4 (some .boolean) 0 4 := ⟨cwX4_readPiece, mT2 181 rfl rfl, mT2 183 rfl rfl, mTp1 (n := _) 4 rfl, mT1 6 rfl rfl, by decide +kernel, by decide +kernel, by decide +kernel, by decide, TX4, 7, rfl⟩
theorem cvX4_66 : CV RX4 66 yX4_number cX4_number 2 (some .int) 1 4 := ⟨cwX4_number, mT2 185 rfl rfl, mT2 187 rfl rfl, mTp1 (n := _) 5 rfl, mT1 6 rfl rfl, by decide +kernel, by decide +kernel, by decide +kernel, by decide, TX4, 7, rfl⟩
theorem cvX4_70 : CV RX4 70 yX4_stops cX4_stops 1 (some .boolean) 0 4 := ⟨cwX4_stops, mT2 189 rfl rfl, mT2 191 rfl rfl, mTp1 (n := _) 6 rfl, mT1 6 rfl rfl, by decide +kernel, by decide +kernel, by decide +kernel, by decide, TX4, 7, rfl⟩
theorem cvX4_73 : CV RX4 73 yX5_addPiece cX5_addPiece 4 none 3 5 := ⟨cwX5_addPiece, mT2 193 rfl rfl, mT2 194 rfl rfl, mT2 195 rfl rfl, mT1 3 rfl rfl, by decide +kernel, by decide +kernel, by decide +kernel, by decide, TX5, 8, rfl⟩
theorem cvX4_51 : CV RX4 51 yX4_readFamily cX4_readFamily 4 (some .boolean) 0 4 := ⟨cwX4_readFamily, mT2 197 rfl rfl, mT2 199 rfl rfl, mTp1 (n := _) 7 rfl, mT1 6 rfl rfl, by decide +kernel, by decide +kernel, by decide +kernel, by decide, TX4, 7, rfl⟩
theorem cvX4_80 : CV RX4 80 yX5_addFamily cX5_addFamily 4 none 3 5 := ⟨cwX5_addFamily, mT2 201 rfl rfl, mT2 202 rfl rfl, mT2 203 rfl rfl, mT1 3 rfl rfl, by decide +kernel, by decide +kernel, by decide +kernel, by decide, TX5, 8, rfl⟩
theorem cvX4_54 : CV RX4 54 yX4_readPaved cX4_readPaved 3 (some .boolean) 0 4 := ⟨cwX4_readPaved, mT2 205 rfl rfl, mT2 207 rfl rfl, mTp1 (n := _) 8 rfl, mT1 6 rfl rfl, by decide +kernel, by decide +kernel, by decide +kernel, by decide, TX4, 7, rfl⟩
theorem cvX4_83 : CV RX4 83 yX3_makeNoStone cX3_makeNoStone 2 none 1 3 := ⟨cwX3_makeNoStone, mT2 209 rfl rfl, mT2 210 rfl rfl, mT2 211 rfl rfl, mT1 4 rfl rfl, by decide +kernel, by decide +kernel, by decide +kernel, by decide, TX3, 5, rfl⟩
theorem cvX4_57 : CV RX4 57 yX4_readStone cX4_readStone 2 (some .boolean) 0 4 := ⟨cwX4_readStone, mT2 213 rfl rfl, mT2 215 rfl rfl, mTp1 (n := _) 9 rfl, mT1 6 rfl rfl, by decide +kernel, by decide +kernel, by decide +kernel, by decide, TX4, 7, rfl⟩
theorem cvX4_91 : CV RX4 91 yX3_makeStone cX3_makeStone 2 none 1 3 := ⟨cwX3_makeStone, mT2 217 rfl rfl, mT2 218 rfl rfl, mT2 219 rfl rfl, mT1 4 rfl rfl, by decide +kernel, by decide +kernel, by decide +kernel, by decide, TX3, 5, rfl⟩
theorem cvX4_60 : CV RX4 60 yX4_readFlood cX4_readFlood 3 (some .boolean) 0 4 := ⟨cwX4_readFlood, mT2 221 rfl rfl, mT2 223 rfl rfl, mTp1 (n := _) 10 rfl, mT1 6 rfl rfl, by decide +kernel, by decide +kernel, by decide +kernel, by decide, TX4, 7, rfl⟩
theorem cvX9_108 : CV RX9 108 yX5_become cX5_become 2 none 1 5 := ⟨cwX5_become, mT2 225 rfl rfl, mT2 226 rfl rfl, mT2 227 rfl rfl, mT1 3 rfl rfl, by decide +kernel, by decide +kernel, by decide +kernel, by decide, TX5, 8, rfl⟩
theorem mlX5_37 : Cond.methodLink RX5 37 arraycopyName ∈ lwT := mT2 229 rfl rfl
theorem cvX9_111 : CV RX9 111 yX3_become cX3_become 2 none 1 3 := ⟨cwX3_become, mT2 232 rfl rfl, mT2 233 rfl rfl, mT2 234 rfl rfl, mT1 4 rfl rfl, by decide +kernel, by decide +kernel, by decide +kernel, by decide, TX3, 5, rfl⟩
theorem mlX3_37 : Cond.methodLink RX3 37 arraycopyName ∈ lwT := mT2 236 rfl rfl
theorem cvX9_114 : CV RX9 114 yX8_startAnew cX8_startAnew 1 none 0 8 := ⟨cwX8_startAnew, mT2 237 rfl rfl, mT2 238 rfl rfl, mT2 239 rfl rfl, mT1 7 rfl rfl, by decide +kernel, by decide +kernel, by decide +kernel, by decide, TX8, 3, rfl⟩
theorem csX8_22 : CSt RX8 22 yJ7_fill_53178 cJ7_fill_53178 4 none 2 := ⟨cwJ7_fill_53178, mT3 1 rfl rfl, mT1 108 rfl rfl, mT1 5 rfl rfl, by decide +kernel, by decide +kernel, by decide +kernel, by decide⟩
theorem cvX9_117 : CV RX9 117 yX0_startAnew cX0_startAnew 1 none 0 0 := ⟨cwX0_startAnew, mT3 2 rfl rfl, mT3 3 rfl rfl, mT3 4 rfl rfl, mT1 8 rfl rfl, by decide +kernel, by decide +kernel, by decide +kernel, by decide, TX0, 8, rfl⟩
theorem cvL_29 : CV RL 29 yX9_piece cX9_piece 3 (some .int) 2 9 := ⟨cwX9_piece, mT3 6 rfl rfl, mT3 7 rfl rfl, mT3 8 rfl rfl, mT1 1 rfl rfl, by decide +kernel, by decide +kernel, by decide +kernel, by decide, TX9, 14, rfl⟩
theorem cvX9_118 : CV RX9 118 yX9_isPiece cX9_isPiece 2 (some .boolean) 1 9 := ⟨cwX9_isPiece, mT3 10 rfl rfl, mT3 12 rfl rfl, mTp1 (n := _) 11 rfl, mT1 1 rfl rfl, by decide +kernel, by decide +kernel, by decide +kernel, by decide, TX9, 14, rfl⟩
theorem cvL_34 : CV RL 34 yX9_family cX9_family 3 (some .int) 2 9 := ⟨cwX9_family, mT3 14 rfl rfl, mT3 15 rfl rfl, mT3 16 rfl rfl, mT1 1 rfl rfl, by decide +kernel, by decide +kernel, by decide +kernel, by decide, TX9, 14, rfl⟩
theorem cvX9_141 : CV RX9 141 yX9_isFamily cX9_isFamily 2 (some .boolean) 1 9 := ⟨cwX9_isFamily, mT3 18 rfl rfl, mT3 20 rfl rfl, mTp1 (n := _) 12 rfl, mT1 1 rfl rfl, by decide +kernel, by decide +kernel, by decide +kernel, by decide, TX9, 14, rfl⟩
theorem cvX9_153 : CV RX9 153 yX3_ownedBy cX3_ownedBy 2 (some .int) 1 3 := ⟨cwX3_ownedBy, mT3 22 rfl rfl, mT3 23 rfl rfl, mT3 24 rfl rfl, mT1 4 rfl rfl, by decide +kernel, by decide +kernel, by decide +kernel, by decide, TX3, 5, rfl⟩
theorem csX3_43 : CSt RX3 43 yX3_ownedIn cX3_ownedIn 4 (some .int) 2 := ⟨cwX3_ownedIn, mT3 26 rfl rfl, mT3 27 rfl rfl, mT1 4 rfl rfl, by decide +kernel, by decide +kernel, by decide +kernel, by decide⟩
theorem csX9_157 : CSt RX9 157 yJ6_bitCount_0f7a4 cJ6_bitCount_0f7a4 1 (some .int) 1 := ⟨cwJ6_bitCount_0f7a4, mT3 29 rfl rfl, mT3 30 rfl rfl, mT1 19 rfl rfl, by decide +kernel, by decide +kernel, by decide +kernel, by decide⟩
theorem cvL_38 : CV RL 38 yX9_pave cX9_pave 4 (some .int) 2 9 := ⟨cwX9_pave, mT3 35 rfl rfl, mT3 36 rfl rfl, mT3 37 rfl rfl, mT1 1 rfl rfl, by decide +kernel, by decide +kernel, by decide +kernel, by decide, TX9, 14, rfl⟩
theorem cvX9_162 : CV RX9 162 yX3_isStone cX3_isStone 2 (some .boolean) 1 3 := ⟨cwX3_isStone, mT3 39 rfl rfl, mT3 40 rfl rfl, mT3 41 rfl rfl, mT1 4 rfl rfl, by decide +kernel, by decide +kernel, by decide +kernel, by decide, TX3, 5, rfl⟩
theorem cvL_42 : CV RL 42 yX9_free cX9_free 3 (some .int) 1 9 := ⟨cwX9_free, mT3 43 rfl rfl, mT3 44 rfl rfl, mT3 45 rfl rfl, mT1 1 rfl rfl, by decide +kernel, by decide +kernel, by decide +kernel, by decide, TX9, 14, rfl⟩
theorem cvL_47 : CV RL 47 yX9_stone cX9_stone 4 (some .int) 2 9 := ⟨cwX9_stone, mT3 47 rfl rfl, mT3 48 rfl rfl, mT3 49 rfl rfl, mT1 1 rfl rfl, by decide +kernel, by decide +kernel, by decide +kernel, by decide, TX9, 14, rfl⟩
theorem cvX9_165 : CV RX9 165 yX3_makeStone cX3_makeStone 2 none 1 3 := ⟨cwX3_makeStone, mT3 51 rfl rfl, mT2 218 rfl rfl, mT2 219 rfl rfl, mT1 4 rfl rfl, by decide +kernel, by decide +kernel, by decide +kernel, by decide, TX3, 5, rfl⟩
theorem cvX9_169 : CV RX9 169 yX3_makeNoStone cX3_makeNoStone 2 none 1 3 := ⟨cwX3_makeNoStone, mT3 52 rfl rfl, mT2 210 rfl rfl, mT2 211 rfl rfl, mT1 4 rfl rfl, by decide +kernel, by decide +kernel, by decide +kernel, by decide, TX3, 5, rfl⟩
theorem cvL_51 : CV RL 51 yX9_flood cX9_flood 4 (some .int) 2 9 := ⟨cwX9_flood, mT3 53 rfl rfl, mT3 54 rfl rfl, mT3 55 rfl rfl, mT1 1 rfl rfl, by decide +kernel, by decide +kernel, by decide +kernel, by decide, TX9, 14, rfl⟩
theorem cvL_55 : CV RL 55 yX9_way cX9_way 2 (some .int) 1 9 := ⟨cwX9_way, mT3 57 rfl rfl, mT3 58 rfl rfl, mT3 59 rfl rfl, mT1 1 rfl rfl, by decide +kernel, by decide +kernel, by decide +kernel, by decide, TX9, 14, rfl⟩
theorem cvX9_172 : CV RX9 172 yX9_wayNow cX9_wayNow 2 (some .int) 1 9 := ⟨cwX9_wayNow, mT3 61 rfl rfl, mT3 63 rfl rfl, mTp1 (n := _) 13 rfl, mT1 1 rfl rfl, by decide +kernel, by decide +kernel, by decide +kernel, by decide, TX9, 14, rfl⟩
theorem cvX9_185 : CV RX9 185 yX8_yards cX8_yards 4 (some .int) 2 8 := ⟨cwX8_yards, mT3 65 rfl rfl, mT3 66 rfl rfl, mT3 67 rfl rfl, mT1 7 rfl rfl, by decide +kernel, by decide +kernel, by decide +kernel, by decide, TX8, 3, rfl⟩
theorem cvX8_28 : CV RX8 28 yX8_measure cX8_measure 6 none 2 8 := ⟨cwX8_measure, mT3 69 rfl rfl, mT3 71 rfl rfl, mTp1 (n := _) 14 rfl, mT1 7 rfl rfl, by decide +kernel, by decide +kernel, by decide +kernel, by decide, TX8, 3, rfl⟩
theorem cvX8_62 : CV RX8 62 yX8_leg cX8_leg 2 (some .int) 1 8 := ⟨cwX8_leg, mT3 74 rfl rfl, mT3 76 rfl rfl, mTp1 (n := _) 15 rfl, mT1 7 rfl rfl, by decide +kernel, by decide +kernel, by decide +kernel, by decide, TX8, 3, rfl⟩
theorem cvX8_66 : CV RX8 66 yX8_shorten cX8_shorten 4 (some .boolean) 3 8 := ⟨cwX8_shorten, mT3 78 rfl rfl, mT3 80 rfl rfl, mTp2 (n := _) 0 rfl, mT1 7 rfl rfl, by decide +kernel, by decide +kernel, by decide +kernel, by decide, TX8, 3, rfl⟩
theorem csX9_175 : CSt RX9 175 yX9_orNone cX9_orNone 1 (some .int) 1 := ⟨cwX9_orNone, mT3 82 rfl rfl, mT3 83 rfl rfl, mT1 1 rfl rfl, by decide +kernel, by decide +kernel, by decide +kernel, by decide⟩
theorem cvL_59 : CV RL 59 yX9_place cX9_place 3 (some .int) 2 9 := ⟨cwX9_place, mT3 86 rfl rfl, mT3 87 rfl rfl, mT3 88 rfl rfl, mT1 1 rfl rfl, by decide +kernel, by decide +kernel, by decide +kernel, by decide, TX9, 14, rfl⟩
theorem cvX9_178 : CV RX9 178 yX8_placeOnWay cX8_placeOnWay 6 (some .int) 3 8 := ⟨cwX8_placeOnWay, mT3 90 rfl rfl, mT3 91 rfl rfl, mT3 92 rfl rfl, mT1 7 rfl rfl, by decide +kernel, by decide +kernel, by decide +kernel, by decide, TX8, 3, rfl⟩
theorem cvX8_50 : CV RX8 50 yX8_nextPlace cX8_nextPlace 6 (some .int) 2 8 := ⟨cwX8_nextPlace, mT3 94 rfl rfl, mT3 96 rfl rfl, mTp2 (n := _) 1 rfl, mT1 7 rfl rfl, by decide +kernel, by decide +kernel, by decide +kernel, by decide, TX8, 3, rfl⟩
theorem cvX8_72 : CV RX8 72 yX8_otherEnd cX8_otherEnd 3 (some .int) 2 8 := ⟨cwX8_otherEnd, mT3 98 rfl rfl, mT3 100 rfl rfl, mTp2 (n := _) 2 rfl, mT1 7 rfl rfl, by decide +kernel, by decide +kernel, by decide +kernel, by decide, TX8, 3, rfl⟩
theorem mlX8_75 : Cond.methodLink RX8 75 Lib.Math.min.name ∈ lwT := mT3 102 rfl rfl
theorem cvL_63 : CV RL 63 yX9_pole cX9_pole 4 (some .int) 2 9 := ⟨cwX9_pole, mT3 103 rfl rfl, mT3 104 rfl rfl, mT3 105 rfl rfl, mT1 1 rfl rfl, by decide +kernel, by decide +kernel, by decide +kernel, by decide, TX9, 14, rfl⟩
theorem cvX9_182 : CV RX9 182 yX5_widerThan cX5_widerThan 4 (some .int) 1 5 := ⟨cwX5_widerThan, mT3 107 rfl rfl, mT3 108 rfl rfl, mT3 109 rfl rfl, mT1 3 rfl rfl, by decide +kernel, by decide +kernel, by decide +kernel, by decide, TX5, 8, rfl⟩
theorem cvL_67 : CV RL 67 yX9_judge cX9_judge 7 (some .int) 1 9 := ⟨cwX9_judge, mT3 111 rfl rfl, mT3 112 rfl rfl, mT3 113 rfl rfl, mT1 1 rfl rfl, by decide +kernel, by decide +kernel, by decide +kernel, by decide, TX9, 14, rfl⟩
theorem mlX9_191 : Cond.methodLink RX9 191 Lib.Math.max.name ∈ lwT := mT3 115 rfl rfl
theorem cvL_71 : CV RL 71 yX9_one cX9_one 3 (some .int) 2 9 := ⟨cwX9_one, mT3 118 rfl rfl, mT3 119 rfl rfl, mT3 120 rfl rfl, mT1 1 rfl rfl, by decide +kernel, by decide +kernel, by decide +kernel, by decide, TX9, 14, rfl⟩
theorem cvX9_197 : CV RX9 197 yX0_seek cX0_seek 4 none 2 0 := ⟨cwX0_seek, mT3 122 rfl rfl, mT3 123 rfl rfl, mT3 124 rfl rfl, mT1 8 rfl rfl, by decide +kernel, by decide +kernel, by decide +kernel, by decide, TX0, 8, rfl⟩
theorem cvX0_40 : CV RX0 40 yX0_tryFamily cX0_tryFamily 7 none 3 0 := ⟨cwX0_tryFamily, mT3 126 rfl rfl, mT3 128 rfl rfl, mTp2 (n := _) 3 rfl, mT1 8 rfl rfl, by decide +kernel, by decide +kernel, by decide +kernel, by decide, TX0, 8, rfl⟩
theorem cvX0_69 : CV RX0 69 yX0_take cX0_take 2 none 1 0 := ⟨cwX0_take, mT3 130 rfl rfl, mT3 132 rfl rfl, mTp2 (n := _) 4 rfl, mT1 8 rfl rfl, by decide +kernel, by decide +kernel, by decide +kernel, by decide, TX0, 8, rfl⟩
theorem mlX0_91 : Cond.methodLink RX0 91 arraycopyName ∈ lwT := mT3 134 rfl rfl
theorem cvX0_76 : CV RX0 76 yX0_worthWith cX0_worthWith 4 (some .int) 3 0 := ⟨cwX0_worthWith, mT3 135 rfl rfl, mT3 137 rfl rfl, mTp2 (n := _) 5 rfl, mT1 8 rfl rfl, by decide +kernel, by decide +kernel, by decide +kernel, by decide, TX0, 8, rfl⟩
theorem cvX0_80 : CV RX0 80 yX8_yards cX8_yards 4 (some .int) 2 8 := ⟨cwX8_yards, mT3 139 rfl rfl, mT3 66 rfl rfl, mT3 67 rfl rfl, mT1 7 rfl rfl, by decide +kernel, by decide +kernel, by decide +kernel, by decide, TX8, 3, rfl⟩
theorem mlX0_83 : Cond.methodLink RX0 83 Lib.Math.max.name ∈ lwT := mT3 140 rfl rfl
theorem csX0_44 : CSt RX0 44 yJ7_fill_53178 cJ7_fill_53178 4 none 2 := ⟨cwJ7_fill_53178, mT3 141 rfl rfl, mT1 108 rfl rfl, mT1 5 rfl rfl, by decide +kernel, by decide +kernel, by decide +kernel, by decide⟩
theorem cvX0_50 : CV RX0 50 yX0_costsOfNone cX0_costsOfNone 3 (some .int) 0 0 := ⟨cwX0_costsOfNone, mT3 142 rfl rfl, mT3 144 rfl rfl, mTp2 (n := _) 6 rfl, mT1 8 rfl rfl, by decide +kernel, by decide +kernel, by decide +kernel, by decide, TX0, 8, rfl⟩
theorem cvX0_63 : CV RX0 63 yX8_cost cX8_cost 3 (some .int) 2 8 := ⟨cwX8_cost, mT3 146 rfl rfl, mT3 147 rfl rfl, mT3 148 rfl rfl, mT1 7 rfl rfl, by decide +kernel, by decide +kernel, by decide +kernel, by decide, TX8, 3, rfl⟩
theorem cvX8_37 : CV RX8 37 yX8_yards cX8_yards 4 (some .int) 2 8 := ⟨cwX8_yards, mT3 150 rfl rfl, mT3 66 rfl rfl, mT3 67 rfl rfl, mT1 7 rfl rfl, by decide +kernel, by decide +kernel, by decide +kernel, by decide, TX8, 3, rfl⟩
theorem cvX0_54 : CV RX0 54 yX0_tryPiece cX0_tryPiece 6 none 2 0 := ⟨cwX0_tryPiece, mT3 151 rfl rfl, mT3 153 rfl rfl, mTp2 (n := _) 7 rfl, mT1 8 rfl rfl, by decide +kernel, by decide +kernel, by decide +kernel, by decide, TX0, 8, rfl⟩
theorem cvX9_201 : CV RX9 201 yX9_chosen cX9_chosen 2 (some .int) 1 9 := ⟨cwX9_chosen, mT3 155 rfl rfl, mT3 157 rfl rfl, mTp2 (n := _) 8 rfl, mT1 1 rfl rfl, by decide +kernel, by decide +kernel, by decide +kernel, by decide, TX9, 14, rfl⟩
theorem cvL_75 : CV RL 75 yX9_all cX9_all 2 (some .int) 1 9 := ⟨cwX9_all, mT3 159 rfl rfl, mT3 160 rfl rfl, mT3 161 rfl rfl, mT1 1 rfl rfl, by decide +kernel, by decide +kernel, by decide +kernel, by decide, TX9, 14, rfl⟩
theorem cvL_79 : CV RL 79 yX9_change cX9_change 1 (some .int) 0 9 := ⟨cwX9_change, mT3 163 rfl rfl, mT3 164 rfl rfl, mT3 165 rfl rfl, mT1 1 rfl rfl, by decide +kernel, by decide +kernel, by decide +kernel, by decide, TX9, 14, rfl⟩
theorem cvX9_204 : CV RX9 204 yX1_firstOf cX1_firstOf 5 (some .int) 1 1 := ⟨cwX1_firstOf, mT3 167 rfl rfl, mT3 168 rfl rfl, mT3 169 rfl rfl, mT1 9 rfl rfl, by decide +kernel, by decide +kernel, by decide +kernel, by decide, TX1, 3, rfl⟩
theorem cvX1_29 : CV RX1 29 yX1_gains cX1_gains 7 (some .boolean) 3 1 := ⟨cwX1_gains, mT3 171 rfl rfl, mT3 173 rfl rfl, mTp2 (n := _) 9 rfl, mT1 9 rfl rfl, by decide +kernel, by decide +kernel, by decide +kernel, by decide, TX1, 3, rfl⟩
theorem csX1_47 : CSt RX1 47 yX3_ownedIn cX3_ownedIn 4 (some .int) 2 := ⟨cwX3_ownedIn, mT3 175 rfl rfl, mT3 27 rfl rfl, mT1 4 rfl rfl, by decide +kernel, by decide +kernel, by decide +kernel, by decide⟩
theorem cvX1_53 : CV RX1 53 yX8_yards cX8_yards 4 (some .int) 2 8 := ⟨cwX8_yards, mT3 176 rfl rfl, mT3 66 rfl rfl, mT3 67 rfl rfl, mT1 7 rfl rfl, by decide +kernel, by decide +kernel, by decide +kernel, by decide, TX8, 3, rfl⟩
theorem cvL_83 : CV RL 83 yX9_rest cX9_rest 1 (some .int) 0 9 := ⟨cwX9_rest, mT3 177 rfl rfl, mT3 178 rfl rfl, mT3 179 rfl rfl, mT1 1 rfl rfl, by decide +kernel, by decide +kernel, by decide +kernel, by decide, TX9, 14, rfl⟩
theorem cvX9_208 : CV RX9 208 yX1_numberOf cX1_numberOf 4 (some .int) 1 1 := ⟨cwX1_numberOf, mT3 181 rfl rfl, mT3 182 rfl rfl, mT3 183 rfl rfl, mT1 9 rfl rfl, by decide +kernel, by decide +kernel, by decide +kernel, by decide, TX1, 3, rfl⟩
theorem mlX1_33 : Cond.methodLink RX1 33 arraycopyName ∈ lwT := mT3 185 rfl rfl
theorem cvX1_39 : CV RX1 39 yX1_firstOf cX1_firstOf 5 (some .int) 1 1 := ⟨cwX1_firstOf, mT3 186 rfl rfl, mT3 168 rfl rfl, mT3 169 rfl rfl, mT1 9 rfl rfl, by decide +kernel, by decide +kernel, by decide +kernel, by decide, TX1, 3, rfl⟩
theorem cvX1_43 : CV RX1 43 yX1_exchange cX1_exchange 4 none 2 1 := ⟨cwX1_exchange, mT3 187 rfl rfl, mT3 189 rfl rfl, mTp2 (n := _) 10 rfl, mT1 9 rfl rfl, by decide +kernel, by decide +kernel, by decide +kernel, by decide, TX1, 3, rfl⟩
theorem cvL_87 : CV RL 87 yX9_match cX9_match 6 (some .int) 2 9 := ⟨cwX9_match, mT3 191 rfl rfl, mT3 192 rfl rfl, mT3 193 rfl rfl, mT1 1 rfl rfl, by decide +kernel, by decide +kernel, by decide +kernel, by decide, TX9, 14, rfl⟩
theorem cvX9_211 : CV RX9 211 yX8_cost cX8_cost 3 (some .int) 2 8 := ⟨cwX8_cost, mT3 195 rfl rfl, mT3 147 rfl rfl, mT3 148 rfl rfl, mT1 7 rfl rfl, by decide +kernel, by decide +kernel, by decide +kernel, by decide, TX8, 3, rfl⟩
theorem cvL_91 : CV RL 91 yX9_always cX9_always 3 (some .int) 0 9 := ⟨cwX9_always, mT3 196 rfl rfl, mT3 197 rfl rfl, mT3 198 rfl rfl, mT1 1 rfl rfl, by decide +kernel, by decide +kernel, by decide +kernel, by decide, TX9, 14, rfl⟩
theorem cvX9_214 : CV RX9 214 yX8_neededBy cX8_neededBy 4 (some .int) 1 8 := ⟨cwX8_neededBy, mT3 200 rfl rfl, mT3 201 rfl rfl, mT3 202 rfl rfl, mT1 7 rfl rfl, by decide +kernel, by decide +kernel, by decide +kernel, by decide, TX8, 3, rfl⟩
theorem cvL_95 : CV RL 95 yX9_shut cX9_shut 3 (some .long) 2 9 := ⟨cwX9_shut, mT3 205 rfl rfl, mT3 206 rfl rfl, mT3 207 rfl rfl, mT1 1 rfl rfl, by decide +kernel, by decide +kernel, by decide +kernel, by decide, TX9, 14, rfl⟩
theorem cvX9_219 : CV RX9 219 yX2_reckon cX2_reckon 7 none 2 2 := ⟨cwX2_reckon, mT3 210 rfl rfl, mT3 211 rfl rfl, mT3 212 rfl rfl, mT1 10 rfl rfl, by decide +kernel, by decide +kernel, by decide +kernel, by decide, TX2, 4, rfl⟩
theorem cvX2_26 : CV RX2 26 yX3_ownedBy cX3_ownedBy 2 (some .int) 1 3 := ⟨cwX3_ownedBy, mT3 214 rfl rfl, mT3 23 rfl rfl, mT3 24 rfl rfl, mT1 4 rfl rfl, by decide +kernel, by decide +kernel, by decide +kernel, by decide, TX3, 5, rfl⟩
theorem cvX2_42 : CV RX2 42 yX2_chanceOf cX2_chanceOf 6 (some .long) 2 2 := ⟨cwX2_chanceOf, mT3 215 rfl rfl, mT3 217 rfl rfl, mTp2 (n := _) 11 rfl, mT1 10 rfl rfl, by decide +kernel, by decide +kernel, by decide +kernel, by decide, TX2, 4, rfl⟩
theorem cvX2_46 : CV RX2 46 yX8_yards cX8_yards 4 (some .int) 2 8 := ⟨cwX8_yards, mT3 219 rfl rfl, mT3 66 rfl rfl, mT3 67 rfl rfl, mT1 7 rfl rfl, by decide +kernel, by decide +kernel, by decide +kernel, by decide, TX8, 3, rfl⟩
theorem cvX2_55 : CV RX2 55 yX2_reduce cX2_reduce 2 none 0 2 := ⟨cwX2_reduce, mT3 222 rfl rfl, mT3 224 rfl rfl, mTp2 (n := _) 12 rfl, mT1 10 rfl rfl, by decide +kernel, by decide +kernel, by decide +kernel, by decide, TX2, 4, rfl⟩
theorem cvX2_58 : CV RX2 58 yX2_divideBoth cX2_divideBoth 2 none 1 2 := ⟨cwX2_divideBoth, mT3 226 rfl rfl, mT3 228 rfl rfl, mTp2 (n := _) 13 rfl, mT1 10 rfl rfl, by decide +kernel, by decide +kernel, by decide +kernel, by decide, TX2, 4, rfl⟩
theorem cvL_100 : CV RL 100 yX9_saw cX9_saw 3 (some .int) 2 9 := ⟨cwX9_saw, mT3 230 rfl rfl, mT3 231 rfl rfl, mT3 232 rfl rfl, mT1 1 rfl rfl, by decide +kernel, by decide +kernel, by decide +kernel, by decide, TX9, 14, rfl⟩
theorem cvL_104 : CV RL 104 yX9_forget cX9_forget 2 (some .int) 0 9 := ⟨cwX9_forget, mT3 234 rfl rfl, mT3 235 rfl rfl, mT3 236 rfl rfl, mT1 1 rfl rfl, by decide +kernel, by decide +kernel, by decide +kernel, by decide, TX9, 14, rfl⟩
theorem cvX9_238 : CV RX9 238 yX3_unsee cX3_unsee 1 none 0 3 := ⟨cwX3_unsee, mT3 238 rfl rfl, mT2 100 rfl rfl, mT2 101 rfl rfl, mT1 4 rfl rfl, by decide +kernel, by decide +kernel, by decide +kernel, by decide, TX3, 5, rfl⟩
theorem cvL_108 : CV RL 108 yX9_fits cX9_fits 1 (some .int) 0 9 := ⟨cwX9_fits, mT3 239 rfl rfl, mT4 0 rfl rfl, mT4 1 rfl rfl, mT1 1 rfl rfl, by decide +kernel, by decide +kernel, by decide +kernel, by decide, TX9, 14, rfl⟩
theorem cvX9_241 : CV RX9 241 yX6_waysOf cX6_waysOf 5 (some .int) 3 6 := ⟨cwX6_waysOf, mT4 3 rfl rfl, mT4 4 rfl rfl, mT4 5 rfl rfl, mT1 11 rfl rfl, by decide +kernel, by decide +kernel, by decide +kernel, by decide, TX6, 3, rfl⟩
theorem csX6_22 : CSt RX6 22 yJ7_fill_53178 cJ7_fill_53178 4 none 2 := ⟨cwJ7_fill_53178, mT4 7 rfl rfl, mT1 108 rfl rfl, mT1 5 rfl rfl, by decide +kernel, by decide +kernel, by decide +kernel, by decide⟩
theorem cvX6_34 : CV RX6 34 yX3_isStone cX3_isStone 2 (some .boolean) 1 3 := ⟨cwX3_isStone, mT4 8 rfl rfl, mT3 40 rfl rfl, mT3 41 rfl rfl, mT1 4 rfl rfl, by decide +kernel, by decide +kernel, by decide +kernel, by decide, TX3, 5, rfl⟩
theorem cvX6_40 : CV RX6 40 yX6_addPiece cX6_addPiece 7 none 3 6 := ⟨cwX6_addPiece, mT4 9 rfl rfl, mT4 11 rfl rfl, mTp2 (n := _) 14 rfl, mT1 11 rfl rfl, by decide +kernel, by decide +kernel, by decide +kernel, by decide, TX6, 3, rfl⟩
theorem mlX6_54 : Cond.methodLink RX6 54 arraycopyName ∈ lwT := mT4 13 rfl rfl
theorem cvL_112 : CV RL 112 yX9_who cX9_who 2 (some .int) 1 9 := ⟨cwX9_who, mT4 14 rfl rfl, mT4 15 rfl rfl, mT4 16 rfl rfl, mT1 1 rfl rfl, by decide +kernel, by decide +kernel, by decide +kernel, by decide, TX9, 14, rfl⟩
theorem cvX9_245 : CV RX9 245 yX6_onlyOwner cX6_onlyOwner 5 (some .int) 2 6 := ⟨cwX6_onlyOwner, mT4 18 rfl rfl, mT4 19 rfl rfl, mT4 20 rfl rfl, mT1 11 rfl rfl, by decide +kernel, by decide +kernel, by decide +kernel, by decide, TX6, 3, rfl⟩
theorem cvX6_47 : CV RX6 47 yX6_waysOf cX6_waysOf 5 (some .int) 3 6 := ⟨cwX6_waysOf, mT4 22 rfl rfl, mT4 4 rfl rfl, mT4 5 rfl rfl, mT1 11 rfl rfl, by decide +kernel, by decide +kernel, by decide +kernel, by decide, TX6, 3, rfl⟩
theorem cvL_116 : CV RL 116 yX9_mark cX9_mark 3 (some .int) 2 9 := ⟨cwX9_mark, mT4 23 rfl rfl, mT4 24 rfl rfl, mT4 25 rfl rfl, mT1 1 rfl rfl, by decide +kernel, by decide +kernel, by decide +kernel, by decide, TX9, 14, rfl⟩
theorem cvX9_250 : CV RX9 250 yX9_asFamily cX9_asFamily 2 (some .int) 1 9 := ⟨cwX9_asFamily, mT4 28 rfl rfl, mT4 30 rfl rfl, mTp2 (n := _) 15 rfl, mT1 1 rfl rfl, by decide +kernel, by decide +kernel, by decide +kernel, by decide, TX9, 14, rfl⟩
theorem cvX9_253 : CV RX9 253 yX9_asWidow cX9_asWidow 2 (some .int) 1 9 := ⟨cwX9_asWidow, mT4 32 rfl rfl, mT4 34 rfl rfl, mTp3 (n := _) 0 rfl, mT1 1 rfl rfl, by decide +kernel, by decide +kernel, by decide +kernel, by decide, TX9, 14, rfl⟩
theorem cvX9_256 : CV RX9 256 yX9_asMason cX9_asMason 3 (some .int) 1 9 := ⟨cwX9_asMason, mT4 37 rfl rfl, mT4 39 rfl rfl, mTp3 (n := _) 1 rfl, mT1 1 rfl rfl, by decide +kernel, by decide +kernel, by decide +kernel, by decide, TX9, 14, rfl⟩
theorem cvX9_259 : CV RX9 259 yX9_asHeir cX9_asHeir 2 (some .int) 1 9 := ⟨cwX9_asHeir, mT4 42 rfl rfl, mT4 44 rfl rfl, mTp3 (n := _) 2 rfl, mT1 1 rfl rfl, by decide +kernel, by decide +kernel, by decide +kernel, by decide, TX9, 14, rfl⟩
theorem cvX9_262 : CV RX9 262 yX9_asHired cX9_asHired 2 (some .int) 1 9 := ⟨cwX9_asHired, mT4 47 rfl rfl, mT4 49 rfl rfl, mTp3 (n := _) 3 rfl, mT1 1 rfl rfl, by decide +kernel, by decide +kernel, by decide +kernel, by decide, TX9, 14, rfl⟩
theorem cvX9_284 : CV RX9 284 yX5_yardsOf cX5_yardsOf 4 (some .int) 1 5 := ⟨cwX5_yardsOf, mT4 52 rfl rfl, mT4 53 rfl rfl, mT4 54 rfl rfl, mT1 3 rfl rfl, by decide +kernel, by decide +kernel, by decide +kernel, by decide, TX5, 8, rfl⟩
theorem cvX9_265 : CV RX9 265 yX9_asBachelor cX9_asBachelor 2 (some .int) 1 9 := ⟨cwX9_asBachelor, mT4 56 rfl rfl, mT4 58 rfl rfl, mTp3 (n := _) 4 rfl, mT1 1 rfl rfl, by decide +kernel, by decide +kernel, by decide +kernel, by decide, TX9, 14, rfl⟩
theorem cvL_120 : CV RL 120 yX9_keep cX9_keep 2 (some .int) 1 9 := ⟨cwX9_keep, mT4 61 rfl rfl, mT4 62 rfl rfl, mT4 63 rfl rfl, mT1 1 rfl rfl, by decide +kernel, by decide +kernel, by decide +kernel, by decide, TX9, 14, rfl⟩
theorem cvX9_268 : CV RX9 268 yX3_ownedPieces cX3_ownedPieces 3 (some .int) 0 3 := ⟨cwX3_ownedPieces, mT4 65 rfl rfl, mT4 66 rfl rfl, mT4 67 rfl rfl, mT1 4 rfl rfl, by decide +kernel, by decide +kernel, by decide +kernel, by decide, TX3, 5, rfl⟩
theorem cvL_124 : CV RL 124 yX9_back cX9_back 2 (some .int) 1 9 := ⟨cwX9_back, mT4 69 rfl rfl, mT4 70 rfl rfl, mT4 71 rfl rfl, mT1 1 rfl rfl, by decide +kernel, by decide +kernel, by decide +kernel, by decide, TX9, 14, rfl⟩
theorem cvL_128 : CV RL 128 yX9_count cX9_count 2 (some .int) 1 9 := ⟨cwX9_count, mT4 73 rfl rfl, mT4 74 rfl rfl, mT4 75 rfl rfl, mT1 1 rfl rfl, by decide +kernel, by decide +kernel, by decide +kernel, by decide, TX9, 14, rfl⟩
theorem cvL_132 : CV RL 132 yX9_trace cX9_trace 1 (some .long) 0 9 := ⟨cwX9_trace, mT4 77 rfl rfl, mT4 78 rfl rfl, mT4 79 rfl rfl, mT1 1 rfl rfl, by decide +kernel, by decide +kernel, by decide +kernel, by decide, TX9, 14, rfl⟩
theorem cvL_19 : CV RL 19 yX10_type cX10_type 5 (some .int) 2 10 := ⟨cwX10_type, mT4 178 rfl rfl, mT4 179 rfl rfl, mT4 180 rfl rfl, mT1 12 rfl rfl, by decide +kernel, by decide +kernel, by decide +kernel, by decide, TX10, 30, rfl⟩
theorem csX10_71 : CSt RX10 71 yX10_in cX10_in 6 (some .boolean) 3 := ⟨cwX10_in, mT4 183 rfl rfl, mT4 184 rfl rfl, mT1 12 rfl rfl, by decide +kernel, by decide +kernel, by decide +kernel, by decide⟩
theorem cvL_24 : CV RL 24 yX10_clear cX10_clear 2 (some .int) 0 10 := ⟨cwX10_clear, mT4 187 rfl rfl, mT4 188 rfl rfl, mT4 189 rfl rfl, mT1 12 rfl rfl, by decide +kernel, by decide +kernel, by decide +kernel, by decide, TX10, 30, rfl⟩
theorem cvL_28 : CV RL 28 yX10_town cX10_town 3 (some .int) 0 10 := ⟨cwX10_town, mT4 191 rfl rfl, mT4 192 rfl rfl, mT4 193 rfl rfl, mT1 12 rfl rfl, by decide +kernel, by decide +kernel, by decide +kernel, by decide, TX10, 30, rfl⟩
theorem cvX10_154 : CV RX10 154 yX10_takesAll cX10_takesAll 5 (some .int) 0 10 := ⟨cwX10_takesAll, mT4 195 rfl rfl, mT4 197 rfl rfl, mTp3 (n := _) 5 rfl, mT1 12 rfl rfl, by decide +kernel, by decide +kernel, by decide +kernel, by decide, TX10, 30, rfl⟩
theorem cvX10_117 : CV RX10 117 yX10_next cX10_next 2 none 0 10 := ⟨cwX10_next, mT4 199 rfl rfl, mT4 201 rfl rfl, mTp3 (n := _) 6 rfl, mT1 12 rfl rfl, by decide +kernel, by decide +kernel, by decide +kernel, by decide, TX10, 30, rfl⟩
theorem csX10_95 : CSt RX10 95 yX10_isLetter cX10_isLetter 1 (some .boolean) 1 := ⟨cwX10_isLetter, mT4 203 rfl rfl, mT4 204 rfl rfl, mT1 12 rfl rfl, by decide +kernel, by decide +kernel, by decide +kernel, by decide⟩
theorem csX10_99 : CSt RX10 99 yX10_isFigure cX10_isFigure 1 (some .boolean) 1 := ⟨cwX10_isFigure, mT4 206 rfl rfl, mT4 207 rfl rfl, mT1 12 rfl rfl, by decide +kernel, by decide +kernel, by decide +kernel, by decide⟩
theorem cvX10_140 : CV RX10 140 yX10_takesPiece cX10_takesPiece 2 (some .boolean) 0 10 := ⟨cwX10_takesPiece, mT4 216 rfl rfl, mT4 218 rfl rfl, mTp3 (n := _) 7 rfl, mT1 12 rfl rfl, by decide +kernel, by decide +kernel, by decide +kernel, by decide, TX10, 30, rfl⟩
theorem cvX10_123 : CV RX10 123 yX10_takes cX10_takes 3 (some .boolean) 2 10 := ⟨cwX10_takes, mT4 220 rfl rfl, mT4 222 rfl rfl, mTp3 (n := _) 8 rfl, mT1 12 rfl rfl, by decide +kernel, by decide +kernel, by decide +kernel, by decide, TX10, 30, rfl⟩
theorem cvX10_127 : CV RX10 127 yX10_stops cX10_stops 1 (some .boolean) 0 10 := ⟨cwX10_stops, mT4 224 rfl rfl, mT4 226 rfl rfl, mTp3 (n := _) 9 rfl, mT1 12 rfl rfl, by decide +kernel, by decide +kernel, by decide +kernel, by decide, TX10, 30, rfl⟩
theorem cvX10_145 : CV RX10 145 yX10_takesFamily cX10_takesFamily 2 (some .boolean) 0 10 := ⟨cwX10_takesFamily, mT4 229 rfl rfl, mT4 231 rfl rfl, mTp3 (n := _) 10 rfl, mT1 12 rfl rfl, by decide +kernel, by decide +kernel, by decide +kernel, by decide, TX10, 30, rfl⟩
theorem cvX10_150 : CV RX10 150 yX10_takesTold cX10_takesTold 4 (some .boolean) 1 10 := ⟨cwX10_takesTold, mT4 236 rfl rfl, mT4 238 rfl rfl, mTp3 (n := _) 11 rfl, mT1 12 rfl rfl, by decide +kernel, by decide +kernel, by decide +kernel, by decide, TX10, 30, rfl⟩
theorem cvL_33 : CV RL 33 yX10_piece cX10_piece 3 (some .int) 2 10 := ⟨cwX10_piece, mT5 0 rfl rfl, mT5 1 rfl rfl, mT5 2 rfl rfl, mT1 12 rfl rfl, by decide +kernel, by decide +kernel, by decide +kernel, by decide, TX10, 30, rfl⟩
theorem cvX10_161 : CV RX10 161 yX10_isPiece cX10_isPiece 2 (some .boolean) 1 10 := ⟨cwX10_isPiece, mT5 4 rfl rfl, mT5 6 rfl rfl, mTp3 (n := _) 12 rfl, mT1 12 rfl rfl, by decide +kernel, by decide +kernel, by decide +kernel, by decide, TX10, 30, rfl⟩
theorem cvX10_166 : CV RX10 166 yX10_ownerOf cX10_ownerOf 2 (some .int) 1 10 := ⟨cwX10_ownerOf, mT5 9 rfl rfl, mT5 11 rfl rfl, mTp3 (n := _) 13 rfl, mT1 12 rfl rfl, by decide +kernel, by decide +kernel, by decide +kernel, by decide, TX10, 30, rfl⟩
theorem cvX10_170 : CV RX10 170 yX10_isStone cX10_isStone 2 (some .boolean) 1 10 := ⟨cwX10_isStone, mT5 13 rfl rfl, mT5 15 rfl rfl, mTp3 (n := _) 14 rfl, mT1 12 rfl rfl, by decide +kernel, by decide +kernel, by decide +kernel, by decide, TX10, 30, rfl⟩
theorem cvL_37 : CV RL 37 yX10_family cX10_family 3 (some .int) 2 10 := ⟨cwX10_family, mT5 17 rfl rfl, mT5 18 rfl rfl, mT5 19 rfl rfl, mT1 12 rfl rfl, by decide +kernel, by decide +kernel, by decide +kernel, by decide, TX10, 30, rfl⟩
theorem cvX10_173 : CV RX10 173 yX10_isFamily cX10_isFamily 2 (some .boolean) 1 10 := ⟨cwX10_isFamily, mT5 21 rfl rfl, mT5 23 rfl rfl, mTp3 (n := _) 15 rfl, mT1 12 rfl rfl, by decide +kernel, by decide +kernel, by decide +kernel, by decide, TX10, 30, rfl⟩
theorem cvX10_178 : CV RX10 178 yX10_ownBy cX10_ownBy 5 (some .int) 2 10 := ⟨cwX10_ownBy, mT5 26 rfl rfl, mT5 28 rfl rfl, mTp4 (n := _) 0 rfl, mT1 12 rfl rfl, by decide +kernel, by decide +kernel, by decide +kernel, by decide, TX10, 30, rfl⟩
theorem csX10_182 : CSt RX10 182 yX10_many cX10_many 3 (some .int) 1 := ⟨cwX10_many, mT5 30 rfl rfl, mT5 31 rfl rfl, mT1 12 rfl rfl, by decide +kernel, by decide +kernel, by decide +kernel, by decide⟩
theorem cvL_41 : CV RL 41 yX10_pave cX10_pave 4 (some .int) 2 10 := ⟨cwX10_pave, mT5 33 rfl rfl, mT5 34 rfl rfl, mT5 35 rfl rfl, mT1 12 rfl rfl, by decide +kernel, by decide +kernel, by decide +kernel, by decide, TX10, 30, rfl⟩
theorem cvL_46 : CV RL 46 yX10_free cX10_free 3 (some .int) 1 10 := ⟨cwX10_free, mT5 37 rfl rfl, mT5 38 rfl rfl, mT5 39 rfl rfl, mT1 12 rfl rfl, by decide +kernel, by decide +kernel, by decide +kernel, by decide, TX10, 30, rfl⟩
theorem cvL_50 : CV RL 50 yX10_stone cX10_stone 4 (some .int) 2 10 := ⟨cwX10_stone, mT5 41 rfl rfl, mT5 42 rfl rfl, mT5 43 rfl rfl, mT1 12 rfl rfl, by decide +kernel, by decide +kernel, by decide +kernel, by decide, TX10, 30, rfl⟩
theorem cvL_54 : CV RL 54 yX10_flood cX10_flood 4 (some .int) 2 10 := ⟨cwX10_flood, mT5 45 rfl rfl, mT5 46 rfl rfl, mT5 47 rfl rfl, mT1 12 rfl rfl, by decide +kernel, by decide +kernel, by decide +kernel, by decide, TX10, 30, rfl⟩
theorem cvL_58 : CV RL 58 yX10_way cX10_way 2 (some .int) 1 10 := ⟨cwX10_way, mT5 50 rfl rfl, mT5 51 rfl rfl, mT5 52 rfl rfl, mT1 12 rfl rfl, by decide +kernel, by decide +kernel, by decide +kernel, by decide, TX10, 30, rfl⟩
theorem cvX10_192 : CV RX10 192 yX10_wayOf cX10_wayOf 3 (some .int) 2 10 := ⟨cwX10_wayOf, mT5 54 rfl rfl, mT5 56 rfl rfl, mTp4 (n := _) 1 rfl, mT1 12 rfl rfl, by decide +kernel, by decide +kernel, by decide +kernel, by decide, TX10, 30, rfl⟩
theorem cvX10_188 : CV RX10 188 yX10_measures cX10_measures 6 none 2 10 := ⟨cwX10_measures, mT5 58 rfl rfl, mT5 60 rfl rfl, mTp4 (n := _) 2 rfl, mT1 12 rfl rfl, by decide +kernel, by decide +kernel, by decide +kernel, by decide, TX10, 30, rfl⟩
theorem cvL_62 : CV RL 62 yX10_place cX10_place 10 (some .int) 2 10 := ⟨cwX10_place, mT5 63 rfl rfl, mT5 64 rfl rfl, mT5 65 rfl rfl, mT1 12 rfl rfl, by decide +kernel, by decide +kernel, by decide +kernel, by decide, TX10, 30, rfl⟩
theorem cvL_66 : CV RL 66 yX10_pole cX10_pole 5 (some .int) 2 10 := ⟨cwX10_pole, mT5 67 rfl rfl, mT5 68 rfl rfl, mT5 69 rfl rfl, mT1 12 rfl rfl, by decide +kernel, by decide +kernel, by decide +kernel, by decide, TX10, 30, rfl⟩
theorem cvL_70 : CV RL 70 yX10_judge cX10_judge 7 (some .int) 1 10 := ⟨cwX10_judge, mT5 72 rfl rfl, mT5 73 rfl rfl, mT5 74 rfl rfl, mT1 12 rfl rfl, by decide +kernel, by decide +kernel, by decide +kernel, by decide, TX10, 30, rfl⟩
theorem cvL_74 : CV RL 74 yX10_one cX10_one 4 (some .int) 2 10 := ⟨cwX10_one, mT5 77 rfl rfl, mT5 78 rfl rfl, mT5 79 rfl rfl, mT1 12 rfl rfl, by decide +kernel, by decide +kernel, by decide +kernel, by decide, TX10, 30, rfl⟩
theorem cvX10_203 : CV RX10 203 yX10_bestOfOne cX10_bestOfOne 12 (some .int) 1 10 := ⟨cwX10_bestOfOne, mT5 81 rfl rfl, mT5 83 rfl rfl, mTp4 (n := _) 3 rfl, mT1 12 rfl rfl, by decide +kernel, by decide +kernel, by decide +kernel, by decide, TX10, 30, rfl⟩
theorem cvX10_200 : CV RX10 200 yX10_tells cX10_tells 3 none 0 10 := ⟨cwX10_tells, mT5 85 rfl rfl, mT5 87 rfl rfl, mTp4 (n := _) 4 rfl, mT1 12 rfl rfl, by decide +kernel, by decide +kernel, by decide +kernel, by decide, TX10, 30, rfl⟩
theorem cvL_78 : CV RL 78 yX10_all cX10_all 8 (some .int) 1 10 := ⟨cwX10_all, mT5 89 rfl rfl, mT5 90 rfl rfl, mT5 91 rfl rfl, mT1 12 rfl rfl, by decide +kernel, by decide +kernel, by decide +kernel, by decide, TX10, 30, rfl⟩
theorem cvX10_206 : CV RX10 206 yX10_rowsOfAll cX10_rowsOfAll 3 (some .int) 0 10 := ⟨cwX10_rowsOfAll, mT5 93 rfl rfl, mT5 95 rfl rfl, mTp4 (n := _) 5 rfl, mT1 12 rfl rfl, by decide +kernel, by decide +kernel, by decide +kernel, by decide, TX10, 30, rfl⟩
theorem cvX10_209 : CV RX10 209 yX10_lays cX10_lays 4 none 1 10 := ⟨cwX10_lays, mT5 97 rfl rfl, mT5 99 rfl rfl, mTp4 (n := _) 6 rfl, mT1 12 rfl rfl, by decide +kernel, by decide +kernel, by decide +kernel, by decide, TX10, 30, rfl⟩
theorem cvL_82 : CV RL 82 yX10_change cX10_change 1 (some .int) 0 10 := ⟨cwX10_change, mT5 101 rfl rfl, mT5 102 rfl rfl, mT5 103 rfl rfl, mT1 12 rfl rfl, by decide +kernel, by decide +kernel, by decide +kernel, by decide, TX10, 30, rfl⟩
theorem cvX10_219 : CV RX10 219 yX10_changeBy cX10_changeBy 9 (some .int) 1 10 := ⟨cwX10_changeBy, mT5 105 rfl rfl, mT5 107 rfl rfl, mTp4 (n := _) 7 rfl, mT1 12 rfl rfl, by decide +kernel, by decide +kernel, by decide +kernel, by decide, TX10, 30, rfl⟩
theorem cvX10_213 : CV RX10 213 yX10_costBy cX10_costBy 4 (some .int) 2 10 := ⟨cwX10_costBy, mT5 109 rfl rfl, mT5 111 rfl rfl, mTp4 (n := _) 8 rfl, mT1 12 rfl rfl, by decide +kernel, by decide +kernel, by decide +kernel, by decide, TX10, 30, rfl⟩
theorem csX10_216 : CSt RX10 216 yX10_isLess cX10_isLess 2 (some .boolean) 2 := ⟨cwX10_isLess, mT5 113 rfl rfl, mT5 114 rfl rfl, mT1 12 rfl rfl, by decide +kernel, by decide +kernel, by decide +kernel, by decide⟩
theorem cvL_86 : CV RL 86 yX10_rest cX10_rest 4 (some .int) 0 10 := ⟨cwX10_rest, mT5 116 rfl rfl, mT5 117 rfl rfl, mT5 118 rfl rfl, mT1 12 rfl rfl, by decide +kernel, by decide +kernel, by decide +kernel, by decide, TX10, 30, rfl⟩
theorem cvL_90 : CV RL 90 yX10_match cX10_match 6 (some .int) 2 10 := ⟨cwX10_match, mT5 120 rfl rfl, mT5 121 rfl rfl, mT5 122 rfl rfl, mT1 12 rfl rfl, by decide +kernel, by decide +kernel, by decide +kernel, by decide, TX10, 30, rfl⟩
theorem cvL_94 : CV RL 94 yX10_always cX10_always 4 (some .int) 0 10 := ⟨cwX10_always, mT5 124 rfl rfl, mT5 125 rfl rfl, mT5 126 rfl rfl, mT1 12 rfl rfl, by decide +kernel, by decide +kernel, by decide +kernel, by decide, TX10, 30, rfl⟩
theorem cvL_99 : CV RL 99 yX10_shut cX10_shut 14 (some .long) 2 10 := ⟨cwX10_shut, mT5 128 rfl rfl, mT5 129 rfl rfl, mT5 130 rfl rfl, mT1 12 rfl rfl, by decide +kernel, by decide +kernel, by decide +kernel, by decide, TX10, 30, rfl⟩
theorem cvL_103 : CV RL 103 yX10_saw cX10_saw 3 (some .int) 2 10 := ⟨cwX10_saw, mT5 132 rfl rfl, mT5 133 rfl rfl, mT5 134 rfl rfl, mT1 12 rfl rfl, by decide +kernel, by decide +kernel, by decide +kernel, by decide, TX10, 30, rfl⟩
theorem cvL_107 : CV RL 107 yX10_forget cX10_forget 2 (some .int) 0 10 := ⟨cwX10_forget, mT5 136 rfl rfl, mT5 137 rfl rfl, mT5 138 rfl rfl, mT1 12 rfl rfl, by decide +kernel, by decide +kernel, by decide +kernel, by decide, TX10, 30, rfl⟩
theorem cvL_111 : CV RL 111 yX10_fits cX10_fits 1 (some .int) 0 10 := ⟨cwX10_fits, mT5 140 rfl rfl, mT5 141 rfl rfl, mT5 142 rfl rfl, mT1 12 rfl rfl, by decide +kernel, by decide +kernel, by decide +kernel, by decide, TX10, 30, rfl⟩
theorem cvX10_223 : CV RX10 223 yX10_paves cX10_paves 7 (some .int) 0 10 := ⟨cwX10_paves, mT5 144 rfl rfl, mT5 146 rfl rfl, mTp4 (n := _) 9 rfl, mT1 12 rfl rfl, by decide +kernel, by decide +kernel, by decide +kernel, by decide, TX10, 30, rfl⟩
theorem cvL_115 : CV RL 115 yX10_who cX10_who 4 (some .int) 1 10 := ⟨cwX10_who, mT5 148 rfl rfl, mT5 149 rfl rfl, mT5 150 rfl rfl, mT1 12 rfl rfl, by decide +kernel, by decide +kernel, by decide +kernel, by decide, TX10, 30, rfl⟩
theorem cvL_119 : CV RL 119 yX10_mark cX10_mark 8 (some .int) 2 10 := ⟨cwX10_mark, mT5 152 rfl rfl, mT5 153 rfl rfl, mT5 154 rfl rfl, mT1 12 rfl rfl, by decide +kernel, by decide +kernel, by decide +kernel, by decide, TX10, 30, rfl⟩
theorem cvL_123 : CV RL 123 yX10_keep cX10_keep 4 (some .int) 1 10 := ⟨cwX10_keep, mT5 162 rfl rfl, mT5 163 rfl rfl, mT5 164 rfl rfl, mT1 12 rfl rfl, by decide +kernel, by decide +kernel, by decide +kernel, by decide, TX10, 30, rfl⟩
theorem cvX10_240 : CV RX10 240 yX10_owned cX10_owned 3 (some .int) 0 10 := ⟨cwX10_owned, mT5 166 rfl rfl, mT5 168 rfl rfl, mTp4 (n := _) 10 rfl, mT1 12 rfl rfl, by decide +kernel, by decide +kernel, by decide +kernel, by decide, TX10, 30, rfl⟩
theorem cvL_127 : CV RL 127 yX10_back cX10_back 4 (some .int) 1 10 := ⟨cwX10_back, mT5 170 rfl rfl, mT5 171 rfl rfl, mT5 172 rfl rfl, mT1 12 rfl rfl, by decide +kernel, by decide +kernel, by decide +kernel, by decide, TX10, 30, rfl⟩
theorem cvL_131 : CV RL 131 yX10_count cX10_count 2 (some .int) 1 10 := ⟨cwX10_count, mT5 174 rfl rfl, mT5 175 rfl rfl, mT5 176 rfl rfl, mT1 12 rfl rfl, by decide +kernel, by decide +kernel, by decide +kernel, by decide, TX10, 30, rfl⟩
theorem cvL_136 : CV RL 136 yX10_trace cX10_trace 1 (some .long) 0 10 := ⟨cwX10_trace, mT5 178 rfl rfl, mT5 179 rfl rfl, mT5 180 rfl rfl, mT1 12 rfl rfl, by decide +kernel, by decide +kernel, by decide +kernel, by decide, TX10, 30, rfl⟩
theorem kcX0_18 : Cond.constant RX0 18 (100000) ∈ lwT := mT1 187 rfl rfl
theorem kcJ6_265 : Cond.constant RJ6 265 (1431655765) ∈ lwT := mT3 32 rfl rfl
theorem kcJ6_266 : Cond.constant RJ6 266 (858993459) ∈ lwT := mT3 33 rfl rfl
theorem kcJ6_267 : Cond.constant RJ6 267 (252645135) ∈ lwT := mT3 34 rfl rfl
theorem kcX8_49 : Cond.constant RX8 49 (1600000) ∈ lwT := mT3 73 rfl rfl
theorem kcX9_196 : Cond.constant RX9 196 (100000) ∈ lwT := mT3 85 rfl rfl
theorem kcX8_48 : Cond.constant RX8 48 (100000) ∈ lwT := mT3 204 rfl rfl
theorem kcX2_52 : Cond.constant RX2 52 (100000) ∈ lwT := mT3 220 rfl rfl
theorem kcX9_249 : Cond.constant RX9 249 (-1000000) ∈ lwT := mT4 27 rfl rfl
theorem kcX10_187 : Cond.constant RX10 187 (100000) ∈ lwT := mT5 62 rfl rfl
theorem kcX10_226 : Cond.constant RX10 226 (-1000000) ∈ lwT := mT5 156 rfl rfl
theorem klX9_217 : Cond.constantLong RX9 217 (-1) ∈ lwT := mT3 209 rfl rfl
theorem klX2_53 : Cond.constantLong RX2 53 (10) ∈ lwT := mT3 221 rfl rfl
theorem klX9_276 : Cond.constantLong RX9 276 (10) ∈ lwT := mT4 36 rfl rfl
theorem klX9_278 : Cond.constantLong RX9 278 (100) ∈ lwT := mT4 41 rfl rfl
theorem klX9_280 : Cond.constantLong RX9 280 (1000) ∈ lwT := mT4 46 rfl rfl
theorem klX9_282 : Cond.constantLong RX9 282 (10000) ∈ lwT := mT4 51 rfl rfl
theorem klX9_287 : Cond.constantLong RX9 287 (100000) ∈ lwT := mT4 60 rfl rfl
theorem klX10_78 : Cond.constantLong RX10 78 (8) ∈ lwT := mT4 182 rfl rfl
theorem klX10_83 : Cond.constantLong RX10 83 (255) ∈ lwT := mT4 186 rfl rfl
theorem klX10_105 : Cond.constantLong RX10 105 (32) ∈ lwT := mT4 209 rfl rfl
theorem klX10_107 : Cond.constantLong RX10 107 (96) ∈ lwT := mT4 210 rfl rfl
theorem klX10_109 : Cond.constantLong RX10 109 (-1) ∈ lwT := mT4 211 rfl rfl
theorem klX10_111 : Cond.constantLong RX10 111 (10) ∈ lwT := mT4 212 rfl rfl
theorem klX10_113 : Cond.constantLong RX10 113 (48) ∈ lwT := mT4 213 rfl rfl
theorem klX10_115 : Cond.constantLong RX10 115 (1000) ∈ lwT := mT4 214 rfl rfl
theorem klX10_138 : Cond.constantLong RX10 138 (17077349) ∈ lwT := mT4 215 rfl rfl
theorem klX10_143 : Cond.constantLong RX10 143 (202810777) ∈ lwT := mT4 228 rfl rfl
theorem klX10_136 : Cond.constantLong RX10 136 (16832676) ∈ lwT := mT4 233 rfl rfl
theorem klX10_134 : Cond.constantLong RX10 134 (20594117) ∈ lwT := mT4 234 rfl rfl
theorem klX10_148 : Cond.constantLong RX10 148 (6700516) ∈ lwT := mT4 235 rfl rfl
theorem klX10_164 : Cond.constantLong RX10 164 (5) ∈ lwT := mT5 8 rfl rfl
theorem klX10_176 : Cond.constantLong RX10 176 (3) ∈ lwT := mT5 25 rfl rfl
theorem klX10_185 : Cond.constantLong RX10 185 (9) ∈ lwT := mT5 49 rfl rfl
theorem klX10_196 : Cond.constantLong RX10 196 (30) ∈ lwT := mT5 71 rfl rfl
theorem klX10_198 : Cond.constantLong RX10 198 (2) ∈ lwT := mT5 76 rfl rfl
theorem klX10_230 : Cond.constantLong RX10 230 (11) ∈ lwT := mT5 157 rfl rfl
theorem klX10_232 : Cond.constantLong RX10 232 (101) ∈ lwT := mT5 158 rfl rfl
theorem klX10_234 : Cond.constantLong RX10 234 (1011) ∈ lwT := mT5 159 rfl rfl
theorem klX10_236 : Cond.constantLong RX10 236 (10101) ∈ lwT := mT5 160 rfl rfl
theorem klX10_238 : Cond.constantLong RX10 238 (100001) ∈ lwT := mT5 161 rfl rfl
theorem klL_13 : Cond.constantLong RL 13 (4294967295) ∈ lwT := mT5 182 rfl rfl
def shX : List Shp := [.inr (.inl (9, [some (some 1), some (some 3), some (some 4), some (some 11), some (some 18), some (some 22), some (some 34), some (some 35), some (some 36), some (some 39), some (some 43), some (some 45), some (some 46), some none])), .inr (.inl (7, [some (some 2), none])), .inl (1, 300), .inr (.inl (4, [some (some 1), some (some 11), some (some 22), none, none, none, none])), .inr (.inl (5, [none, some (some 5), some (some 6), some (some 7), none, some (some 8), some (some 9), some (some 10)])), .inl (0, 8), .inl (0, 8), .inl (0, 8), .inl (0, 4), .inl (0, 4), .inl (0, 4), .inr (.inl (5, [none, some (some 12), some (some 13), some (some 14), none, some (some 15), some (some 16), some (some 17)])), .inl (0, 8), .inl (0, 8), .inl (0, 8), .inl (0, 4), .inl (0, 4), .inl (0, 4), .inr (.inl (3, [some (some 19), some (some 20), none, none, some (some 21)])), .inl (0, 8), .inl (0, 8), .inl (0, 4), .inr (.inl (3, [some (some 23), some (some 24), none, none, some (some 25)])), .inl (0, 8), .inl (0, 8), .inl (0, 4), .inr (.inl (3, [some (some 27), some (some 28), none, none, some (some 29)])), .inl (0, 8), .inl (0, 8), .inl (0, 4), .inr (.inl (3, [some (some 31), some (some 32), none, none, some (some 33)])), .inl (0, 8), .inl (0, 8), .inl (0, 4), .inr (.inr [26, 30]), .inl (2, 2), .inr (.inl (8, [some (some 4), some (some 37), some (some 38)])), .inl (0, 1024), .inl (0, 6), .inr (.inl (0, [some (some 4), some (some 36), none, none, none, some (some 40), some (some 41), some (some 42)])), .inl (0, 8), .inl (0, 8), .inl (0, 4), .inr (.inl (1, [some (some 4), some (some 36), some (some 44)])), .inl (0, 8), .inr (.inl (2, [some (some 4), some (some 36), some none, some none])), .inr (.inl (6, [some (some 4), some (some 47), some (some 48)])), .inl (0, 16), .inl (0, 16)]
def shM : List Shp := [.inr (.inl (10, [some (some 1), none, none, some (some 2), some (some 3), some (some 4), none, some (some 5), some (some 6), some (some 7), some (some 8), some (some 9), none, some (some 10), some (some 11), some (some 12), some none, none, none, none, some none, none, none, some (some 13), some (some 14), some (some 15), some (some 16), some (some 17), some (some 18), some (some 19)])), .inl (0, 300), .inl (0, 8), .inl (0, 8), .inl (0, 8), .inl (0, 4), .inl (0, 4), .inl (0, 4), .inl (0, 8), .inl (0, 8), .inl (0, 10), .inl (0, 10), .inl (0, 80), .inl (0, 52), .inl (0, 6), .inl (0, 1024), .inl (0, 8), .inl (0, 8), .inl (0, 4), .inl (0, 8)]
theorem sX_0 : shX[0]? = some (.inr (.inl (9, [some (some 1), some (some 3), some (some 4), some (some 11), some (some 18), some (some 22), some (some 34), some (some 35), some (some 36), some (some 39), some (some 43), some (some 45), some (some 46), some none]))) := rfl
theorem sX_1 : shX[1]? = some (.inr (.inl (7, [some (some 2), none]))) := rfl
theorem sX_2 : shX[2]? = some (.inl (1, 300)) := rfl
theorem sX_3 : shX[3]? = some (.inr (.inl (4, [some (some 1), some (some 11), some (some 22), none, none, none, none]))) := rfl
theorem sX_4 : shX[4]? = some (.inr (.inl (5, [none, some (some 5), some (some 6), some (some 7), none, some (some 8), some (some 9), some (some 10)]))) := rfl
theorem sX_5 : shX[5]? = some (.inl (0, 8)) := rfl
theorem sX_6 : shX[6]? = some (.inl (0, 8)) := rfl
theorem sX_7 : shX[7]? = some (.inl (0, 8)) := rfl
theorem sX_8 : shX[8]? = some (.inl (0, 4)) := rfl
theorem sX_9 : shX[9]? = some (.inl (0, 4)) := rfl
theorem sX_10 : shX[10]? = some (.inl (0, 4)) := rfl
theorem sX_11 : shX[11]? = some (.inr (.inl (5, [none, some (some 12), some (some 13), some (some 14), none, some (some 15), some (some 16), some (some 17)]))) := rfl
theorem sX_12 : shX[12]? = some (.inl (0, 8)) := rfl
theorem sX_13 : shX[13]? = some (.inl (0, 8)) := rfl
theorem sX_14 : shX[14]? = some (.inl (0, 8)) := rfl
theorem sX_15 : shX[15]? = some (.inl (0, 4)) := rfl
theorem sX_16 : shX[16]? = some (.inl (0, 4)) := rfl
theorem sX_17 : shX[17]? = some (.inl (0, 4)) := rfl
theorem sX_18 : shX[18]? = some (.inr (.inl (3, [some (some 19), some (some 20), none, none, some (some 21)]))) := rfl
theorem sX_19 : shX[19]? = some (.inl (0, 8)) := rfl
theorem sX_20 : shX[20]? = some (.inl (0, 8)) := rfl
theorem sX_21 : shX[21]? = some (.inl (0, 4)) := rfl
theorem sX_22 : shX[22]? = some (.inr (.inl (3, [some (some 23), some (some 24), none, none, some (some 25)]))) := rfl
theorem sX_23 : shX[23]? = some (.inl (0, 8)) := rfl
theorem sX_24 : shX[24]? = some (.inl (0, 8)) := rfl
theorem sX_25 : shX[25]? = some (.inl (0, 4)) := rfl
theorem sX_26 : shX[26]? = some (.inr (.inl (3, [some (some 27), some (some 28), none, none, some (some 29)]))) := rfl
theorem sX_27 : shX[27]? = some (.inl (0, 8)) := rfl
theorem sX_28 : shX[28]? = some (.inl (0, 8)) := rfl
theorem sX_29 : shX[29]? = some (.inl (0, 4)) := rfl
theorem sX_30 : shX[30]? = some (.inr (.inl (3, [some (some 31), some (some 32), none, none, some (some 33)]))) := rfl
theorem sX_31 : shX[31]? = some (.inl (0, 8)) := rfl
theorem sX_32 : shX[32]? = some (.inl (0, 8)) := rfl
theorem sX_33 : shX[33]? = some (.inl (0, 4)) := rfl
theorem sX_34 : shX[34]? = some (.inr (.inr [26, 30])) := rfl
theorem sX_35 : shX[35]? = some (.inl (2, 2)) := rfl
theorem sX_36 : shX[36]? = some (.inr (.inl (8, [some (some 4), some (some 37), some (some 38)]))) := rfl
theorem sX_37 : shX[37]? = some (.inl (0, 1024)) := rfl
theorem sX_38 : shX[38]? = some (.inl (0, 6)) := rfl
theorem sX_39 : shX[39]? = some (.inr (.inl (0, [some (some 4), some (some 36), none, none, none, some (some 40), some (some 41), some (some 42)]))) := rfl
theorem sX_40 : shX[40]? = some (.inl (0, 8)) := rfl
theorem sX_41 : shX[41]? = some (.inl (0, 8)) := rfl
theorem sX_42 : shX[42]? = some (.inl (0, 4)) := rfl
theorem sX_43 : shX[43]? = some (.inr (.inl (1, [some (some 4), some (some 36), some (some 44)]))) := rfl
theorem sX_44 : shX[44]? = some (.inl (0, 8)) := rfl
theorem sX_45 : shX[45]? = some (.inr (.inl (2, [some (some 4), some (some 36), some none, some none]))) := rfl
theorem sX_46 : shX[46]? = some (.inr (.inl (6, [some (some 4), some (some 47), some (some 48)]))) := rfl
theorem sX_47 : shX[47]? = some (.inl (0, 16)) := rfl
theorem sX_48 : shX[48]? = some (.inl (0, 16)) := rfl
theorem sM_0 : shM[0]? = some (.inr (.inl (10, [some (some 1), none, none, some (some 2), some (some 3), some (some 4), none, some (some 5), some (some 6), some (some 7), some (some 8), some (some 9), none, some (some 10), some (some 11), some (some 12), some none, none, none, none, some none, none, none, some (some 13), some (some 14), some (some 15), some (some 16), some (some 17), some (some 18), some (some 19)]))) := rfl
theorem sM_1 : shM[1]? = some (.inl (0, 300)) := rfl
theorem sM_2 : shM[2]? = some (.inl (0, 8)) := rfl
theorem sM_3 : shM[3]? = some (.inl (0, 8)) := rfl
theorem sM_4 : shM[4]? = some (.inl (0, 8)) := rfl
theorem sM_5 : shM[5]? = some (.inl (0, 4)) := rfl
theorem sM_6 : shM[6]? = some (.inl (0, 4)) := rfl
theorem sM_7 : shM[7]? = some (.inl (0, 4)) := rfl
theorem sM_8 : shM[8]? = some (.inl (0, 8)) := rfl
theorem sM_9 : shM[9]? = some (.inl (0, 8)) := rfl
theorem sM_10 : shM[10]? = some (.inl (0, 10)) := rfl
theorem sM_11 : shM[11]? = some (.inl (0, 10)) := rfl
theorem sM_12 : shM[12]? = some (.inl (0, 80)) := rfl
theorem sM_13 : shM[13]? = some (.inl (0, 52)) := rfl
theorem sM_14 : shM[14]? = some (.inl (0, 6)) := rfl
theorem sM_15 : shM[15]? = some (.inl (0, 1024)) := rfl
theorem sM_16 : shM[16]? = some (.inl (0, 8)) := rfl
theorem sM_17 : shM[17]? = some (.inl (0, 8)) := rfl
theorem sM_18 : shM[18]? = some (.inl (0, 4)) := rfl
theorem sM_19 : shM[19]? = some (.inl (0, 8)) := rfl
end
section
section RU2
variable {K : KT} {cc : ByteArray} {own : String} {nL d : Nat} {θ : Site} {sx : List Shp} {Fi : Int32 → St → Prop} {Fl : Int64 → St → Prop} {Fv : St → Prop} {pc : Nat} {lv : LV} {st : List Value} {S : St}
theorem nI_inc (p : Nat) : nI p + Int32.ofInt 1 = nI (p + 1) := by rw [show Int32.ofInt 1 = 1 by decide]; exact nI_1 p
theorem q_inc1_0 (hC : Ok K cc own nL d θ sx Fi Fl Fv) {p : Nat} {tl : LV} (dg : decode cc pc = .ok (.iinc 0 1, 3)) (k : K (pc + 3) (some (.int (nI (p + 1))) :: tl) st S)  : K pc (some (.int (nI p)) :: tl) st S :=
  q_iinc_0 hC dg (nI_inc p) k 
theorem q_inc1_1 (hC : Ok K cc own nL d θ sx Fi Fl Fv) {p : Nat} {a0 : Option Value} {tl : LV} (dg : decode cc pc = .ok (.iinc 1 1, 3)) (k : K (pc + 3) (a0 :: some (.int (nI (p + 1))) :: tl) st S) (hh : nl1 a0 = true := by rfl) : K pc (a0 :: some (.int (nI p)) :: tl) st S :=
  q_iinc_1 hC dg (nI_inc p) k hh
theorem q_inc1_2 (hC : Ok K cc own nL d θ sx Fi Fl Fv) {p : Nat} {a0 a1 : Option Value} {tl : LV} (dg : decode cc pc = .ok (.iinc 2 1, 3)) (k : K (pc + 3) (a0 :: a1 :: some (.int (nI (p + 1))) :: tl) st S) (hh : nl1 a1 = true := by rfl) : K pc (a0 :: a1 :: some (.int (nI p)) :: tl) st S :=
  q_iinc_2 hC dg (nI_inc p) k hh
theorem q_inc1_3 (hC : Ok K cc own nL d θ sx Fi Fl Fv) {p : Nat} {a0 a1 a2 : Option Value} {tl : LV} (dg : decode cc pc = .ok (.iinc 3 1, 3)) (k : K (pc + 3) (a0 :: a1 :: a2 :: some (.int (nI (p + 1))) :: tl) st S) (hh : nl1 a2 = true := by rfl) : K pc (a0 :: a1 :: a2 :: some (.int (nI p)) :: tl) st S :=
  q_iinc_3 hC dg (nI_inc p) k hh
theorem q_inc1_4 (hC : Ok K cc own nL d θ sx Fi Fl Fv) {p : Nat} {a0 a1 a2 a3 : Option Value} {tl : LV} (dg : decode cc pc = .ok (.iinc 4 1, 3)) (k : K (pc + 3) (a0 :: a1 :: a2 :: a3 :: some (.int (nI (p + 1))) :: tl) st S) (hh : nl1 a3 = true := by rfl) : K pc (a0 :: a1 :: a2 :: a3 :: some (.int (nI p)) :: tl) st S :=
  q_iinc_4 hC dg (nI_inc p) k hh
theorem q_inc1_5 (hC : Ok K cc own nL d θ sx Fi Fl Fv) {p : Nat} {a0 a1 a2 a3 a4 : Option Value} {tl : LV} (dg : decode cc pc = .ok (.iinc 5 1, 3)) (k : K (pc + 3) (a0 :: a1 :: a2 :: a3 :: a4 :: some (.int (nI (p + 1))) :: tl) st S) (hh : nl1 a4 = true := by rfl) : K pc (a0 :: a1 :: a2 :: a3 :: a4 :: some (.int (nI p)) :: tl) st S :=
  q_iinc_5 hC dg (nI_inc p) k hh
theorem q_inc1_6 (hC : Ok K cc own nL d θ sx Fi Fl Fv) {p : Nat} {a0 a1 a2 a3 a4 a5 : Option Value} {tl : LV} (dg : decode cc pc = .ok (.iinc 6 1, 3)) (k : K (pc + 3) (a0 :: a1 :: a2 :: a3 :: a4 :: a5 :: some (.int (nI (p + 1))) :: tl) st S) (hh : nl1 a5 = true := by rfl) : K pc (a0 :: a1 :: a2 :: a3 :: a4 :: a5 :: some (.int (nI p)) :: tl) st S :=
  q_iinc_6 hC dg (nI_inc p) k hh
theorem q_inc1_7 (hC : Ok K cc own nL d θ sx Fi Fl Fv) {p : Nat} {a0 a1 a2 a3 a4 a5 a6 : Option Value} {tl : LV} (dg : decode cc pc = .ok (.iinc 7 1, 3)) (k : K (pc + 3) (a0 :: a1 :: a2 :: a3 :: a4 :: a5 :: a6 :: some (.int (nI (p + 1))) :: tl) st S) (hh : nl1 a6 = true := by rfl) : K pc (a0 :: a1 :: a2 :: a3 :: a4 :: a5 :: a6 :: some (.int (nI p)) :: tl) st S :=
  q_iinc_7 hC dg (nI_inc p) k hh
theorem q_inc1_8 (hC : Ok K cc own nL d θ sx Fi Fl Fv) {p : Nat} {a0 a1 a2 a3 a4 a5 a6 a7 : Option Value} {tl : LV} (dg : decode cc pc = .ok (.iinc 8 1, 3)) (k : K (pc + 3) (a0 :: a1 :: a2 :: a3 :: a4 :: a5 :: a6 :: a7 :: some (.int (nI (p + 1))) :: tl) st S) (hh : nl1 a7 = true := by rfl) : K pc (a0 :: a1 :: a2 :: a3 :: a4 :: a5 :: a6 :: a7 :: some (.int (nI p)) :: tl) st S :=
  q_iinc_8 hC dg (nI_inc p) k hh
theorem q_inc1_9 (hC : Ok K cc own nL d θ sx Fi Fl Fv) {p : Nat} {a0 a1 a2 a3 a4 a5 a6 a7 a8 : Option Value} {tl : LV} (dg : decode cc pc = .ok (.iinc 9 1, 3)) (k : K (pc + 3) (a0 :: a1 :: a2 :: a3 :: a4 :: a5 :: a6 :: a7 :: a8 :: some (.int (nI (p + 1))) :: tl) st S) (hh : nl1 a8 = true := by rfl) : K pc (a0 :: a1 :: a2 :: a3 :: a4 :: a5 :: a6 :: a7 :: a8 :: some (.int (nI p)) :: tl) st S :=
  q_iinc_9 hC dg (nI_inc p) k hh
theorem q_inc1_10 (hC : Ok K cc own nL d θ sx Fi Fl Fv) {p : Nat} {a0 a1 a2 a3 a4 a5 a6 a7 a8 a9 : Option Value} {tl : LV} (dg : decode cc pc = .ok (.iinc 10 1, 3)) (k : K (pc + 3) (a0 :: a1 :: a2 :: a3 :: a4 :: a5 :: a6 :: a7 :: a8 :: a9 :: some (.int (nI (p + 1))) :: tl) st S) (hh : nl1 a9 = true := by rfl) : K pc (a0 :: a1 :: a2 :: a3 :: a4 :: a5 :: a6 :: a7 :: a8 :: a9 :: some (.int (nI p)) :: tl) st S :=
  q_iinc_10 hC dg (nI_inc p) k hh
theorem q_inc1_11 (hC : Ok K cc own nL d θ sx Fi Fl Fv) {p : Nat} {a0 a1 a2 a3 a4 a5 a6 a7 a8 a9 a10 : Option Value} {tl : LV} (dg : decode cc pc = .ok (.iinc 11 1, 3)) (k : K (pc + 3) (a0 :: a1 :: a2 :: a3 :: a4 :: a5 :: a6 :: a7 :: a8 :: a9 :: a10 :: some (.int (nI (p + 1))) :: tl) st S) (hh : nl1 a10 = true := by rfl) : K pc (a0 :: a1 :: a2 :: a3 :: a4 :: a5 :: a6 :: a7 :: a8 :: a9 :: a10 :: some (.int (nI p)) :: tl) st S :=
  q_iinc_11 hC dg (nI_inc p) k hh
theorem q_inc1_12 (hC : Ok K cc own nL d θ sx Fi Fl Fv) {p : Nat} {a0 a1 a2 a3 a4 a5 a6 a7 a8 a9 a10 a11 : Option Value} {tl : LV} (dg : decode cc pc = .ok (.iinc 12 1, 3)) (k : K (pc + 3) (a0 :: a1 :: a2 :: a3 :: a4 :: a5 :: a6 :: a7 :: a8 :: a9 :: a10 :: a11 :: some (.int (nI (p + 1))) :: tl) st S) (hh : nl1 a11 = true := by rfl) : K pc (a0 :: a1 :: a2 :: a3 :: a4 :: a5 :: a6 :: a7 :: a8 :: a9 :: a10 :: a11 :: some (.int (nI p)) :: tl) st S :=
  q_iinc_12 hC dg (nI_inc p) k hh
theorem q_inc1_13 (hC : Ok K cc own nL d θ sx Fi Fl Fv) {p : Nat} {a0 a1 a2 a3 a4 a5 a6 a7 a8 a9 a10 a11 a12 : Option Value} {tl : LV} (dg : decode cc pc = .ok (.iinc 13 1, 3)) (k : K (pc + 3) (a0 :: a1 :: a2 :: a3 :: a4 :: a5 :: a6 :: a7 :: a8 :: a9 :: a10 :: a11 :: a12 :: some (.int (nI (p + 1))) :: tl) st S) (hh : nl1 a12 = true := by rfl) : K pc (a0 :: a1 :: a2 :: a3 :: a4 :: a5 :: a6 :: a7 :: a8 :: a9 :: a10 :: a11 :: a12 :: some (.int (nI p)) :: tl) st S :=
  q_iinc_13 hC dg (nI_inc p) k hh
theorem q_inc1_14 (hC : Ok K cc own nL d θ sx Fi Fl Fv) {p : Nat} {a0 a1 a2 a3 a4 a5 a6 a7 a8 a9 a10 a11 a12 a13 : Option Value} {tl : LV} (dg : decode cc pc = .ok (.iinc 14 1, 3)) (k : K (pc + 3) (a0 :: a1 :: a2 :: a3 :: a4 :: a5 :: a6 :: a7 :: a8 :: a9 :: a10 :: a11 :: a12 :: a13 :: some (.int (nI (p + 1))) :: tl) st S) (hh : nl1 a13 = true := by rfl) : K pc (a0 :: a1 :: a2 :: a3 :: a4 :: a5 :: a6 :: a7 :: a8 :: a9 :: a10 :: a11 :: a12 :: a13 :: some (.int (nI p)) :: tl) st S :=
  q_iinc_14 hC dg (nI_inc p) k hh
theorem q_inc1_15 (hC : Ok K cc own nL d θ sx Fi Fl Fv) {p : Nat} {a0 a1 a2 a3 a4 a5 a6 a7 a8 a9 a10 a11 a12 a13 a14 : Option Value} {tl : LV} (dg : decode cc pc = .ok (.iinc 15 1, 3)) (k : K (pc + 3) (a0 :: a1 :: a2 :: a3 :: a4 :: a5 :: a6 :: a7 :: a8 :: a9 :: a10 :: a11 :: a12 :: a13 :: a14 :: some (.int (nI (p + 1))) :: tl) st S) (hh : nl1 a14 = true := by rfl) : K pc (a0 :: a1 :: a2 :: a3 :: a4 :: a5 :: a6 :: a7 :: a8 :: a9 :: a10 :: a11 :: a12 :: a13 :: a14 :: some (.int (nI p)) :: tl) st S :=
  q_iinc_15 hC dg (nI_inc p) k hh
theorem q_inc1_16 (hC : Ok K cc own nL d θ sx Fi Fl Fv) {p : Nat} {a0 a1 a2 a3 a4 a5 a6 a7 a8 a9 a10 a11 a12 a13 a14 a15 : Option Value} {tl : LV} (dg : decode cc pc = .ok (.iinc 16 1, 3)) (k : K (pc + 3) (a0 :: a1 :: a2 :: a3 :: a4 :: a5 :: a6 :: a7 :: a8 :: a9 :: a10 :: a11 :: a12 :: a13 :: a14 :: a15 :: some (.int (nI (p + 1))) :: tl) st S) (hh : nl1 a15 = true := by rfl) : K pc (a0 :: a1 :: a2 :: a3 :: a4 :: a5 :: a6 :: a7 :: a8 :: a9 :: a10 :: a11 :: a12 :: a13 :: a14 :: a15 :: some (.int (nI p)) :: tl) st S :=
  q_iinc_16 hC dg (nI_inc p) k hh
theorem q_inc1_17 (hC : Ok K cc own nL d θ sx Fi Fl Fv) {p : Nat} {a0 a1 a2 a3 a4 a5 a6 a7 a8 a9 a10 a11 a12 a13 a14 a15 a16 : Option Value} {tl : LV} (dg : decode cc pc = .ok (.iinc 17 1, 3)) (k : K (pc + 3) (a0 :: a1 :: a2 :: a3 :: a4 :: a5 :: a6 :: a7 :: a8 :: a9 :: a10 :: a11 :: a12 :: a13 :: a14 :: a15 :: a16 :: some (.int (nI (p + 1))) :: tl) st S) (hh : nl1 a16 = true := by rfl) : K pc (a0 :: a1 :: a2 :: a3 :: a4 :: a5 :: a6 :: a7 :: a8 :: a9 :: a10 :: a11 :: a12 :: a13 :: a14 :: a15 :: a16 :: some (.int (nI p)) :: tl) st S :=
  q_iinc_17 hC dg (nI_inc p) k hh
theorem q_inc1_18 (hC : Ok K cc own nL d θ sx Fi Fl Fv) {p : Nat} {a0 a1 a2 a3 a4 a5 a6 a7 a8 a9 a10 a11 a12 a13 a14 a15 a16 a17 : Option Value} {tl : LV} (dg : decode cc pc = .ok (.iinc 18 1, 3)) (k : K (pc + 3) (a0 :: a1 :: a2 :: a3 :: a4 :: a5 :: a6 :: a7 :: a8 :: a9 :: a10 :: a11 :: a12 :: a13 :: a14 :: a15 :: a16 :: a17 :: some (.int (nI (p + 1))) :: tl) st S) (hh : nl1 a17 = true := by rfl) : K pc (a0 :: a1 :: a2 :: a3 :: a4 :: a5 :: a6 :: a7 :: a8 :: a9 :: a10 :: a11 :: a12 :: a13 :: a14 :: a15 :: a16 :: a17 :: some (.int (nI p)) :: tl) st S :=
  q_iinc_18 hC dg (nI_inc p) k hh
theorem q_inc1_19 (hC : Ok K cc own nL d θ sx Fi Fl Fv) {p : Nat} {a0 a1 a2 a3 a4 a5 a6 a7 a8 a9 a10 a11 a12 a13 a14 a15 a16 a17 a18 : Option Value} {tl : LV} (dg : decode cc pc = .ok (.iinc 19 1, 3)) (k : K (pc + 3) (a0 :: a1 :: a2 :: a3 :: a4 :: a5 :: a6 :: a7 :: a8 :: a9 :: a10 :: a11 :: a12 :: a13 :: a14 :: a15 :: a16 :: a17 :: a18 :: some (.int (nI (p + 1))) :: tl) st S) (hh : nl1 a18 = true := by rfl) : K pc (a0 :: a1 :: a2 :: a3 :: a4 :: a5 :: a6 :: a7 :: a8 :: a9 :: a10 :: a11 :: a12 :: a13 :: a14 :: a15 :: a16 :: a17 :: a18 :: some (.int (nI p)) :: tl) st S :=
  q_iinc_19 hC dg (nI_inc p) k hh
theorem q_inc1_20 (hC : Ok K cc own nL d θ sx Fi Fl Fv) {p : Nat} {a0 a1 a2 a3 a4 a5 a6 a7 a8 a9 a10 a11 a12 a13 a14 a15 a16 a17 a18 a19 : Option Value} {tl : LV} (dg : decode cc pc = .ok (.iinc 20 1, 3)) (k : K (pc + 3) (a0 :: a1 :: a2 :: a3 :: a4 :: a5 :: a6 :: a7 :: a8 :: a9 :: a10 :: a11 :: a12 :: a13 :: a14 :: a15 :: a16 :: a17 :: a18 :: a19 :: some (.int (nI (p + 1))) :: tl) st S) (hh : nl1 a19 = true := by rfl) : K pc (a0 :: a1 :: a2 :: a3 :: a4 :: a5 :: a6 :: a7 :: a8 :: a9 :: a10 :: a11 :: a12 :: a13 :: a14 :: a15 :: a16 :: a17 :: a18 :: a19 :: some (.int (nI p)) :: tl) st S :=
  q_iinc_20 hC dg (nI_inc p) k hh
theorem q_inc1_21 (hC : Ok K cc own nL d θ sx Fi Fl Fv) {p : Nat} {a0 a1 a2 a3 a4 a5 a6 a7 a8 a9 a10 a11 a12 a13 a14 a15 a16 a17 a18 a19 a20 : Option Value} {tl : LV} (dg : decode cc pc = .ok (.iinc 21 1, 3)) (k : K (pc + 3) (a0 :: a1 :: a2 :: a3 :: a4 :: a5 :: a6 :: a7 :: a8 :: a9 :: a10 :: a11 :: a12 :: a13 :: a14 :: a15 :: a16 :: a17 :: a18 :: a19 :: a20 :: some (.int (nI (p + 1))) :: tl) st S) (hh : nl1 a20 = true := by rfl) : K pc (a0 :: a1 :: a2 :: a3 :: a4 :: a5 :: a6 :: a7 :: a8 :: a9 :: a10 :: a11 :: a12 :: a13 :: a14 :: a15 :: a16 :: a17 :: a18 :: a19 :: a20 :: some (.int (nI p)) :: tl) st S :=
  q_iinc_21 hC dg (nI_inc p) k hh
theorem q_ialdn (hC : Ok K cc own nL d θ sx Fi Fl Fv) {q n i : Nat} (hs : sx[q]? = some (.inl (0, n))) (hi : i < n) (dg : decode cc pc = .ok (.iaload, 1)) (k : K (pc + 1) lv (.int (S.1 q i) :: st) S) (hn : n ≤ 2048 := by (first | decide | assumption)) : K pc lv (.int (nI i) :: .ref (sA θ q) :: st) S := by
  refine q_iald hC hs (vp_in_nI hi (by omega)) dg ?_
  rw [nI_clamp (by omega)]; exact k
theorem q_baldn (hC : Ok K cc own nL d θ sx Fi Fl Fv) {q n i : Nat} (hs : sx[q]? = some (.inl (1, n))) (hi : i < n) (dg : decode cc pc = .ok (.baload, 1)) (k : K (pc + 1) lv (.int (S.1 q i) :: st) S) (hn : n ≤ 2048 := by (first | decide | assumption)) : K pc lv (.int (nI i) :: .ref (sA θ q) :: st) S := by
  refine q_bald hC hs (vp_in_nI hi (by omega)) dg ?_
  rw [nI_clamp (by omega)]; exact k
theorem q_zaldn (hC : Ok K cc own nL d θ sx Fi Fl Fv) {q n i : Nat} (hs : sx[q]? = some (.inl (2, n))) (hi : i < n) (dg : decode cc pc = .ok (.baload, 1)) (k : K (pc + 1) lv (.int (S.1 q i) :: st) S) (hn : n ≤ 2048 := by (first | decide | assumption)) : K pc lv (.int (nI i) :: .ref (sA θ q) :: st) S := by
  refine q_zald hC hs (vp_in_nI hi (by omega)) dg ?_
  rw [nI_clamp (by omega)]; exact k
theorem q_iastn (hC : Ok K cc own nL d θ sx Fi Fl Fv) {q n i : Nat} {v : Int32} (hs : sx[q]? = some (.inl (0, n))) (hi : i < n) (dg : decode cc pc = .ok (.iastore, 1)) (k : K (pc + 1) lv st (up S q i v)) (hn : n ≤ 2048 := by (first | decide | assumption)) : K pc lv (.int v :: .int (nI i) :: .ref (sA θ q) :: st) S := by
  refine q_iast hC hs (vp_in_nI hi (by omega)) dg ?_
  rw [nI_clamp (by omega)]; exact k
theorem q_bastn (hC : Ok K cc own nL d θ sx Fi Fl Fv) {q n i : Nat} {v : Int32} (hs : sx[q]? = some (.inl (1, n))) (hi : i < n) (dg : decode cc pc = .ok (.bastore, 1)) (k : K (pc + 1) lv st (up S q i (vp_nar .byte v))) (hn : n ≤ 2048 := by (first | decide | assumption)) : K pc lv (.int v :: .int (nI i) :: .ref (sA θ q) :: st) S := by
  refine q_bast hC hs (vp_in_nI hi (by omega)) dg ?_
  rw [nI_clamp (by omega)]; exact k
theorem q_zastn (hC : Ok K cc own nL d θ sx Fi Fl Fv) {q n i : Nat} {v : Int32} (hs : sx[q]? = some (.inl (2, n))) (hi : i < n) (dg : decode cc pc = .ok (.bastore, 1)) (k : K (pc + 1) lv st (up S q i (vp_nar .boolean v))) (hn : n ≤ 2048 := by (first | decide | assumption)) : K pc lv (.int v :: .int (nI i) :: .ref (sA θ q) :: st) S := by
  refine q_zast hC hs (vp_in_nI hi (by omega)) dg ?_
  rw [nI_clamp (by omega)]; exact k
theorem q_alenn (hC : Ok K cc own nL d θ sx Fi Fl Fv) {q t n : Nat} (hs : sx[q]? = some (.inl (t, n))) (ht : t < 3) (dg : decode cc pc = .ok (.arraylength, 1)) (k : K (pc + 1) lv (.int (nI n) :: st) S) : K pc lv (.ref (sA θ q) :: st) S := q_alen hC hs ht rfl dg k
/-- a computed value gets another face -/
theorem q_eq (hC : Ok K cc own nL d θ sx Fi Fl Fv) {x y : Int32} (h : x = y) (k : K pc lv (.int y :: st) S) : K pc lv (.int x :: st) S := h ▸ k
theorem q_eql (hC : Ok K cc own nL d θ sx Fi Fl Fv) {x y : Int64} (h : x = y) (k : K pc lv (.long y :: st) S) : K pc lv (.long x :: st) S := h ▸ k
theorem q_St (hC : Ok K cc own nL d θ sx Fi Fl Fv) {S2 : St} (h : S = S2) (k : K pc lv st S2) : K pc lv st S := h ▸ k
end RU2

-- numbers
theorem nI_small {a b : Nat} (ha : a < 2 ^ 31) (hb : b < 2 ^ 31) (h : nI a = nI b) : a = b := (nI_eq ha hb).mp h
theorem sh1 {p : Nat} (h : p < 31) : nI 1 <<< (nI p &&& 31) = nI (2 ^ p) := by
  have : ∀ p, p < 31 → nI 1 <<< (nI p &&& 31) = nI (2 ^ p) := by decide +kernel
  exact this p h
theorem bmod32 {p : Nat} (h : p < 31) : ((nI p &&& 31).toBitVec.smod 32).toNat = p := by
  have : ∀ p, p < 31 → ((nI p &&& 31).toBitVec.smod 32).toNat = p := by decide +kernel
  exact this p h
theorem shr_n {m p : Nat} (hm : m < 2 ^ 31) (h : p < 31) : nI m >>> (nI p &&& 31) = nI (m / 2 ^ p) := pk_shrN hm _ p (bmod32 h)
theorem and1_n {m : Nat} (hm : m < 2 ^ 31) : nI m &&& nI 1 = nI (m % 2) := by
  rw [pk_andN (show m < 2 ^ 32 by omega) (m := nI 1) 1 (by decide)]
theorem bit_n {m p : Nat} (hm : m < 2 ^ 31) (h : p < 31) : (nI m >>> (nI p &&& 31)) &&& nI 1 = nI (m / 2 ^ p % 2) := by
  rw [shr_n hm h, and1_n (Nat.lt_of_le_of_lt (Nat.div_le_self _ _) hm)]
theorem nI_bv {n : Nat} : (nI n).toBitVec = BitVec.ofNat 32 n := rfl
theorem or_n {a b : Nat} : nI a ||| nI b = nI (a ||| b) := by
  apply Int32.toBitVec_inj.mp
  show (nI a).toBitVec ||| (nI b).toBitVec = (nI (a ||| b)).toBitVec
  rw [nI_bv, nI_bv, nI_bv, BitVec.ofNat_or]
theorem and_n {a b : Nat} : nI a &&& nI b = nI (a &&& b) := by
  apply Int32.toBitVec_inj.mp
  show (nI a).toBitVec &&& (nI b).toBitVec = (nI (a &&& b)).toBitVec
  rw [nI_bv, nI_bv, nI_bv, BitVec.ofNat_and]
theorem or_add {m p : Nat} (h : m < 2 ^ p) : m ||| 2 ^ p = m + 2 ^ p := by
  have := Nat.two_pow_add_eq_or_of_lt h 1
  rw [Nat.mul_one] at this
  rw [Nat.or_comm, ← this, Nat.add_comm]
def b2n (b : Bool) : Nat := if b then 1 else 0
/-- the bits of the first n that have g -/
def msk (g : Nat → Bool) : Nat → Nat
  | 0 => 0
  | n + 1 => msk g n + (if g n then 2 ^ n else 0)
theorem msk_lt (g : Nat → Bool) : ∀ n, msk g n < 2 ^ n
  | 0 => by simp [msk]
  | n + 1 => by
    have := msk_lt g n
    simp only [msk, Nat.pow_succ]
    split <;> omega
theorem msk_congr {g h : Nat → Bool} : ∀ {n : Nat}, (∀ p, p < n → g p = h p) → msk g n = msk h n
  | 0, _ => rfl
  | n + 1, hh => by
    simp only [msk]
    rw [msk_congr (n := n) (fun p hp => hh p (by omega)), hh n (by omega)]
theorem msk_or (g : Nat → Bool) (n : Nat) : nI (msk g n) ||| (if g n then nI (2 ^ n) else nI 0) = nI (msk g (n + 1)) := by
  simp only [msk]
  split
  · rw [or_n, or_add (msk_lt g n)]
  · rw [or_n, Nat.or_zero, Nat.add_zero]
theorem msk_bit (g : Nat → Bool) : ∀ n p, msk g n / 2 ^ p % 2 = if p < n ∧ g p = true then 1 else 0
  | 0, p => by simp [msk]
  | n + 1, p => by
    have ih := msk_bit g n p
    have hl := msk_lt g n
    simp only [msk]
    by_cases hp : p = n
    · subst hp
      have h0 : msk g p / 2 ^ p = 0 := Nat.div_eq_of_lt hl
      split
      · rename_i hg
        rw [Nat.add_div_right _ (Nat.two_pow_pos p), h0, if_pos ⟨by omega, hg⟩]
      · rename_i hg
        rw [Nat.add_zero, h0, if_neg (fun h => hg h.2)]
    · by_cases hlt : p < n
      · have e : (if g n = true then 2 ^ n else 0) = 2 ^ p * (2 * (if g n = true then 2 ^ (n - p - 1) else 0)) := by
          split
          · rw [← Nat.mul_assoc, ← Nat.pow_succ, ← Nat.pow_add]; congr 1; omega
          · rfl
        rw [e, Nat.add_mul_div_left _ _ (Nat.two_pow_pos p), Nat.add_mul_mod_self_left, ih]
        simp only [show (p < n + 1) = True from by simp; omega, hlt, true_and]
      · have h1 : msk g n + (if g n = true then 2 ^ n else 0) < 2 ^ p := by
          have h2 : 2 ^ (n + 1) ≤ 2 ^ p := Nat.pow_le_pow_right (by omega) (by omega)
          have h3 : 2 ^ (n + 1) = 2 ^ n + 2 ^ n := by rw [Nat.pow_succ]; omega
          split <;> omega
        rw [Nat.div_eq_of_lt h1, if_neg (by omega)]
end
section
/-! ===== what the cells say: frames, a town, a now ===== -/
/-- only the cells of L may differ -/
def Fr (S S' : St) (L : List Nat) : Prop := (∀ a, a ∉ L → S'.1 a = S.1 a) ∧ S'.2 = S.2
theorem Fr.rfl' {S : St} {L : List Nat} : Fr S S L := ⟨fun _ _ => rfl, rfl⟩
theorem Fr.trans {S S1 S2 : St} {L : List Nat} (h : Fr S S1 L) (h2 : Fr S1 S2 L) : Fr S S2 L := ⟨fun a ha => (h2.1 a ha).trans (h.1 a ha), h2.2.trans h.2⟩
theorem Fr.mono {S S1 : St} {L M : List Nat} (h : Fr S S1 L) (hm : ∀ a, a ∈ L → a ∈ M) : Fr S S1 M := ⟨fun a ha => h.1 a (fun z => ha (hm a z)), h.2⟩
theorem Fr.c {S S' : St} {L : List Nat} (h : Fr S S' L) (a : Nat) (ha : a ∉ L := by decide) : S'.1 a = S.1 a := h.1 a ha
theorem Fr.u1 {S : St} {k j : Nat} {v : Int32} : Fr S (up S k j v) [k] := ⟨fun a ha => by funext b; exact up_o (fun h => ha (by rw [h.1]; exact List.mem_singleton.mpr rfl)), rfl⟩
theorem Fr.uA {S : St} {k : Nat} {f : Nat → Int32} : Fr S (upA S k f) [k] := ⟨fun a ha => by funext b; have : a ≠ k := fun h => ha (by rw [h]; exact List.mem_singleton.mpr rfl); simp [upA, this], rfl⟩
theorem upA_s {S : St} {k j : Nat} {f : Nat → Int32} : (upA S k f).1 k j = f j := by simp [upA]
theorem upA_o {S : St} {k a : Nat} {f : Nat → Int32} (h : a ≠ k) : (upA S k f).1 a = S.1 a := by funext b; simp [upA, h]
theorem up_oc {S : St} {k j a : Nat} {v : Int32} (h : a ≠ k) : (up S k j v).1 a = S.1 a := by funext b; exact up_o (fun z => h z.1)
theorem up_of {S : St} {k j b : Nat} {v : Int32} (h : b ≠ j) : (up S k j v).1 k b = S.1 k b := up_o (fun z => h z.2)
theorem St_ext {S S' : St} (h : ∀ a b, S.1 a b = S'.1 a b) (h2 : S.2 = S'.2) : S = S' := Prod.ext (funext fun a => funext fun b => h a b) h2
/-- a town: pieces, ends, yards; families, homes, goals, times -/
abbrev Tn : Type := Nat × (Nat → Nat) × (Nat → Nat) × (Nat → Nat) × Nat × (Nat → Nat) × (Nat → Nat) × (Nat → Nat)
def tP (T : Tn) : Nat := T.1
def tA (T : Tn) : Nat → Nat := T.2.1
def tB (T : Tn) : Nat → Nat := T.2.2.1
def tY (T : Tn) : Nat → Nat := T.2.2.2.1
def tF (T : Tn) : Nat := T.2.2.2.2.1
def tH (T : Tn) : Nat → Nat := T.2.2.2.2.2.1
def tG (T : Tn) : Nat → Nat := T.2.2.2.2.2.2.1
def tN (T : Tn) : Nat → Nat := T.2.2.2.2.2.2.2
def TnOk (T : Tn) : Prop := tP T ≤ 8 ∧ tF T ≤ 4 ∧ (∀ p, p < tP T → tA T p < 6 ∧ tB T p < 6 ∧ tA T p ≠ tB T p ∧ 1 ≤ tY T p ∧ tY T p ≤ 30) ∧ ∀ f, f < tF T → tH T f < 6 ∧ tG T f < 6 ∧ 1 ≤ tN T f ∧ tN T f ≤ 9
/-- the class's town at the cells b .. b + 6 -/
def TwR (S : St) (b : Nat) (T : Tn) : Prop := S.1 b 0 = nI (tP T) ∧ S.1 b 4 = nI (tF T) ∧ (∀ p, p < tP T → S.1 (b + 1) p = nI (tA T p) ∧ S.1 (b + 2) p = nI (tB T p) ∧ S.1 (b + 3) p = nI (tY T p)) ∧ ∀ f, f < tF T → S.1 (b + 4) f = nI (tH T f) ∧ S.1 (b + 5) f = nI (tG T f) ∧ S.1 (b + 6) f = nI (tN T f)
theorem TwR.go {S S' : St} {b : Nat} {T : Tn} (h : TwR S b T) (h0 : S'.1 b = S.1 b) (h1 : S'.1 (b + 1) = S.1 (b + 1)) (h2 : S'.1 (b + 2) = S.1 (b + 2)) (h3 : S'.1 (b + 3) = S.1 (b + 3)) (h4 : S'.1 (b + 4) = S.1 (b + 4)) (h5 : S'.1 (b + 5) = S.1 (b + 5)) (h6 : S'.1 (b + 6) = S.1 (b + 6)) : TwR S' b T := by
  obtain ⟨a1, a2, a3, a4⟩ := h
  exact ⟨by rw [h0]; exact a1, by rw [h0]; exact a2, fun p hp => by rw [h1, h2, h3]; exact a3 p hp, fun f hf => by rw [h4, h5, h6]; exact a4 f hf⟩
theorem TwR.fr4 {S S' : St} {T : Tn} {L : List Nat} (h : TwR S 4 T) (hF : Fr S S' L) (hL : L.all (fun a => !(decide (4 ≤ a) && decide (a ≤ 10))) = true) : TwR S' 4 T := by
  have nn : ∀ a, 4 ≤ a → a ≤ 10 → a ∉ L := by
    intro a h1 h2 ha
    have := List.all_eq_true.mp hL a ha
    simp [h1, h2] at this
  exact h.go (hF.1 4 (nn 4 (by omega) (by omega))) (hF.1 5 (nn 5 (by omega) (by omega))) (hF.1 6 (nn 6 (by omega) (by omega))) (hF.1 7 (nn 7 (by omega) (by omega))) (hF.1 8 (nn 8 (by omega) (by omega))) (hF.1 9 (nn 9 (by omega) (by omega))) (hF.1 10 (nn 10 (by omega) (by omega)))
/-- a now: owners (0 .. 3 a family, 4 none, 5 a stone), floods, how much was seen, who walked where -/
abbrev Nw : Type := (Nat → Nat) × (Nat → Nat) × Nat × (Nat → Nat)
def nO (N : Nw) : Nat → Nat := N.1
def nF (N : Nw) : Nat → Nat := N.2.1
def nS (N : Nw) : Nat := N.2.2.1
def nW (N : Nw) : Nat → Nat := N.2.2.2
def NwOk (T : Tn) (N : Nw) : Prop := (∀ p, nO N p ≤ 5 ∧ (tP T ≤ p → nO N p = 4) ∧ (nO N p < 4 → nO N p < tF T)) ∧ (∀ p, nF N p ≤ 9) ∧ nS N ≤ 10 ∧ ∀ f, nW N f < 2 ^ tP T
def clO (o : Nat) : Int32 := if o < 4 then nI o else -9
def stm (N : Nw) : Nat := msk (fun p => decide (nO N p = 5)) 8
/-- the class's Now at the cells b .. b + 3 -/
def NwR (S : St) (b : Nat) (N : Nw) : Prop := (∀ p, p < 8 → S.1 (b + 1) p = clO (nO N p)) ∧ (∀ p, p < 8 → S.1 (b + 2) p = nI (nF N p)) ∧ S.1 b 2 = nI (stm N) ∧ S.1 b 3 = nI (nS N) ∧ ∀ f, f < 4 → S.1 (b + 3) f = nI (nW N f)
theorem NwR.go {S S' : St} {b : Nat} {N : Nw} (h : NwR S b N) (h0 : S'.1 b = S.1 b) (h1 : S'.1 (b + 1) = S.1 (b + 1)) (h2 : S'.1 (b + 2) = S.1 (b + 2)) (h3 : S'.1 (b + 3) = S.1 (b + 3)) : NwR S' b N := by
  obtain ⟨a1, a2, a3, a4, a5⟩ := h
  exact ⟨fun p hp => by rw [h1]; exact a1 p hp, fun p hp => by rw [h2]; exact a2 p hp, by rw [h0]; exact a3, by rw [h0]; exact a4, fun f hf => by rw [h3]; exact a5 f hf⟩
theorem clO_eq {o f : Nat} (hf : f < 4) : (clO o = nI f) ↔ o = f := by
  unfold clO
  split
  · exact nI_eq (by omega) (by omega)
  · constructor
    · intro h
      have : ∀ f, f < 4 → ¬ ((-9 : Int32) = nI f) := by decide
      exact absurd h (this f hf)
    · intro h; omega
theorem clO_none {o : Nat} : (clO o = -9) ↔ ¬ o < 4 := by
  unfold clO
  split
  · rename_i h
    have : ∀ f, f < 4 → ¬ (nI f = (-9 : Int32)) := by decide
    exact ⟨fun z => absurd z (this o h), fun z => absurd h z⟩
  · rename_i h
    exact ⟨fun _ => h, fun _ => rfl⟩
/-- the pieces of a family, as bits -/
def owm (N : Nw) (f : Nat) : Nat := msk (fun p => decide (nO N p = f)) 8
theorem owm_lt (N : Nw) (f : Nat) : owm N f < 256 := msk_lt _ 8
theorem stm_lt (N : Nw) : stm N < 256 := msk_lt _ 8
def cnt (g : Nat → Bool) : Nat → Nat
  | 0 => 0
  | n + 1 => cnt g n + (if g n then 1 else 0)
theorem andnot_n {m p : Nat} (hm : m < 256) (hp : p < 8) : nI m &&& (nI (2 ^ p) ^^^ (-1)) = nI (m - m / 2 ^ p % 2 * 2 ^ p) := by
  have : ∀ m, m < 256 → ∀ p, p < 8 → nI m &&& (nI (2 ^ p) ^^^ (-1)) = nI (m - m / 2 ^ p % 2 * 2 ^ p) := by decide +kernel
  exact this m hm p hp
def upN (f : Nat → Nat) (k v : Nat) : Nat → Nat := fun j => if j = k then v else f j
theorem upN_s {f : Nat → Nat} {k v : Nat} : upN f k v k = v := by simp [upN]
theorem upN_o {f : Nat → Nat} {k v j : Nat} (h : j ≠ k) : upN f k v j = f j := by simp [upN, h]
def TwAt (b : Nat) : Prop := shX[b]? = some (.inr (.inl (5, [none, some (some (b + 1)), some (some (b + 2)), some (some (b + 3)), none, some (some (b + 4)), some (some (b + 5)), some (some (b + 6))]))) ∧ shX[b + 1]? = some (.inl (0, 8)) ∧ shX[b + 2]? = some (.inl (0, 8)) ∧ shX[b + 3]? = some (.inl (0, 8)) ∧ shX[b + 4]? = some (.inl (0, 4)) ∧ shX[b + 5]? = some (.inl (0, 4)) ∧ shX[b + 6]? = some (.inl (0, 4))
theorem twAt4 : TwAt 4 := ⟨rfl, rfl, rfl, rfl, rfl, rfl, rfl⟩
theorem twAt11 : TwAt 11 := ⟨rfl, rfl, rfl, rfl, rfl, rfl, rfl⟩
def tAddP (T : Tn) (a b y : Nat) : Tn := (tP T + 1, upN (tA T) (tP T) a, upN (tB T) (tP T) b, upN (tY T) (tP T) y, tF T, tH T, tG T, tN T)
def tAddF (T : Tn) (h t n : Nat) : Tn := (tP T, tA T, tB T, tY T, tF T + 1, upN (tH T) (tF T) h, upN (tG T) (tF T) t, upN (tN T) (tF T) n)
theorem cpyI {f g : Nat → Int32} {n j : Nat} (h : j < n) (hn : n < 2 ^ 31) : va_cpy f g (nI 0).toNatClampNeg (nI 0).toNatClampNeg (nI n).toNatClampNeg j = f j := by
  rw [nI_clamp (by omega), nI_clamp hn, pk_cpy_in (by omega) (by omega)]
  rw [show 0 + (j - 0) = j by omega]
def sumY (T : Tn) (B : Nat) : Nat → Nat
  | 0 => 0
  | n + 1 => sumY T B n + B / 2 ^ n % 2 * tY T n
theorem sumY_le (T : Tn) (h : TnOk T) (B : Nat) : ∀ n, n ≤ tP T → sumY T B n ≤ 30 * n
  | 0, _ => Nat.le_refl _
  | n + 1, hn => by
    have ih := sumY_le T h B n (by omega)
    have h1 := (h.2.2.1 n (by omega)).2.2.2.2
    have h2 : B / 2 ^ n % 2 < 2 := Nat.mod_lt _ (by omega)
    simp only [sumY]
    have h3 : B / 2 ^ n % 2 * tY T n ≤ 1 * tY T n := Nat.mul_le_mul_right _ (by omega)
    omega
end
section
/-! Now: its cells lie at b .. b + 3 -/
def NowAt (b : Nat) : Prop := shX[b]? = some (.inr (.inl (3, [some (some (b + 1)), some (some (b + 2)), none, none, some (some (b + 3))]))) ∧ shX[b + 1]? = some (.inl (0, 8)) ∧ shX[b + 2]? = some (.inl (0, 8)) ∧ shX[b + 3]? = some (.inl (0, 4))
theorem nowAt18 : NowAt 18 := ⟨rfl, rfl, rfl, rfl⟩
theorem nowAt22 : NowAt 22 := ⟨rfl, rfl, rfl, rfl⟩
theorem nowAt26 : NowAt 26 := ⟨rfl, rfl, rfl, rfl⟩
theorem nowAt30 : NowAt 30 := ⟨rfl, rfl, rfl, rfl⟩
/-- Now.ownedIn(owners, f): the bits of the pieces that are f's -/
theorem c_ownedIn (θ : Site) (S : St) (q : Nat) (f : Int32) (hq : shX[q]? = some (.inl (0, 8))) : Cti yX3_ownedIn cX3_ownedIn 4 (some .int) 0 θ shX [.ref (sA θ q), .int f] S (fun r S' => r = nI (msk (fun p => decide (S.1 q p = f)) 8) ∧ S' = S) := by
  refine Cti.mk (own := RX3) 2 [some (.ref (sA θ q)), some (.int f), none, none] (fun K hC => ?_)
  have loop : ∀ n p, p + n = 8 → K 4 [some (.ref (sA θ q)), some (.int f), some (.int (nI (msk (fun p => decide (S.1 q p = f)) p))), some (.int (nI p))] [] S := by
    intro n
    induction n with
    | zero =>
      intro p hp
      have e : p = 8 := by omega
      subst e
      refine q_iload_n hC dX3_ownedIn_4 ?_
      refine q_aload_n hC dX3_ownedIn_5 ?_
      refine q_alenn hC (by first | assumption | rfl) (by decide) dX3_ownedIn_6 ?_
      refine q_icmp_ge hC 33 dX3_ownedIn_7 (by decide) (fun hb => ?_) (fun hb => ?_)
      · refine q_iload_n hC dX3_ownedIn_33 ?_
        refine q_iret hC dX3_ownedIn_34 ?_
        exact ⟨rfl, rfl⟩
      · exact absurd (by decide) hb
    | succ n ih =>
      intro p hp
      refine q_iload_n hC dX3_ownedIn_4 ?_
      refine q_aload_n hC dX3_ownedIn_5 ?_
      refine q_alenn hC (by first | assumption | rfl) (by decide) dX3_ownedIn_6 ?_
      refine q_icmp_ge hC 33 dX3_ownedIn_7 (by decide) (fun hb => ?_) (fun hb => ?_)
      · exact absurd ((nI_leI (by omega) (by omega)).mp hb) (by omega)
      · have hp8 : p < 8 := by omega
        refine q_iload_n hC dX3_ownedIn_10 ?_
        refine q_aload_n hC dX3_ownedIn_11 ?_
        refine q_iload_n hC dX3_ownedIn_12 ?_
        refine q_ialdn hC (by first | assumption | rfl) (by first | assumption | omega) dX3_ownedIn_13 ?_
        refine q_iload_n hC dX3_ownedIn_14 ?_
        refine q_icmp_ne hC 24 dX3_ownedIn_15 (by decide) (fun hb => ?_) (fun hb => ?_)
        · refine q_iconst (v := nI 0) hC dX3_ownedIn_24 (by decide) ?_
          refine q_ior hC dX3_ownedIn_25 ?_
          rw [show nI 0 = (if decide (S.1 q p = f) = true then nI (2 ^ p) else nI 0) by simp [hb], msk_or (fun p => decide (S.1 q p = f)) p]
          refine q_istore_2 hC dX3_ownedIn_26 ?_
          refine q_inc1_3 hC dX3_ownedIn_27 ?_
          refine q_goto hC 4 dX3_ownedIn_30 (by decide) ?_
          exact ih (p + 1) (by omega)
        · refine q_iconst (v := nI 1) hC dX3_ownedIn_18 (by decide) ?_
          refine q_iload_n hC dX3_ownedIn_19 ?_
          refine q_ishl hC dX3_ownedIn_20 ?_
          rw [sh1 (by omega)]
          refine q_goto hC 25 dX3_ownedIn_21 (by decide) ?_
          refine q_ior hC dX3_ownedIn_25 ?_
          rw [show nI (2 ^ p) = (if decide (S.1 q p = f) = true then nI (2 ^ p) else nI 0) by simp [hb], msk_or (fun p => decide (S.1 q p = f)) p]
          refine q_istore_2 hC dX3_ownedIn_26 ?_
          refine q_inc1_3 hC dX3_ownedIn_27 ?_
          refine q_goto hC 4 dX3_ownedIn_30 (by decide) ?_
          exact ih (p + 1) (by omega)
  refine q_iconst (v := nI 0) hC dX3_ownedIn_0 (by decide) ?_
  refine q_istore_2 hC dX3_ownedIn_1 ?_
  refine q_iconst (v := nI 0) hC dX3_ownedIn_2 (by decide) ?_
  refine q_istore_3 hC dX3_ownedIn_3 ?_
  exact loop 8 0 rfl
/-- Now.isStone(p) -/
theorem c_isStone (θ : Site) (S : St) (b p m : Nat) (hk : NowAt b) (hp : p < 8) (hm : m < 256) (hst : S.1 b 2 = nI m) : Cti yX3_isStone cX3_isStone 2 (some .boolean) 0 θ shX [.ref (sA θ b), .int (nI p)] S (fun r S' => r = nI (m / 2 ^ p % 2) ∧ S' = S) := by
  obtain ⟨h0, h1, h2, h3⟩ := hk
  refine Cti.mkz (own := RX3) 0 [some (.ref (sA θ b)), some (.int (nI p))] (fun K hC => ?_)
  have hb2 : m / 2 ^ p % 2 < 2 := Nat.mod_lt _ (by omega)
  refine q_aload_n hC dX3_isStone_0 ?_
  refine q_getI hC (by first | assumption | rfl) flX3_18 dX3_isStone_1 ?_
  refine q_iload_n hC dX3_isStone_4 ?_
  refine q_ishr hC dX3_isStone_5 ?_
  refine q_iconst (v := nI 1) hC dX3_isStone_6 (by decide) ?_
  refine q_iand hC dX3_isStone_7 ?_
  rw [hst, bit_n (by omega) (by omega)]
  refine q_if_eq hC 15 dX3_isStone_8 (by decide) (fun hb => ?_) (fun hb => ?_)
  · refine q_iconst (v := nI 0) hC dX3_isStone_15 (by decide) ?_
    refine q_iret hC dX3_isStone_16 ?_
    have e : m / 2 ^ p % 2 = 0 := nI_small (by omega) (by omega) hb
    exact ⟨⟨by rw [e], rfl⟩, by decide⟩
  · refine q_iconst (v := nI 1) hC dX3_isStone_11 (by decide) ?_
    refine q_goto hC 16 dX3_isStone_12 (by decide) ?_
    refine q_iret hC dX3_isStone_16 ?_
    have e : m / 2 ^ p % 2 = 1 := by
      have : ¬ m / 2 ^ p % 2 = 0 := fun z => hb (by rw [z]; rfl)
      omega
    exact ⟨⟨by rw [e], rfl⟩, by decide⟩
end
section
/-- Arrays.fill(int[], v) -/
theorem c_fill (θ : Site) (S : St) (q n : Nat) (v : Int32) (hn : n ≤ 2048) (hq : shX[q]? = some (.inl (0, n))) : Ctv yJ7_fill_53178 cJ7_fill_53178 4 none 0 θ shX [.ref (sA θ q), .int v] S (fun S' => S' = upA S q (fun j => if j < n then v else S.1 q j)) := by
  refine Ctv.mk (own := RJ7) 2 [some (.ref (sA θ q)), some (.int v), none, none] (fun K hC => ?_)
  have loop : ∀ m i, i + m = n → K 5 [some (.ref (sA θ q)), some (.int v), some (.int (nI i)), some (.int (nI n))] [] (upA S q (fun j => if j < i then v else S.1 q j)) := by
    intro m
    induction m with
    | zero =>
      intro i hi
      have e : i = n := by omega
      subst e
      refine q_iload_n hC dJ7_fill_53178_5 ?_
      refine q_iload_n hC dJ7_fill_53178_6 ?_
      refine q_icmp_ge hC 20 dJ7_fill_53178_7 (by decide) (fun hb => ?_) (fun hb => ?_)
      · refine q_vret hC dJ7_fill_53178_20 ?_
        rfl
      · exact absurd (nI_le (Nat.le_refl i) (by omega)) hb
    | succ m ih =>
      intro i hi
      refine q_iload_n hC dJ7_fill_53178_5 ?_
      refine q_iload_n hC dJ7_fill_53178_6 ?_
      refine q_icmp_ge hC 20 dJ7_fill_53178_7 (by decide) (fun hb => ?_) (fun hb => ?_)
      · exact absurd ((nI_leI (by omega) (by omega)).mp hb) (by omega)
      · refine q_aload_n hC dJ7_fill_53178_10 ?_
        refine q_iload_n hC dJ7_fill_53178_11 ?_
        refine q_iload_n hC dJ7_fill_53178_12 ?_
        refine q_iastn hC (by first | assumption | rfl) (by first | assumption | omega) dJ7_fill_53178_13 ?_
        refine q_St hC (S2 := upA S q (fun j => if j < i + 1 then v else S.1 q j)) ?_ ?_
        · refine St_ext (fun a b => ?_) rfl
          by_cases ha : a = q
          · subst ha
            by_cases hb2 : b = i
            · subst hb2
              rw [up_s, upA_s, if_pos (by omega)]
            · rw [up_of hb2, upA_s, upA_s]
              by_cases h3 : b < i
              · rw [if_pos h3, if_pos (by omega)]
              · rw [if_neg h3, if_neg (by omega)]
          · rw [up_oc ha, upA_o ha, upA_o ha]
        refine q_inc1_2 hC dJ7_fill_53178_14 ?_
        refine q_goto hC 5 dJ7_fill_53178_17 (by decide) ?_
        exact ih (i + 1) (by omega)
  refine q_iconst (v := nI 0) hC dJ7_fill_53178_0 (by decide) ?_
  refine q_istore_2 hC dJ7_fill_53178_1 ?_
  refine q_aload_n hC dJ7_fill_53178_2 ?_
  refine q_alenn hC (by first | assumption | rfl) (by decide) dJ7_fill_53178_3 ?_
  refine q_istore_3 hC dJ7_fill_53178_4 ?_
  refine q_St hC (S2 := upA S q (fun j => if j < 0 then v else S.1 q j)) ?_ (loop n 0 (by omega))
  refine St_ext (fun a b => ?_) rfl
  by_cases ha : a = q
  · subst ha; rw [upA_s, if_neg (by omega)]
  · rw [upA_o ha]
theorem c_unsee (θ : Site) (S : St) (b : Nat) (hk : NowAt b) : Ctv yX3_unsee cX3_unsee 1 none 1 θ shX [.ref (sA θ b)] S (fun S' => Fr S S' [b, b + 3] ∧ S'.1 b 2 = S.1 b 2 ∧ S'.1 b 3 = nI 0 ∧ ∀ f, f < 4 → S'.1 (b + 3) f = nI 0) := by
  obtain ⟨h0, h1, h2, h3⟩ := hk
  refine Ctv.mk (own := RX3) 0 [some (.ref (sA θ b))] (fun K hC => ?_)
  refine q_aload_n hC dX3_unsee_0 ?_
  refine q_iconst (v := nI 0) hC dX3_unsee_1 (by decide) ?_
  refine q_putI hC (by first | assumption | rfl) fpX3_22 dX3_unsee_2 ?_
  refine q_aload_n hC dX3_unsee_5 ?_
  refine q_getR hC (by first | assumption | rfl) flX3_25 dX3_unsee_6 ?_
  refine q_iconst (v := nI 0) hC dX3_unsee_9 (by decide) ?_
  refine q_callvS2 hC csX3_28 dX3_unsee_10 (c_fill θ _ (b + 3) 4 _ (by decide) h3) (by decide) (fun S1 hr => ?_)
  refine q_vret hC dX3_unsee_13 ?_
  subst hr
  refine ⟨⟨fun a ha => ?_, rfl⟩, ?_, ?_, fun f hf => ?_⟩
  · simp only [List.mem_cons, List.not_mem_nil, or_false, not_or] at ha
    rw [upA_o ha.2, up_oc ha.1]
  · rw [upA_o (by omega), up_of (by omega)]
  · rw [upA_o (by omega), up_s]
  · rw [upA_s, if_pos hf]
/-- Now.empty(): nobody has paved anything, nothing else either -/
theorem c_Now_empty (θ : Site) (S : St) (b : Nat) (hk : NowAt b) : Ctv yX3_empty cX3_empty 1 none 2 θ shX [.ref (sA θ b)] S (fun S' => Fr S S' [b, b + 1, b + 2, b + 3] ∧ NwR S' b (fun _ => 4, fun _ => 0, 0, fun _ => 0)) := by
  have hk' := hk
  obtain ⟨h0, h1, h2, h3⟩ := hk
  refine Ctv.mk (own := RX3) 0 [some (.ref (sA θ b))] (fun K hC => ?_)
  refine q_aload_n hC dX3_empty_0 ?_
  refine q_getR hC (by first | assumption | rfl) flX3_9 dX3_empty_1 ?_
  refine q_bipush (v := (-9)) hC dX3_empty_4 (by decide) ?_
  refine q_callvS2 hC csX3_28 dX3_empty_6 (c_fill θ _ (b + 1) 8 _ (by decide) h1) (by decide) (fun S1 hr => ?_)
  subst hr
  refine q_aload_n hC dX3_empty_9 ?_
  refine q_getR hC (by first | assumption | rfl) flX3_15 dX3_empty_10 ?_
  refine q_iconst (v := nI 0) hC dX3_empty_13 (by decide) ?_
  refine q_callvS2 hC csX3_28 dX3_empty_14 (c_fill θ _ (b + 2) 8 _ (by decide) h2) (by decide) (fun S1 hr => ?_)
  subst hr
  refine q_aload_n hC dX3_empty_17 ?_
  refine q_iconst (v := nI 0) hC dX3_empty_18 (by decide) ?_
  refine q_putI hC (by first | assumption | rfl) fpX3_18 dX3_empty_19 ?_
  refine q_aload_n hC dX3_empty_22 ?_
  refine q_callvV0 hC (by first | assumption | rfl) cvX3_34 dX3_empty_23 (c_unsee θ _ b hk') (by decide) (fun S1 hr => ?_)
  refine q_vret hC dX3_empty_26 ?_
  obtain ⟨⟨g1, g2⟩, g3, g4, g5⟩ := hr
  refine ⟨⟨fun a ha => ?_, g2⟩, fun p hp => ?_, fun p hp => ?_, ?_, g4, g5⟩
  · simp only [List.mem_cons, List.not_mem_nil, or_false, not_or] at ha
    rw [g1 a (by simp only [List.mem_cons, List.not_mem_nil, or_false, not_or]; omega), up_oc ha.1, upA_o ha.2.2.1, upA_o ha.2.1]
  · rw [g1 (b + 1) (by simp), up_oc (by omega), upA_o (by omega), upA_s, if_pos hp]; rfl
  · rw [g1 (b + 2) (by simp), up_oc (by omega), upA_s, if_pos hp]; rfl
  · rw [g3, up_s]; decide
/-- Now.become(other) -/
theorem c_Now_become (θ : Site) (S : St) (b o : Nat) (hk : NowAt b) (hko : NowAt o) (hne : b + 4 ≤ o ∨ o + 4 ≤ b) (N : Nw) (hN : NwR S o N) : Ctv yX3_become cX3_become 2 none 1 θ shX [.ref (sA θ b), .ref (sA θ o)] S (fun S' => Fr S S' [b, b + 1, b + 2, b + 3] ∧ NwR S' b N) := by
  obtain ⟨h0, h1, h2, h3⟩ := hk
  obtain ⟨o0, o1, o2, o3⟩ := hko
  refine Ctv.mk (own := RX3) 0 [some (.ref (sA θ b)), some (.ref (sA θ o))] (fun K hC => ?_)
  refine q_aload_n hC dX3_become_0 ?_
  refine q_getR hC (by first | assumption | rfl) flX3_9 dX3_become_1 ?_
  refine q_iconst (v := nI 0) hC dX3_become_4 (by decide) ?_
  refine q_aload_n hC dX3_become_5 ?_
  refine q_getR hC (by first | assumption | rfl) flX3_9 dX3_become_6 ?_
  refine q_iconst (v := nI 0) hC dX3_become_9 (by decide) ?_
  refine q_bipush (v := nI 8) hC dX3_become_10 (by decide) ?_
  refine q_copy hC (by first | assumption | rfl) (by first | assumption | rfl) mlX3_37 (by decide) (by decide) (by decide) (by decide) (by decide) (by decide) dX3_become_12 ?_
  refine q_aload_n hC dX3_become_15 ?_
  refine q_getR hC (by first | assumption | rfl) flX3_15 dX3_become_16 ?_
  refine q_iconst (v := nI 0) hC dX3_become_19 (by decide) ?_
  refine q_aload_n hC dX3_become_20 ?_
  refine q_getR hC (by first | assumption | rfl) flX3_15 dX3_become_21 ?_
  refine q_iconst (v := nI 0) hC dX3_become_24 (by decide) ?_
  refine q_bipush (v := nI 8) hC dX3_become_25 (by decide) ?_
  refine q_copy hC (by first | assumption | rfl) (by first | assumption | rfl) mlX3_37 (by decide) (by decide) (by decide) (by decide) (by decide) (by decide) dX3_become_27 ?_
  refine q_aload_n hC dX3_become_30 ?_
  refine q_aload_n hC dX3_become_31 ?_
  refine q_getI hC (by first | assumption | rfl) flX3_18 dX3_become_32 ?_
  refine q_putI hC (by first | assumption | rfl) fpX3_18 dX3_become_35 ?_
  refine q_aload_n hC dX3_become_38 ?_
  refine q_aload_n hC dX3_become_39 ?_
  refine q_getI hC (by first | assumption | rfl) flX3_22 dX3_become_40 ?_
  refine q_putI hC (by first | assumption | rfl) fpX3_22 dX3_become_43 ?_
  refine q_aload_n hC dX3_become_46 ?_
  refine q_getR hC (by first | assumption | rfl) flX3_25 dX3_become_47 ?_
  refine q_iconst (v := nI 0) hC dX3_become_50 (by decide) ?_
  refine q_aload_n hC dX3_become_51 ?_
  refine q_getR hC (by first | assumption | rfl) flX3_25 dX3_become_52 ?_
  refine q_iconst (v := nI 0) hC dX3_become_55 (by decide) ?_
  refine q_iconst (v := nI 4) hC dX3_become_56 (by decide) ?_
  refine q_copy hC (by first | assumption | rfl) (by first | assumption | rfl) mlX3_37 (by decide) (by decide) (by decide) (by decide) (by decide) (by decide) dX3_become_57 ?_
  refine q_vret hC dX3_become_60 ?_
  obtain ⟨n1, n2, n3, n4, n5⟩ := hN
  refine ⟨⟨fun a ha => ?_, rfl⟩, fun p hp => ?_, fun p hp => ?_, ?_, ?_, fun f hf => ?_⟩
  · simp only [List.mem_cons, List.not_mem_nil, or_false, not_or] at ha
    rw [upA_o ha.2.2.2, up_oc ha.1, up_oc ha.1, upA_o ha.2.2.1, upA_o ha.2.1]
  · rw [upA_o (by omega), up_oc (by omega), up_oc (by omega), upA_o (by omega), upA_s]
    rw [pk_cpy_in (by show (nI 0).toNatClampNeg ≤ p; rw [nI_clamp (by omega)]; omega) (by rw [nI_clamp (by omega), nI_clamp (by omega)]; omega), nI_clamp (by omega)]
    rw [show 0 + (p - 0) = p by omega]; exact n1 p hp
  · rw [upA_o (by omega), up_oc (by omega), up_oc (by omega), upA_s]
    rw [pk_cpy_in (by show (nI 0).toNatClampNeg ≤ p; rw [nI_clamp (by omega)]; omega) (by rw [nI_clamp (by omega), nI_clamp (by omega)]; omega), nI_clamp (by omega)]
    rw [show 0 + (p - 0) = p by omega, upA_o (by omega)]; exact n2 p hp
  · rw [upA_o (by omega), up_of (by omega), up_s, upA_o (by omega), upA_o (by omega)]; exact n3
  · rw [upA_o (by omega), up_s, up_oc (by omega), upA_o (by omega), upA_o (by omega)]; exact n4
  · rw [upA_s, pk_cpy_in (by show (nI 0).toNatClampNeg ≤ f; rw [nI_clamp (by omega)]; omega) (by rw [nI_clamp (by omega), nI_clamp (by omega)]; omega), nI_clamp (by omega)]
    rw [show 0 + (f - 0) = f by omega, up_oc (by omega), up_oc (by omega), upA_o (by omega), upA_o (by omega)]; exact n5 f hf
/-- Now.makeStone(p) -/
theorem c_makeStone (θ : Site) (S : St) (b p m : Nat) (hk : NowAt b) (hp : p < 8) (hm : S.1 b 2 = nI m) : Ctv yX3_makeStone cX3_makeStone 2 none 0 θ shX [.ref (sA θ b), .int (nI p)] S (fun S' => S' = up (up S (b + 1) p (-9)) b 2 (nI (m ||| 2 ^ p))) := by
  obtain ⟨h0, h1, h2, h3⟩ := hk
  refine Ctv.mk (own := RX3) 0 [some (.ref (sA θ b)), some (.int (nI p))] (fun K hC => ?_)
  refine q_aload_n hC dX3_makeStone_0 ?_
  refine q_getR hC (by first | assumption | rfl) flX3_9 dX3_makeStone_1 ?_
  refine q_iload_n hC dX3_makeStone_4 ?_
  refine q_bipush (v := (-9)) hC dX3_makeStone_5 (by decide) ?_
  refine q_iastn hC (by first | assumption | rfl) (by first | assumption | omega) dX3_makeStone_7 ?_
  refine q_aload_n hC dX3_makeStone_8 ?_
  refine q_dup hC dX3_makeStone_9 rfl ?_
  refine q_getI hC (by first | assumption | rfl) flX3_18 dX3_makeStone_10 ?_
  refine q_iconst (v := nI 1) hC dX3_makeStone_13 (by decide) ?_
  refine q_iload_n hC dX3_makeStone_14 ?_
  refine q_ishl hC dX3_makeStone_15 ?_
  rw [up_oc (by omega), hm, sh1 (by omega)]
  refine q_ior hC dX3_makeStone_16 ?_
  rw [or_n]
  refine q_putI hC (by first | assumption | rfl) fpX3_18 dX3_makeStone_17 ?_
  refine q_vret hC dX3_makeStone_20 ?_
  rfl
/-- Now.makeNoStone(p) -/
theorem c_makeNoStone (θ : Site) (S : St) (b p m : Nat) (hk : NowAt b) (hp : p < 8) (hm8 : m < 256) (hm : S.1 b 2 = nI m) : Ctv yX3_makeNoStone cX3_makeNoStone 2 none 0 θ shX [.ref (sA θ b), .int (nI p)] S (fun S' => S' = up S b 2 (nI (m - m / 2 ^ p % 2 * 2 ^ p))) := by
  obtain ⟨h0, h1, h2, h3⟩ := hk
  refine Ctv.mk (own := RX3) 0 [some (.ref (sA θ b)), some (.int (nI p))] (fun K hC => ?_)
  refine q_aload_n hC dX3_makeNoStone_0 ?_
  refine q_dup hC dX3_makeNoStone_1 rfl ?_
  refine q_getI hC (by first | assumption | rfl) flX3_18 dX3_makeNoStone_2 ?_
  refine q_iconst (v := nI 1) hC dX3_makeNoStone_5 (by decide) ?_
  refine q_iload_n hC dX3_makeNoStone_6 ?_
  refine q_ishl hC dX3_makeNoStone_7 ?_
  rw [hm, sh1 (by omega)]
  refine q_iconst (v := (-1)) hC dX3_makeNoStone_8 (by decide) ?_
  refine q_ixor hC dX3_makeNoStone_9 ?_
  refine q_iand hC dX3_makeNoStone_10 ?_
  rw [andnot_n hm8 hp]
  refine q_putI hC (by first | assumption | rfl) fpX3_18 dX3_makeNoStone_11 ?_
  refine q_vret hC dX3_makeNoStone_14 ?_
  rfl
/-- Now.ownedBy(f) -/
theorem c_ownedBy (θ : Site) (S : St) (b f : Nat) (N : Nw) (hk : NowAt b) (hN : NwR S b N) (hf : f < 4) : Cti yX3_ownedBy cX3_ownedBy 2 (some .int) 1 θ shX [.ref (sA θ b), .int (nI f)] S (fun r S' => r = nI (owm N f) ∧ S' = S) := by
  obtain ⟨h0, h1, h2, h3⟩ := hk
  refine Cti.mk (own := RX3) 0 [some (.ref (sA θ b)), some (.int (nI f))] (fun K hC => ?_)
  refine q_aload_n hC dX3_ownedBy_0 ?_
  refine q_getR hC (by first | assumption | rfl) flX3_9 dX3_ownedBy_1 ?_
  refine q_iload_n hC dX3_ownedBy_4 ?_
  refine q_calliS2 hC csX3_43 dX3_ownedBy_5 (c_ownedIn θ _ (b + 1) _ h1) (by decide) (fun r S1 hr => ?_)
  refine q_iret hC dX3_ownedBy_8 ?_
  refine ⟨?_, hr.2⟩
  rw [hr.1]
  congr 1
  refine msk_congr (fun p hp => ?_)
  rw [hN.1 p hp]
  exact decide_eq_decide.mpr (clO_eq hf)
/-- how many of the first n have g -/
theorem c_ownedPieces (θ : Site) (S : St) (b : Nat) (N : Nw) (hk : NowAt b) (hN : NwR S b N) : Cti yX3_ownedPieces cX3_ownedPieces 3 (some .int) 0 θ shX [.ref (sA θ b)] S (fun r S' => r = nI (cnt (fun p => decide (nO N p < 4)) 8) ∧ S' = S) := by
  obtain ⟨h0, h1, h2, h3⟩ := hk
  refine Cti.mk (own := RX3) 2 [some (.ref (sA θ b)), none, none] (fun K hC => ?_)
  have loop : ∀ n p, p + n = 8 → K 4 [some (.ref (sA θ b)), some (.int (nI (cnt (fun p => decide (nO N p < 4)) p))), some (.int (nI p))] [] S := by
    intro n
    induction n with
    | zero =>
      intro p hp
      have e : p = 8 := by omega
      subst e
      refine q_iload_n hC dX3_ownedPieces_4 ?_
      refine q_bipush (v := nI 8) hC dX3_ownedPieces_5 (by decide) ?_
      refine q_icmp_ge hC 35 dX3_ownedPieces_7 (by decide) (fun hb => ?_) (fun hb => ?_)
      · refine q_iload_n hC dX3_ownedPieces_35 ?_
        refine q_iret hC dX3_ownedPieces_36 ?_
        exact ⟨rfl, rfl⟩
      · exact absurd (by decide) hb
    | succ n ih =>
      intro p hp
      refine q_iload_n hC dX3_ownedPieces_4 ?_
      refine q_bipush (v := nI 8) hC dX3_ownedPieces_5 (by decide) ?_
      refine q_icmp_ge hC 35 dX3_ownedPieces_7 (by decide) (fun hb => ?_) (fun hb => ?_)
      · exact absurd ((nI_leI (by omega) (by omega)).mp hb) (by omega)
      · have hp8 : p < 8 := by omega
        refine q_iload_n hC dX3_ownedPieces_10 ?_
        refine q_aload_n hC dX3_ownedPieces_11 ?_
        refine q_getR hC (by first | assumption | rfl) flX3_9 dX3_ownedPieces_12 ?_
        refine q_iload_n hC dX3_ownedPieces_15 ?_
        refine q_ialdn hC (by first | assumption | rfl) (by first | assumption | omega) dX3_ownedPieces_16 ?_
        rw [hN.1 p hp8]
        refine q_bipush (v := (-9)) hC dX3_ownedPieces_17 (by decide) ?_
        refine q_icmp_ne hC 26 dX3_ownedPieces_19 (by decide) (fun hb => ?_) (fun hb => ?_)
        · have h4 : nO N p < 4 := by
            rcases Nat.lt_or_ge (nO N p) 4 with h | h
            · exact h
            · exact absurd (clO_none.mpr (by omega)) hb
          refine q_iconst (v := nI 1) hC dX3_ownedPieces_26 (by decide) ?_
          refine q_iadd hC dX3_ownedPieces_27 ?_
          rw [nI_add, show cnt (fun p => decide (nO N p < 4)) p + 1 = cnt (fun p => decide (nO N p < 4)) (p + 1) by simp [cnt, h4]]
          refine q_istore_1 hC dX3_ownedPieces_28 ?_
          refine q_inc1_2 hC dX3_ownedPieces_29 ?_
          refine q_goto hC 4 dX3_ownedPieces_32 (by decide) ?_
          exact ih (p + 1) (by omega)
        · have h4 : ¬ nO N p < 4 := clO_none.mp hb
          refine q_iconst (v := nI 0) hC dX3_ownedPieces_22 (by decide) ?_
          refine q_goto hC 27 dX3_ownedPieces_23 (by decide) ?_
          refine q_iadd hC dX3_ownedPieces_27 ?_
          rw [nI_add, show cnt (fun p => decide (nO N p < 4)) p + 0 = cnt (fun p => decide (nO N p < 4)) (p + 1) by simp [cnt, h4]]
          refine q_istore_1 hC dX3_ownedPieces_28 ?_
          refine q_inc1_2 hC dX3_ownedPieces_29 ?_
          refine q_goto hC 4 dX3_ownedPieces_32 (by decide) ?_
          exact ih (p + 1) (by omega)
  refine q_iconst (v := nI 0) hC dX3_ownedPieces_0 (by decide) ?_
  refine q_istore_1 hC dX3_ownedPieces_1 ?_
  refine q_iconst (v := nI 0) hC dX3_ownedPieces_2 (by decide) ?_
  refine q_istore_2 hC dX3_ownedPieces_3 ?_
  exact loop 8 0 rfl
end
section
theorem c_Town_empty (θ : Site) (S : St) (b : Nat) (hk : TwAt b) : Ctv yX5_empty cX5_empty 1 none 0 θ shX [.ref (sA θ b)] S (fun S' => Fr S S' [b] ∧ S'.1 b 0 = nI 0 ∧ S'.1 b 4 = nI 0) := by
  obtain ⟨h0, h1, h2, h3, h4, h5, h6⟩ := hk
  refine Ctv.mk (own := RX5) 0 [some (.ref (sA θ b))] (fun K hC => ?_)
  refine q_aload_n hC dX5_empty_0 ?_
  refine q_iconst (v := nI 0) hC dX5_empty_1 (by decide) ?_
  refine q_putI hC (by first | assumption | rfl) fpX5_9 dX5_empty_2 ?_
  refine q_aload_n hC dX5_empty_5 ?_
  refine q_iconst (v := nI 0) hC dX5_empty_6 (by decide) ?_
  refine q_putI hC (by first | assumption | rfl) fpX5_25 dX5_empty_7 ?_
  refine q_vret hC dX5_empty_10 ?_
  refine ⟨Fr.trans Fr.u1 Fr.u1, ?_, up_s⟩
  rw [up_of (by omega), up_s]
/-- Town.become(other) -/
theorem c_Town_become (θ : Site) (S : St) (b o : Nat) (hk : TwAt b) (hko : TwAt o) (hne : b + 7 ≤ o ∨ o + 7 ≤ b) (T : Tn) (hT : TwR S o T) (hP8 : tP T ≤ 8) (hF4 : tF T ≤ 4) : Ctv yX5_become cX5_become 2 none 1 θ shX [.ref (sA θ b), .ref (sA θ o)] S (fun S' => Fr S S' [b, b + 1, b + 2, b + 3, b + 4, b + 5, b + 6] ∧ TwR S' b T) := by
  obtain ⟨h0, h1, h2, h3, h4, h5, h6⟩ := hk
  obtain ⟨o0, o1, o2, o3, o4, o5, o6⟩ := hko
  refine Ctv.mk (own := RX5) 0 [some (.ref (sA θ b)), some (.ref (sA θ o))] (fun K hC => ?_)
  refine q_aload_n hC dX5_become_0 ?_
  refine q_aload_n hC dX5_become_1 ?_
  refine q_getI hC (by first | assumption | rfl) flX5_9 dX5_become_2 ?_
  refine q_putI hC (by first | assumption | rfl) fpX5_9 dX5_become_5 ?_
  refine q_aload_n hC dX5_become_8 ?_
  refine q_getR hC (by first | assumption | rfl) flX5_15 dX5_become_9 ?_
  refine q_iconst (v := nI 0) hC dX5_become_12 (by decide) ?_
  refine q_aload_n hC dX5_become_13 ?_
  refine q_getR hC (by first | assumption | rfl) flX5_15 dX5_become_14 ?_
  refine q_iconst (v := nI 0) hC dX5_become_17 (by decide) ?_
  refine q_bipush (v := nI 8) hC dX5_become_18 (by decide) ?_
  refine q_copy hC (by first | assumption | rfl) (by first | assumption | rfl) mlX5_37 (by decide) (by decide) (by decide) (by decide) (by decide) (by decide) dX5_become_20 ?_
  refine q_aload_n hC dX5_become_23 ?_
  refine q_getR hC (by first | assumption | rfl) flX5_19 dX5_become_24 ?_
  refine q_iconst (v := nI 0) hC dX5_become_27 (by decide) ?_
  refine q_aload_n hC dX5_become_28 ?_
  refine q_getR hC (by first | assumption | rfl) flX5_19 dX5_become_29 ?_
  refine q_iconst (v := nI 0) hC dX5_become_32 (by decide) ?_
  refine q_bipush (v := nI 8) hC dX5_become_33 (by decide) ?_
  refine q_copy hC (by first | assumption | rfl) (by first | assumption | rfl) mlX5_37 (by decide) (by decide) (by decide) (by decide) (by decide) (by decide) dX5_become_35 ?_
  refine q_aload_n hC dX5_become_38 ?_
  refine q_getR hC (by first | assumption | rfl) flX5_22 dX5_become_39 ?_
  refine q_iconst (v := nI 0) hC dX5_become_42 (by decide) ?_
  refine q_aload_n hC dX5_become_43 ?_
  refine q_getR hC (by first | assumption | rfl) flX5_22 dX5_become_44 ?_
  refine q_iconst (v := nI 0) hC dX5_become_47 (by decide) ?_
  refine q_bipush (v := nI 8) hC dX5_become_48 (by decide) ?_
  refine q_copy hC (by first | assumption | rfl) (by first | assumption | rfl) mlX5_37 (by decide) (by decide) (by decide) (by decide) (by decide) (by decide) dX5_become_50 ?_
  refine q_aload_n hC dX5_become_53 ?_
  refine q_aload_n hC dX5_become_54 ?_
  refine q_getI hC (by first | assumption | rfl) flX5_25 dX5_become_55 ?_
  refine q_putI hC (by first | assumption | rfl) fpX5_25 dX5_become_58 ?_
  refine q_aload_n hC dX5_become_61 ?_
  refine q_getR hC (by first | assumption | rfl) flX5_28 dX5_become_62 ?_
  refine q_iconst (v := nI 0) hC dX5_become_65 (by decide) ?_
  refine q_aload_n hC dX5_become_66 ?_
  refine q_getR hC (by first | assumption | rfl) flX5_28 dX5_become_67 ?_
  refine q_iconst (v := nI 0) hC dX5_become_70 (by decide) ?_
  refine q_iconst (v := nI 4) hC dX5_become_71 (by decide) ?_
  refine q_copy hC (by first | assumption | rfl) (by first | assumption | rfl) mlX5_37 (by decide) (by decide) (by decide) (by decide) (by decide) (by decide) dX5_become_72 ?_
  refine q_aload_n hC dX5_become_75 ?_
  refine q_getR hC (by first | assumption | rfl) flX5_31 dX5_become_76 ?_
  refine q_iconst (v := nI 0) hC dX5_become_79 (by decide) ?_
  refine q_aload_n hC dX5_become_80 ?_
  refine q_getR hC (by first | assumption | rfl) flX5_31 dX5_become_81 ?_
  refine q_iconst (v := nI 0) hC dX5_become_84 (by decide) ?_
  refine q_iconst (v := nI 4) hC dX5_become_85 (by decide) ?_
  refine q_copy hC (by first | assumption | rfl) (by first | assumption | rfl) mlX5_37 (by decide) (by decide) (by decide) (by decide) (by decide) (by decide) dX5_become_86 ?_
  refine q_aload_n hC dX5_become_89 ?_
  refine q_getR hC (by first | assumption | rfl) flX5_34 dX5_become_90 ?_
  refine q_iconst (v := nI 0) hC dX5_become_93 (by decide) ?_
  refine q_aload_n hC dX5_become_94 ?_
  refine q_getR hC (by first | assumption | rfl) flX5_34 dX5_become_95 ?_
  refine q_iconst (v := nI 0) hC dX5_become_98 (by decide) ?_
  refine q_iconst (v := nI 4) hC dX5_become_99 (by decide) ?_
  refine q_copy hC (by first | assumption | rfl) (by first | assumption | rfl) mlX5_37 (by decide) (by decide) (by decide) (by decide) (by decide) (by decide) dX5_become_100 ?_
  refine q_vret hC dX5_become_103 ?_
  obtain ⟨n1, n2, n3, n4⟩ := hT
  refine ⟨⟨fun a ha => ?_, rfl⟩, ?_, ?_, fun p hp => ⟨?_, ?_, ?_⟩, fun f hf => ⟨?_, ?_, ?_⟩⟩
  · simp only [List.mem_cons, List.not_mem_nil, or_false, not_or] at ha
    rw [upA_o ha.2.2.2.2.2.2, upA_o ha.2.2.2.2.2.1, upA_o ha.2.2.2.2.1, up_oc ha.1, upA_o ha.2.2.2.1, upA_o ha.2.2.1, upA_o ha.2.1, up_oc ha.1]
  · rw [upA_o (by omega), upA_o (by omega), upA_o (by omega), up_of (by omega), upA_o (by omega), upA_o (by omega), upA_o (by omega), up_s]; exact n1
  · rw [upA_o (by omega), upA_o (by omega), upA_o (by omega), up_s, upA_o (by omega), upA_o (by omega), upA_o (by omega), up_oc (by omega)]; exact n2
  · rw [upA_o (by omega), upA_o (by omega), upA_o (by omega), up_oc (by omega), upA_o (by omega), upA_o (by omega), upA_s, cpyI (by omega) (by omega), up_oc (by omega)]; exact (n3 p hp).1
  · rw [upA_o (by omega), upA_o (by omega), upA_o (by omega), up_oc (by omega), upA_o (by omega), upA_s, cpyI (by omega) (by omega), upA_o (by omega), up_oc (by omega)]; exact (n3 p hp).2.1
  · rw [upA_o (by omega), upA_o (by omega), upA_o (by omega), up_oc (by omega), upA_s, cpyI (by omega) (by omega), upA_o (by omega), upA_o (by omega), up_oc (by omega)]; exact (n3 p hp).2.2
  · rw [upA_o (by omega), upA_o (by omega), upA_s, cpyI (by omega) (by omega), up_oc (by omega), upA_o (by omega), upA_o (by omega), upA_o (by omega), up_oc (by omega)]; exact (n4 f hf).1
  · rw [upA_o (by omega), upA_s, cpyI (by omega) (by omega), upA_o (by omega), up_oc (by omega), upA_o (by omega), upA_o (by omega), upA_o (by omega), up_oc (by omega)]; exact (n4 f hf).2.1
  · rw [upA_s, cpyI (by omega) (by omega), upA_o (by omega), upA_o (by omega), up_oc (by omega), upA_o (by omega), upA_o (by omega), upA_o (by omega), up_oc (by omega)]; exact (n4 f hf).2.2
/-- Town.addPiece(a, b, y) -/
theorem c_addPiece (θ : Site) (S : St) (b x y z : Nat) (hk : TwAt b) (T : Tn) (hT : TwR S b T) (hP8 : tP T < 8) : Ctv yX5_addPiece cX5_addPiece 4 none 0 θ shX [.ref (sA θ b), .int (nI x), .int (nI y), .int (nI z)] S (fun S' => Fr S S' [b, b + 1, b + 2, b + 3] ∧ TwR S' b (tAddP T x y z)) := by
  obtain ⟨h0, h1, h2, h3, h4, h5, h6⟩ := hk
  obtain ⟨n1, n2, n3, n4⟩ := hT
  refine Ctv.mk (own := RX5) 0 [some (.ref (sA θ b)), some (.int (nI x)), some (.int (nI y)), some (.int (nI z))] (fun K hC => ?_)
  refine q_aload_n hC dX5_addPiece_0 ?_
  refine q_getR hC (by first | assumption | rfl) flX5_15 dX5_addPiece_1 ?_
  refine q_aload_n hC dX5_addPiece_4 ?_
  refine q_getI hC (by first | assumption | rfl) flX5_9 dX5_addPiece_5 ?_
  rw [n1]
  refine q_iload_n hC dX5_addPiece_8 ?_
  refine q_iastn hC (by first | assumption | rfl) (by first | assumption | omega) dX5_addPiece_9 ?_
  refine q_aload_n hC dX5_addPiece_10 ?_
  refine q_getR hC (by first | assumption | rfl) flX5_19 dX5_addPiece_11 ?_
  refine q_aload_n hC dX5_addPiece_14 ?_
  refine q_getI hC (by first | assumption | rfl) flX5_9 dX5_addPiece_15 ?_
  rw [up_oc (by omega), n1]
  refine q_iload_n hC dX5_addPiece_18 ?_
  refine q_iastn hC (by first | assumption | rfl) (by first | assumption | omega) dX5_addPiece_19 ?_
  refine q_aload_n hC dX5_addPiece_20 ?_
  refine q_getR hC (by first | assumption | rfl) flX5_22 dX5_addPiece_21 ?_
  refine q_aload_n hC dX5_addPiece_24 ?_
  refine q_getI hC (by first | assumption | rfl) flX5_9 dX5_addPiece_25 ?_
  rw [up_oc (by omega), up_oc (by omega), n1]
  refine q_iload_n hC dX5_addPiece_28 ?_
  refine q_iastn hC (by first | assumption | rfl) (by first | assumption | omega) dX5_addPiece_29 ?_
  refine q_aload_n hC dX5_addPiece_30 ?_
  refine q_dup hC dX5_addPiece_31 rfl ?_
  refine q_getI hC (by first | assumption | rfl) flX5_9 dX5_addPiece_32 ?_
  rw [up_oc (by omega), up_oc (by omega), up_oc (by omega), n1]
  refine q_iconst (v := nI 1) hC dX5_addPiece_35 (by decide) ?_
  refine q_iadd hC dX5_addPiece_36 ?_
  rw [nI_add]
  refine q_putI hC (by first | assumption | rfl) fpX5_9 dX5_addPiece_37 ?_
  refine q_vret hC dX5_addPiece_40 ?_
  refine ⟨⟨fun a ha => ?_, rfl⟩, up_s, ?_, fun p hp => ⟨?_, ?_, ?_⟩, fun f hf => ?_⟩
  · simp only [List.mem_cons, List.not_mem_nil, or_false, not_or] at ha
    rw [up_oc ha.1, up_oc ha.2.2.2, up_oc ha.2.2.1, up_oc ha.2.1]
  · rw [up_of (by omega), up_oc (by omega), up_oc (by omega), up_oc (by omega)]; exact n2
  · rw [up_oc (by omega), up_oc (by omega), up_oc (by omega)]
    by_cases e : p = tP T
    · subst e; rw [up_s]; exact congrArg nI upN_s.symm
    · rw [up_of e]; exact (n3 p (by have : p < tP T + 1 := hp; omega)).1.trans (congrArg nI (upN_o e).symm)
  · rw [up_oc (by omega), up_oc (by omega)]
    by_cases e : p = tP T
    · subst e; rw [up_s]; exact congrArg nI upN_s.symm
    · rw [up_of e, up_oc (by omega)]; exact (n3 p (by have : p < tP T + 1 := hp; omega)).2.1.trans (congrArg nI (upN_o e).symm)
  · rw [up_oc (by omega)]
    by_cases e : p = tP T
    · subst e; rw [up_s]; exact congrArg nI upN_s.symm
    · rw [up_of e, up_oc (by omega), up_oc (by omega)]; exact (n3 p (by have : p < tP T + 1 := hp; omega)).2.2.trans (congrArg nI (upN_o e).symm)
  · rw [up_oc (by omega), up_oc (by omega), up_oc (by omega), up_oc (by omega), up_oc (by omega), up_oc (by omega), up_oc (by omega), up_oc (by omega), up_oc (by omega), up_oc (by omega), up_oc (by omega), up_oc (by omega)]; exact n4 f hf
/-- Town.addFamily(h, t, n) -/
theorem c_addFamily (θ : Site) (S : St) (b x y z : Nat) (hk : TwAt b) (T : Tn) (hT : TwR S b T) (hF4 : tF T < 4) : Ctv yX5_addFamily cX5_addFamily 4 none 0 θ shX [.ref (sA θ b), .int (nI x), .int (nI y), .int (nI z)] S (fun S' => Fr S S' [b, b + 4, b + 5, b + 6] ∧ TwR S' b (tAddF T x y z)) := by
  obtain ⟨h0, h1, h2, h3, h4, h5, h6⟩ := hk
  obtain ⟨n1, n2, n3, n4⟩ := hT
  refine Ctv.mk (own := RX5) 0 [some (.ref (sA θ b)), some (.int (nI x)), some (.int (nI y)), some (.int (nI z))] (fun K hC => ?_)
  refine q_aload_n hC dX5_addFamily_0 ?_
  refine q_getR hC (by first | assumption | rfl) flX5_28 dX5_addFamily_1 ?_
  refine q_aload_n hC dX5_addFamily_4 ?_
  refine q_getI hC (by first | assumption | rfl) flX5_25 dX5_addFamily_5 ?_
  rw [n2]
  refine q_iload_n hC dX5_addFamily_8 ?_
  refine q_iastn hC (by first | assumption | rfl) (by first | assumption | omega) dX5_addFamily_9 ?_
  refine q_aload_n hC dX5_addFamily_10 ?_
  refine q_getR hC (by first | assumption | rfl) flX5_31 dX5_addFamily_11 ?_
  refine q_aload_n hC dX5_addFamily_14 ?_
  refine q_getI hC (by first | assumption | rfl) flX5_25 dX5_addFamily_15 ?_
  rw [up_oc (by omega), n2]
  refine q_iload_n hC dX5_addFamily_18 ?_
  refine q_iastn hC (by first | assumption | rfl) (by first | assumption | omega) dX5_addFamily_19 ?_
  refine q_aload_n hC dX5_addFamily_20 ?_
  refine q_getR hC (by first | assumption | rfl) flX5_34 dX5_addFamily_21 ?_
  refine q_aload_n hC dX5_addFamily_24 ?_
  refine q_getI hC (by first | assumption | rfl) flX5_25 dX5_addFamily_25 ?_
  rw [up_oc (by omega), up_oc (by omega), n2]
  refine q_iload_n hC dX5_addFamily_28 ?_
  refine q_iastn hC (by first | assumption | rfl) (by first | assumption | omega) dX5_addFamily_29 ?_
  refine q_aload_n hC dX5_addFamily_30 ?_
  refine q_dup hC dX5_addFamily_31 rfl ?_
  refine q_getI hC (by first | assumption | rfl) flX5_25 dX5_addFamily_32 ?_
  rw [up_oc (by omega), up_oc (by omega), up_oc (by omega), n2]
  refine q_iconst (v := nI 1) hC dX5_addFamily_35 (by decide) ?_
  refine q_iadd hC dX5_addFamily_36 ?_
  rw [nI_add]
  refine q_putI hC (by first | assumption | rfl) fpX5_25 dX5_addFamily_37 ?_
  refine q_vret hC dX5_addFamily_40 ?_
  refine ⟨⟨fun a ha => ?_, rfl⟩, ?_, up_s, fun p hp => ?_, fun f hf => ⟨?_, ?_, ?_⟩⟩
  · simp only [List.mem_cons, List.not_mem_nil, or_false, not_or] at ha
    rw [up_oc ha.1, up_oc ha.2.2.2, up_oc ha.2.2.1, up_oc ha.2.1]
  · rw [up_of (by omega), up_oc (by omega), up_oc (by omega), up_oc (by omega)]; exact n1
  · rw [up_oc (by omega), up_oc (by omega), up_oc (by omega), up_oc (by omega), up_oc (by omega), up_oc (by omega), up_oc (by omega), up_oc (by omega), up_oc (by omega), up_oc (by omega), up_oc (by omega), up_oc (by omega)]; exact n3 p hp
  · rw [up_oc (by omega), up_oc (by omega), up_oc (by omega)]
    by_cases e : f = tF T
    · subst e; rw [up_s]; exact congrArg nI upN_s.symm
    · rw [up_of e]; exact (n4 f (by have : f < tF T + 1 := hf; omega)).1.trans (congrArg nI (upN_o e).symm)
  · rw [up_oc (by omega), up_oc (by omega)]
    by_cases e : f = tF T
    · subst e; rw [up_s]; exact congrArg nI upN_s.symm
    · rw [up_of e, up_oc (by omega)]; exact (n4 f (by have : f < tF T + 1 := hf; omega)).2.1.trans (congrArg nI (upN_o e).symm)
  · rw [up_oc (by omega)]
    by_cases e : f = tF T
    · subst e; rw [up_s]; exact congrArg nI upN_s.symm
    · rw [up_of e, up_oc (by omega), up_oc (by omega)]; exact (n4 f (by have : f < tF T + 1 := hf; omega)).2.2.trans (congrArg nI (upN_o e).symm)
/-- Town.widerThan(width) -/
theorem c_widerThan (θ : Site) (S : St) (b x : Nat) (hk : TwAt b) (T : Tn) (hT : TwR S b T) (hP8 : tP T ≤ 8) (hY : ∀ p, p < tP T → tY T p ≤ 30) (hx : x ≤ 30) : Cti yX5_widerThan cX5_widerThan 4 (some .int) 0 θ shX [.ref (sA θ b), .int (nI x)] S (fun r S' => r = nI (msk (fun p => decide (x < tY T p)) (tP T)) ∧ S' = S) := by
  obtain ⟨h0, h1, h2, h3, h4, h5, h6⟩ := hk
  obtain ⟨n1, n2, n3, n4⟩ := hT
  refine Cti.mk (own := RX5) 2 [some (.ref (sA θ b)), some (.int (nI x)), none, none] (fun K hC => ?_)
  have loop : ∀ n p, p + n = tP T → K 4 [some (.ref (sA θ b)), some (.int (nI x)), some (.int (nI (msk (fun p => decide (x < tY T p)) p))), some (.int (nI p))] [] S := by
    intro n
    induction n with
    | zero =>
      intro p hp
      have e : p = tP T := by omega
      subst e
      refine q_iload_n hC dX5_widerThan_4 ?_
      refine q_aload_n hC dX5_widerThan_5 ?_
      refine q_getI hC (by first | assumption | rfl) flX5_9 dX5_widerThan_6 ?_
      rw [n1]
      refine q_icmp_ge hC 38 dX5_widerThan_9 (by decide) (fun hb => ?_) (fun hb => ?_)
      · refine q_iload_n hC dX5_widerThan_38 ?_
        refine q_iret hC dX5_widerThan_39 ?_
        exact ⟨rfl, rfl⟩
      · exact absurd (nI_le (Nat.le_refl _) (by omega)) hb
    | succ n ih =>
      intro p hp
      refine q_iload_n hC dX5_widerThan_4 ?_
      refine q_aload_n hC dX5_widerThan_5 ?_
      refine q_getI hC (by first | assumption | rfl) flX5_9 dX5_widerThan_6 ?_
      rw [n1]
      refine q_icmp_ge hC 38 dX5_widerThan_9 (by decide) (fun hb => ?_) (fun hb => ?_)
      · exact absurd ((nI_leI (by omega) (by omega)).mp hb) (by omega)
      · have hp8 : p < 8 := by omega
        have hy := hY p (by omega)
        refine q_iload_n hC dX5_widerThan_12 ?_
        refine q_aload_n hC dX5_widerThan_13 ?_
        refine q_getR hC (by first | assumption | rfl) flX5_22 dX5_widerThan_14 ?_
        refine q_iload_n hC dX5_widerThan_17 ?_
        refine q_ialdn hC (by first | assumption | rfl) (by first | assumption | omega) dX5_widerThan_18 ?_
        rw [(n3 p (by omega)).2.2]
        refine q_iload_n hC dX5_widerThan_19 ?_
        refine q_icmp_le hC 29 dX5_widerThan_20 (by decide) (fun hb => ?_) (fun hb => ?_)
        · have h9 : ¬ x < tY T p := by have := (nI_leI (by omega) (by omega)).mp hb; omega
          refine q_iconst (v := nI 0) hC dX5_widerThan_29 (by decide) ?_
          refine q_ior hC dX5_widerThan_30 ?_
          rw [show nI 0 = (if decide (x < tY T p) = true then nI (2 ^ p) else nI 0) by simp [h9], msk_or (fun p => decide (x < tY T p)) p]
          refine q_istore_2 hC dX5_widerThan_31 ?_
          refine q_inc1_3 hC dX5_widerThan_32 ?_
          refine q_goto hC 4 dX5_widerThan_35 (by decide) ?_
          exact ih (p + 1) (by omega)
        · have h9 : x < tY T p := by
            rcases Nat.lt_or_ge x (tY T p) with h | h
            · exact h
            · exact absurd (nI_le h (by omega)) hb
          refine q_iconst (v := nI 1) hC dX5_widerThan_23 (by decide) ?_
          refine q_iload_n hC dX5_widerThan_24 ?_
          refine q_ishl hC dX5_widerThan_25 ?_
          rw [sh1 (by omega)]
          refine q_goto hC 30 dX5_widerThan_26 (by decide) ?_
          refine q_ior hC dX5_widerThan_30 ?_
          rw [show nI (2 ^ p) = (if decide (x < tY T p) = true then nI (2 ^ p) else nI 0) by simp [h9], msk_or (fun p => decide (x < tY T p)) p]
          refine q_istore_2 hC dX5_widerThan_31 ?_
          refine q_inc1_3 hC dX5_widerThan_32 ?_
          refine q_goto hC 4 dX5_widerThan_35 (by decide) ?_
          exact ih (p + 1) (by omega)
  refine q_iconst (v := nI 0) hC dX5_widerThan_0 (by decide) ?_
  refine q_istore_2 hC dX5_widerThan_1 ?_
  refine q_iconst (v := nI 0) hC dX5_widerThan_2 (by decide) ?_
  refine q_istore_3 hC dX5_widerThan_3 ?_
  exact loop (tP T) 0 (by omega)
/-- Town.yardsOf(set) -/
theorem c_yardsOf (θ : Site) (S : St) (b B : Nat) (hk : TwAt b) (T : Tn) (hT : TwR S b T) (hP8 : tP T ≤ 8) (hB : B < 256) : Cti yX5_yardsOf cX5_yardsOf 4 (some .int) 0 θ shX [.ref (sA θ b), .int (nI B)] S (fun r S' => r = nI (sumY T B (tP T)) ∧ S' = S) := by
  obtain ⟨h0, h1, h2, h3, h4, h5, h6⟩ := hk
  obtain ⟨n1, n2, n3, n4⟩ := hT
  refine Cti.mk (own := RX5) 2 [some (.ref (sA θ b)), some (.int (nI B)), none, none] (fun K hC => ?_)
  have loop : ∀ n p, p + n = tP T → K 4 [some (.ref (sA θ b)), some (.int (nI B)), some (.int (nI (sumY T B p))), some (.int (nI p))] [] S := by
    intro n
    induction n with
    | zero =>
      intro p hp
      have e : p = tP T := by omega
      subst e
      refine q_iload_n hC dX5_yardsOf_4 ?_
      refine q_aload_n hC dX5_yardsOf_5 ?_
      refine q_getI hC (by first | assumption | rfl) flX5_9 dX5_yardsOf_6 ?_
      rw [n1]
      refine q_icmp_ge hC 33 dX5_yardsOf_9 (by decide) (fun hb => ?_) (fun hb => ?_)
      · refine q_iload_n hC dX5_yardsOf_33 ?_
        refine q_iret hC dX5_yardsOf_34 ?_
        exact ⟨rfl, rfl⟩
      · exact absurd (nI_le (Nat.le_refl _) (by omega)) hb
    | succ n ih =>
      intro p hp
      refine q_iload_n hC dX5_yardsOf_4 ?_
      refine q_aload_n hC dX5_yardsOf_5 ?_
      refine q_getI hC (by first | assumption | rfl) flX5_9 dX5_yardsOf_6 ?_
      rw [n1]
      refine q_icmp_ge hC 33 dX5_yardsOf_9 (by decide) (fun hb => ?_) (fun hb => ?_)
      · exact absurd ((nI_leI (by omega) (by omega)).mp hb) (by omega)
      · have hp8 : p < 8 := by omega
        refine q_iload_n hC dX5_yardsOf_12 ?_
        refine q_iload_n hC dX5_yardsOf_13 ?_
        refine q_iload_n hC dX5_yardsOf_14 ?_
        refine q_ishr hC dX5_yardsOf_15 ?_
        refine q_iconst (v := nI 1) hC dX5_yardsOf_16 (by decide) ?_
        refine q_iand hC dX5_yardsOf_17 ?_
        rw [bit_n (by omega) (by omega)]
        refine q_aload_n hC dX5_yardsOf_18 ?_
        refine q_getR hC (by first | assumption | rfl) flX5_22 dX5_yardsOf_19 ?_
        refine q_iload_n hC dX5_yardsOf_22 ?_
        refine q_ialdn hC (by first | assumption | rfl) (by first | assumption | omega) dX5_yardsOf_23 ?_
        rw [(n3 p (by omega)).2.2]
        refine q_imul hC dX5_yardsOf_24 ?_
        rw [pk_mul]
        refine q_iadd hC dX5_yardsOf_25 ?_
        rw [nI_add]
        refine q_istore_2 hC dX5_yardsOf_26 ?_
        refine q_inc1_3 hC dX5_yardsOf_27 ?_
        refine q_goto hC 4 dX5_yardsOf_30 (by decide) ?_
        exact ih (p + 1) (by omega)
  refine q_iconst (v := nI 0) hC dX5_yardsOf_0 (by decide) ?_
  refine q_istore_2 hC dX5_yardsOf_1 ?_
  refine q_iconst (v := nI 0) hC dX5_yardsOf_2 (by decide) ?_
  refine q_istore_3 hC dX5_yardsOf_3 ?_
  exact loop (tP T) 0 (by omega)
end
