section
-- ===== PART A: goes FIRST, ahead of the names: the tables' words, and 'selects' of the private methods out of them =====
/-- a private method of a class that the tables say can be made, by its rows of tables_1 -/
def lw_okq (q : MethodName × Nat) : Prop := (q.1.cls ≠ "java/lang/invoke/MethodHandle" ∧ q.1.cls ≠ "java/lang/invoke/VarHandle") ∧ Cond.instantiable q.1.cls q.2 ∈ tables_1 ∧ Cond.privateMethod q.1 ∈ tables_1 ∧ Cond.instanceMethod q.1 ∈ tables_1
theorem lw_p0 : lw_okq (⟨"PlaceNet$Server", "isLive", "(II)Z"⟩, 5) := ⟨⟨by decide +kernel, by decide +kernel⟩, List.mem_of_getElem? (i := 35) (by decide +kernel), List.mem_of_getElem? (i := 168) (by decide +kernel), List.mem_of_getElem? (i := 169) (by decide +kernel)⟩
theorem lw_p1 : lw_okq (⟨"PlaceNet", "countNotes", "()I"⟩, 14) := ⟨⟨by decide +kernel, by decide +kernel⟩, List.mem_of_getElem? (i := 20) (by decide +kernel), List.mem_of_getElem? (i := 195) (by decide +kernel), List.mem_of_getElem? (i := 196) (by decide +kernel)⟩
theorem lw_p2 : lw_okq (⟨"java/lang/Throwable", "fillInStackTrace", "(I)Ljava/lang/Throwable;"⟩, 6) := ⟨⟨by decide +kernel, by decide +kernel⟩, List.mem_of_getElem? (i := 257) (by decide +kernel), List.mem_of_getElem? (i := 255) (by decide +kernel), List.mem_of_getElem? (i := 256) (by decide +kernel)⟩
theorem lw_p3 : lw_okq (⟨"PlaceNet$Tree", "isChild", "(ILPlaceNet$Server;)Z"⟩, 1) := ⟨⟨by decide +kernel, by decide +kernel⟩, List.mem_of_getElem? (i := 28) (by decide +kernel), List.mem_of_getElem? (i := 304) (by decide +kernel), List.mem_of_getElem? (i := 305) (by decide +kernel)⟩
theorem lw_p4 : lw_okq (⟨"PlaceNet", "hostOf", "(I)I"⟩, 14) := ⟨⟨by decide +kernel, by decide +kernel⟩, List.mem_of_getElem? (i := 20) (by decide +kernel), List.mem_of_getElem? (i := 331) (by decide +kernel), List.mem_of_getElem? (i := 332) (by decide +kernel)⟩
theorem lw_p5 : lw_okq (⟨"PlaceNet", "siteAt", "(I)LPlaceNet$Site;"⟩, 14) := ⟨⟨by decide +kernel, by decide +kernel⟩, List.mem_of_getElem? (i := 20) (by decide +kernel), List.mem_of_getElem? (i := 385) (by decide +kernel), List.mem_of_getElem? (i := 386) (by decide +kernel)⟩
theorem lw_p6 : lw_okq (⟨"PlaceNet", "isHeld", "(LPlaceNet$Prefix;)Z"⟩, 14) := ⟨⟨by decide +kernel, by decide +kernel⟩, List.mem_of_getElem? (i := 20) (by decide +kernel), List.mem_of_getElem? (i := 399) (by decide +kernel), List.mem_of_getElem? (i := 400) (by decide +kernel)⟩
theorem lw_p7 : lw_okq (⟨"PlaceNet", "postRegister", "(IILPlaceNet$Prefix;II)V"⟩, 14) := ⟨⟨by decide +kernel, by decide +kernel⟩, List.mem_of_getElem? (i := 20) (by decide +kernel), List.mem_of_getElem? (i := 429) (by decide +kernel), List.mem_of_getElem? (i := 430) (by decide +kernel)⟩
theorem lw_p8 : lw_okq (⟨"PlaceNet$Row", "cell", "(I)I"⟩, 4) := ⟨⟨by decide +kernel, by decide +kernel⟩, List.mem_of_getElem? (i := 89) (by decide +kernel), List.mem_of_getElem? (i := 445) (by decide +kernel), List.mem_of_getElem? (i := 446) (by decide +kernel)⟩
theorem lw_p9 : lw_okq (⟨"PlaceNet", "start", "(LPlaceNet$Packet;LPlaceNet$Site;)V"⟩, 14) := ⟨⟨by decide +kernel, by decide +kernel⟩, List.mem_of_getElem? (i := 20) (by decide +kernel), List.mem_of_getElem? (i := 516) (by decide +kernel), List.mem_of_getElem? (i := 517) (by decide +kernel)⟩
theorem lw_p10 : lw_okq (⟨"PlaceNet", "follow", "(LPlaceNet$Note;LPlaceNet$Packet;)V"⟩, 14) := ⟨⟨by decide +kernel, by decide +kernel⟩, List.mem_of_getElem? (i := 20) (by decide +kernel), List.mem_of_getElem? (i := 534) (by decide +kernel), List.mem_of_getElem? (i := 535) (by decide +kernel)⟩
theorem lw_p11 : lw_okq (⟨"PlaceNet", "postShort", "(IIIII)V"⟩, 14) := ⟨⟨by decide +kernel, by decide +kernel⟩, List.mem_of_getElem? (i := 20) (by decide +kernel), List.mem_of_getElem? (i := 542) (by decide +kernel), List.mem_of_getElem? (i := 543) (by decide +kernel)⟩
theorem lw_p12 : lw_okq (⟨"PlaceNet", "postRequest", "(ILPlaceNet$Packet;)V"⟩, 14) := ⟨⟨by decide +kernel, by decide +kernel⟩, List.mem_of_getElem? (i := 20) (by decide +kernel), List.mem_of_getElem? (i := 546) (by decide +kernel), List.mem_of_getElem? (i := 547) (by decide +kernel)⟩
theorem lw_p13 : lw_okq (⟨"PlaceNet", "draw", "()I"⟩, 14) := ⟨⟨by decide +kernel, by decide +kernel⟩, List.mem_of_getElem? (i := 20) (by decide +kernel), List.mem_of_getElem? (i := 550) (by decide +kernel), List.mem_of_getElem? (i := 551) (by decide +kernel)⟩
theorem lw_p14 : lw_okq (⟨"PlaceNet", "bring", "(I)V"⟩, 14) := ⟨⟨by decide +kernel, by decide +kernel⟩, List.mem_of_getElem? (i := 20) (by decide +kernel), List.mem_of_getElem? (i := 582) (by decide +kernel), List.mem_of_getElem? (i := 583) (by decide +kernel)⟩
theorem lw_p15 : lw_okq (⟨"PlaceNet", "takeRegister", "(LPlaceNet$Server;)V"⟩, 14) := ⟨⟨by decide +kernel, by decide +kernel⟩, List.mem_of_getElem? (i := 20) (by decide +kernel), List.mem_of_getElem? (i := 594) (by decide +kernel), List.mem_of_getElem? (i := 595) (by decide +kernel)⟩
def lw_privs_1 : List (MethodName × Nat) := [(⟨"PlaceNet$Server", "isLive", "(II)Z"⟩, 5), (⟨"PlaceNet", "countNotes", "()I"⟩, 14), (⟨"java/lang/Throwable", "fillInStackTrace", "(I)Ljava/lang/Throwable;"⟩, 6), (⟨"PlaceNet$Tree", "isChild", "(ILPlaceNet$Server;)Z"⟩, 1), (⟨"PlaceNet", "hostOf", "(I)I"⟩, 14), (⟨"PlaceNet", "siteAt", "(I)LPlaceNet$Site;"⟩, 14), (⟨"PlaceNet", "isHeld", "(LPlaceNet$Prefix;)Z"⟩, 14), (⟨"PlaceNet", "postRegister", "(IILPlaceNet$Prefix;II)V"⟩, 14), (⟨"PlaceNet$Row", "cell", "(I)I"⟩, 4), (⟨"PlaceNet", "start", "(LPlaceNet$Packet;LPlaceNet$Site;)V"⟩, 14), (⟨"PlaceNet", "follow", "(LPlaceNet$Note;LPlaceNet$Packet;)V"⟩, 14), (⟨"PlaceNet", "postShort", "(IIIII)V"⟩, 14), (⟨"PlaceNet", "postRequest", "(ILPlaceNet$Packet;)V"⟩, 14), (⟨"PlaceNet", "draw", "()I"⟩, 14), (⟨"PlaceNet", "bring", "(I)V"⟩, 14), (⟨"PlaceNet", "takeRegister", "(LPlaceNet$Server;)V"⟩, 14)]
theorem lw_r1 : ∀ q ∈ lw_privs_1, lw_okq q := List.forall_mem_cons.mpr ⟨lw_p0, List.forall_mem_cons.mpr ⟨lw_p1, List.forall_mem_cons.mpr ⟨lw_p2, List.forall_mem_cons.mpr ⟨lw_p3, List.forall_mem_cons.mpr ⟨lw_p4, List.forall_mem_cons.mpr ⟨lw_p5, List.forall_mem_cons.mpr ⟨lw_p6, List.forall_mem_cons.mpr ⟨lw_p7, List.forall_mem_cons.mpr ⟨lw_p8, List.forall_mem_cons.mpr ⟨lw_p9, List.forall_mem_cons.mpr ⟨lw_p10, List.forall_mem_cons.mpr ⟨lw_p11, List.forall_mem_cons.mpr ⟨lw_p12, List.forall_mem_cons.mpr ⟨lw_p13, List.forall_mem_cons.mpr ⟨lw_p14, List.forall_mem_cons.mpr ⟨lw_p15, fun _ h => absurd h List.not_mem_nil⟩⟩⟩⟩⟩⟩⟩⟩⟩⟩⟩⟩⟩⟩⟩⟩
theorem lw_p16 : lw_okq (⟨"PlaceNet$Server", "slotFor", "(LPlaceNet$Prefix;I)I"⟩, 5) := ⟨⟨by decide +kernel, by decide +kernel⟩, List.mem_of_getElem? (i := 35) (by decide +kernel), List.mem_of_getElem? (i := 606) (by decide +kernel), List.mem_of_getElem? (i := 607) (by decide +kernel)⟩
theorem lw_p17 : lw_okq (⟨"PlaceNet", "takeRequest", "(LPlaceNet$Server;)V"⟩, 14) := ⟨⟨by decide +kernel, by decide +kernel⟩, List.mem_of_getElem? (i := 20) (by decide +kernel), List.mem_of_getElem? (i := 644) (by decide +kernel), List.mem_of_getElem? (i := 645) (by decide +kernel)⟩
theorem lw_p18 : lw_okq (⟨"PlaceNet", "postReply", "(IIILPlaceNet$Prefix;II)V"⟩, 14) := ⟨⟨by decide +kernel, by decide +kernel⟩, List.mem_of_getElem? (i := 20) (by decide +kernel), List.mem_of_getElem? (i := 654) (by decide +kernel), List.mem_of_getElem? (i := 655) (by decide +kernel)⟩
theorem lw_p19 : lw_okq (⟨"PlaceNet$Tree", "hasChildRound", "(LPlaceNet$Server;II)Z"⟩, 1) := ⟨⟨by decide +kernel, by decide +kernel⟩, List.mem_of_getElem? (i := 28) (by decide +kernel), List.mem_of_getElem? (i := 671) (by decide +kernel), List.mem_of_getElem? (i := 672) (by decide +kernel)⟩
theorem lw_p20 : lw_okq (⟨"PlaceNet", "takeReply", "(I)V"⟩, 14) := ⟨⟨by decide +kernel, by decide +kernel⟩, List.mem_of_getElem? (i := 20) (by decide +kernel), List.mem_of_getElem? (i := 679) (by decide +kernel), List.mem_of_getElem? (i := 680) (by decide +kernel)⟩
theorem lw_p21 : lw_okq (⟨"PlaceNet", "waiting", "(II)LPlaceNet$Packet;"⟩, 14) := ⟨⟨by decide +kernel, by decide +kernel⟩, List.mem_of_getElem? (i := 20) (by decide +kernel), List.mem_of_getElem? (i := 683) (by decide +kernel), List.mem_of_getElem? (i := 684) (by decide +kernel)⟩
theorem lw_p22 : lw_okq (⟨"PlaceNet", "refer", "(LPlaceNet$Packet;I)V"⟩, 14) := ⟨⟨by decide +kernel, by decide +kernel⟩, List.mem_of_getElem? (i := 20) (by decide +kernel), List.mem_of_getElem? (i := 690) (by decide +kernel), List.mem_of_getElem? (i := 691) (by decide +kernel)⟩
theorem lw_p23 : lw_okq (⟨"PlaceNet$Notes", "remove", "(I)V"⟩, 2) := ⟨⟨by decide +kernel, by decide +kernel⟩, List.mem_of_getElem? (i := 343) (by decide +kernel), List.mem_of_getElem? (i := 723) (by decide +kernel), List.mem_of_getElem? (i := 724) (by decide +kernel)⟩
theorem lw_p24 : lw_okq (⟨"PlaceNet", "takeData", "(I)V"⟩, 14) := ⟨⟨by decide +kernel, by decide +kernel⟩, List.mem_of_getElem? (i := 20) (by decide +kernel), List.mem_of_getElem? (i := 727) (by decide +kernel), List.mem_of_getElem? (i := 728) (by decide +kernel)⟩
theorem lw_p25 : lw_okq (⟨"PlaceNet", "packetAt", "(I)LPlaceNet$Packet;"⟩, 14) := ⟨⟨by decide +kernel, by decide +kernel⟩, List.mem_of_getElem? (i := 20) (by decide +kernel), List.mem_of_getElem? (i := 731) (by decide +kernel), List.mem_of_getElem? (i := 732) (by decide +kernel)⟩
theorem lw_p26 : lw_okq (⟨"PlaceNet", "passOn", "(LPlaceNet$Packet;I)V"⟩, 14) := ⟨⟨by decide +kernel, by decide +kernel⟩, List.mem_of_getElem? (i := 20) (by decide +kernel), List.mem_of_getElem? (i := 735) (by decide +kernel), List.mem_of_getElem? (i := 736) (by decide +kernel)⟩
theorem lw_p27 : lw_okq (⟨"PlaceNet", "postSolicit", "(III)V"⟩, 14) := ⟨⟨by decide +kernel, by decide +kernel⟩, List.mem_of_getElem? (i := 20) (by decide +kernel), List.mem_of_getElem? (i := 743) (by decide +kernel), List.mem_of_getElem? (i := 744) (by decide +kernel)⟩
theorem lw_p28 : lw_okq (⟨"PlaceNet", "takeSolicit", "(LPlaceNet$Site;)V"⟩, 14) := ⟨⟨by decide +kernel, by decide +kernel⟩, List.mem_of_getElem? (i := 20) (by decide +kernel), List.mem_of_getElem? (i := 747) (by decide +kernel), List.mem_of_getElem? (i := 748) (by decide +kernel)⟩
theorem lw_p29 : lw_okq (⟨"PlaceNetModel", "isServerAt", "(I)Z"⟩, 43) := ⟨⟨by decide +kernel, by decide +kernel⟩, List.mem_of_getElem? (i := 826) (by decide +kernel), List.mem_of_getElem? (i := 972) (by decide +kernel), List.mem_of_getElem? (i := 973) (by decide +kernel)⟩
theorem lw_p30 : lw_okq (⟨"PlaceNetModel", "owner", "(II)I"⟩, 43) := ⟨⟨by decide +kernel, by decide +kernel⟩, List.mem_of_getElem? (i := 826) (by decide +kernel), List.mem_of_getElem? (i := 982) (by decide +kernel), List.mem_of_getElem? (i := 983) (by decide +kernel)⟩
theorem lw_p31 : lw_okq (⟨"PlaceNetModel", "siteAt", "(I)I"⟩, 43) := ⟨⟨by decide +kernel, by decide +kernel⟩, List.mem_of_getElem? (i := 826) (by decide +kernel), List.mem_of_getElem? (i := 996) (by decide +kernel), List.mem_of_getElem? (i := 997) (by decide +kernel)⟩
def lw_privs_2 : List (MethodName × Nat) := [(⟨"PlaceNet$Server", "slotFor", "(LPlaceNet$Prefix;I)I"⟩, 5), (⟨"PlaceNet", "takeRequest", "(LPlaceNet$Server;)V"⟩, 14), (⟨"PlaceNet", "postReply", "(IIILPlaceNet$Prefix;II)V"⟩, 14), (⟨"PlaceNet$Tree", "hasChildRound", "(LPlaceNet$Server;II)Z"⟩, 1), (⟨"PlaceNet", "takeReply", "(I)V"⟩, 14), (⟨"PlaceNet", "waiting", "(II)LPlaceNet$Packet;"⟩, 14), (⟨"PlaceNet", "refer", "(LPlaceNet$Packet;I)V"⟩, 14), (⟨"PlaceNet$Notes", "remove", "(I)V"⟩, 2), (⟨"PlaceNet", "takeData", "(I)V"⟩, 14), (⟨"PlaceNet", "packetAt", "(I)LPlaceNet$Packet;"⟩, 14), (⟨"PlaceNet", "passOn", "(LPlaceNet$Packet;I)V"⟩, 14), (⟨"PlaceNet", "postSolicit", "(III)V"⟩, 14), (⟨"PlaceNet", "takeSolicit", "(LPlaceNet$Site;)V"⟩, 14), (⟨"PlaceNetModel", "isServerAt", "(I)Z"⟩, 43), (⟨"PlaceNetModel", "owner", "(II)I"⟩, 43), (⟨"PlaceNetModel", "siteAt", "(I)I"⟩, 43)]
theorem lw_r2 : ∀ q ∈ lw_privs_2, lw_okq q := List.forall_mem_cons.mpr ⟨lw_p16, List.forall_mem_cons.mpr ⟨lw_p17, List.forall_mem_cons.mpr ⟨lw_p18, List.forall_mem_cons.mpr ⟨lw_p19, List.forall_mem_cons.mpr ⟨lw_p20, List.forall_mem_cons.mpr ⟨lw_p21, List.forall_mem_cons.mpr ⟨lw_p22, List.forall_mem_cons.mpr ⟨lw_p23, List.forall_mem_cons.mpr ⟨lw_p24, List.forall_mem_cons.mpr ⟨lw_p25, List.forall_mem_cons.mpr ⟨lw_p26, List.forall_mem_cons.mpr ⟨lw_p27, List.forall_mem_cons.mpr ⟨lw_p28, List.forall_mem_cons.mpr ⟨lw_p29, List.forall_mem_cons.mpr ⟨lw_p30, List.forall_mem_cons.mpr ⟨lw_p31, fun _ h => absurd h List.not_mem_nil⟩⟩⟩⟩⟩⟩⟩⟩⟩⟩⟩⟩⟩⟩⟩⟩
theorem lw_p32 : lw_okq (⟨"PlaceNetModel", "isSite", "(I)Z"⟩, 43) := ⟨⟨by decide +kernel, by decide +kernel⟩, List.mem_of_getElem? (i := 826) (by decide +kernel), List.mem_of_getElem? (i := 1004) (by decide +kernel), List.mem_of_getElem? (i := 1005) (by decide +kernel)⟩
theorem lw_p33 : lw_okq (⟨"PlaceNetModel", "post", "(IIIIIII)V"⟩, 43) := ⟨⟨by decide +kernel, by decide +kernel⟩, List.mem_of_getElem? (i := 826) (by decide +kernel), List.mem_of_getElem? (i := 1016) (by decide +kernel), List.mem_of_getElem? (i := 1017) (by decide +kernel)⟩
theorem lw_p34 : lw_okq (⟨"PlaceNetModel", "last", "(II)V"⟩, 43) := ⟨⟨by decide +kernel, by decide +kernel⟩, List.mem_of_getElem? (i := 826) (by decide +kernel), List.mem_of_getElem? (i := 1028) (by decide +kernel), List.mem_of_getElem? (i := 1029) (by decide +kernel)⟩
theorem lw_p35 : lw_okq (⟨"PlaceNetModel", "isMessage", "(I)Z"⟩, 43) := ⟨⟨by decide +kernel, by decide +kernel⟩, List.mem_of_getElem? (i := 826) (by decide +kernel), List.mem_of_getElem? (i := 1036) (by decide +kernel), List.mem_of_getElem? (i := 1037) (by decide +kernel)⟩
theorem lw_p36 : lw_okq (⟨"PlaceNetModel", "take", "(I)V"⟩, 43) := ⟨⟨by decide +kernel, by decide +kernel⟩, List.mem_of_getElem? (i := 826) (by decide +kernel), List.mem_of_getElem? (i := 1040) (by decide +kernel), List.mem_of_getElem? (i := 1041) (by decide +kernel)⟩
theorem lw_p37 : lw_okq (⟨"PlaceNetModel", "arrive", "()V"⟩, 43) := ⟨⟨by decide +kernel, by decide +kernel⟩, List.mem_of_getElem? (i := 826) (by decide +kernel), List.mem_of_getElem? (i := 1044) (by decide +kernel), List.mem_of_getElem? (i := 1045) (by decide +kernel)⟩
theorem lw_p38 : lw_okq (⟨"PlaceNetModel", "registered", "()V"⟩, 43) := ⟨⟨by decide +kernel, by decide +kernel⟩, List.mem_of_getElem? (i := 826) (by decide +kernel), List.mem_of_getElem? (i := 1048) (by decide +kernel), List.mem_of_getElem? (i := 1049) (by decide +kernel)⟩
theorem lw_p39 : lw_okq (⟨"PlaceNetModel", "entryFor", "(III)I"⟩, 43) := ⟨⟨by decide +kernel, by decide +kernel⟩, List.mem_of_getElem? (i := 826) (by decide +kernel), List.mem_of_getElem? (i := 1052) (by decide +kernel), List.mem_of_getElem? (i := 1053) (by decide +kernel)⟩
theorem lw_p40 : lw_okq (⟨"PlaceNetModel", "emptyEntry", "(I)I"⟩, 43) := ⟨⟨by decide +kernel, by decide +kernel⟩, List.mem_of_getElem? (i := 826) (by decide +kernel), List.mem_of_getElem? (i := 1056) (by decide +kernel), List.mem_of_getElem? (i := 1057) (by decide +kernel)⟩
theorem lw_p41 : lw_okq (⟨"PlaceNetModel", "requested", "()V"⟩, 43) := ⟨⟨by decide +kernel, by decide +kernel⟩, List.mem_of_getElem? (i := 826) (by decide +kernel), List.mem_of_getElem? (i := 1060) (by decide +kernel), List.mem_of_getElem? (i := 1061) (by decide +kernel)⟩
theorem lw_p42 : lw_okq (⟨"PlaceNetModel", "best", "(II)I"⟩, 43) := ⟨⟨by decide +kernel, by decide +kernel⟩, List.mem_of_getElem? (i := 826) (by decide +kernel), List.mem_of_getElem? (i := 1064) (by decide +kernel), List.mem_of_getElem? (i := 1065) (by decide +kernel)⟩
theorem lw_p43 : lw_okq (⟨"PlaceNetModel", "isCrowded", "(IIII)Z"⟩, 43) := ⟨⟨by decide +kernel, by decide +kernel⟩, List.mem_of_getElem? (i := 826) (by decide +kernel), List.mem_of_getElem? (i := 1068) (by decide +kernel), List.mem_of_getElem? (i := 1069) (by decide +kernel)⟩
theorem lw_p44 : lw_okq (⟨"PlaceNetModel", "replied", "()V"⟩, 43) := ⟨⟨by decide +kernel, by decide +kernel⟩, List.mem_of_getElem? (i := 826) (by decide +kernel), List.mem_of_getElem? (i := 1075) (by decide +kernel), List.mem_of_getElem? (i := 1076) (by decide +kernel)⟩
theorem lw_p45 : lw_okq (⟨"PlaceNetModel", "ask", "(II)V"⟩, 43) := ⟨⟨by decide +kernel, by decide +kernel⟩, List.mem_of_getElem? (i := 826) (by decide +kernel), List.mem_of_getElem? (i := 1079) (by decide +kernel), List.mem_of_getElem? (i := 1080) (by decide +kernel)⟩
theorem lw_p46 : lw_okq (⟨"PlaceNetModel", "draw", "()V"⟩, 43) := ⟨⟨by decide +kernel, by decide +kernel⟩, List.mem_of_getElem? (i := 826) (by decide +kernel), List.mem_of_getElem? (i := 1083) (by decide +kernel), List.mem_of_getElem? (i := 1084) (by decide +kernel)⟩
theorem lw_p47 : lw_okq (⟨"PlaceNetModel", "makeNote", "(IIIII)V"⟩, 43) := ⟨⟨by decide +kernel, by decide +kernel⟩, List.mem_of_getElem? (i := 826) (by decide +kernel), List.mem_of_getElem? (i := 1087) (by decide +kernel), List.mem_of_getElem? (i := 1088) (by decide +kernel)⟩
def lw_privs_3 : List (MethodName × Nat) := [(⟨"PlaceNetModel", "isSite", "(I)Z"⟩, 43), (⟨"PlaceNetModel", "post", "(IIIIIII)V"⟩, 43), (⟨"PlaceNetModel", "last", "(II)V"⟩, 43), (⟨"PlaceNetModel", "isMessage", "(I)Z"⟩, 43), (⟨"PlaceNetModel", "take", "(I)V"⟩, 43), (⟨"PlaceNetModel", "arrive", "()V"⟩, 43), (⟨"PlaceNetModel", "registered", "()V"⟩, 43), (⟨"PlaceNetModel", "entryFor", "(III)I"⟩, 43), (⟨"PlaceNetModel", "emptyEntry", "(I)I"⟩, 43), (⟨"PlaceNetModel", "requested", "()V"⟩, 43), (⟨"PlaceNetModel", "best", "(II)I"⟩, 43), (⟨"PlaceNetModel", "isCrowded", "(IIII)Z"⟩, 43), (⟨"PlaceNetModel", "replied", "()V"⟩, 43), (⟨"PlaceNetModel", "ask", "(II)V"⟩, 43), (⟨"PlaceNetModel", "draw", "()V"⟩, 43), (⟨"PlaceNetModel", "makeNote", "(IIIII)V"⟩, 43)]
theorem lw_r3 : ∀ q ∈ lw_privs_3, lw_okq q := List.forall_mem_cons.mpr ⟨lw_p32, List.forall_mem_cons.mpr ⟨lw_p33, List.forall_mem_cons.mpr ⟨lw_p34, List.forall_mem_cons.mpr ⟨lw_p35, List.forall_mem_cons.mpr ⟨lw_p36, List.forall_mem_cons.mpr ⟨lw_p37, List.forall_mem_cons.mpr ⟨lw_p38, List.forall_mem_cons.mpr ⟨lw_p39, List.forall_mem_cons.mpr ⟨lw_p40, List.forall_mem_cons.mpr ⟨lw_p41, List.forall_mem_cons.mpr ⟨lw_p42, List.forall_mem_cons.mpr ⟨lw_p43, List.forall_mem_cons.mpr ⟨lw_p44, List.forall_mem_cons.mpr ⟨lw_p45, List.forall_mem_cons.mpr ⟨lw_p46, List.forall_mem_cons.mpr ⟨lw_p47, fun _ h => absurd h List.not_mem_nil⟩⟩⟩⟩⟩⟩⟩⟩⟩⟩⟩⟩⟩⟩⟩⟩
theorem lw_p48 : lw_okq (⟨"PlaceNetModel", "follow", "(II)V"⟩, 43) := ⟨⟨by decide +kernel, by decide +kernel⟩, List.mem_of_getElem? (i := 826) (by decide +kernel), List.mem_of_getElem? (i := 1091) (by decide +kernel), List.mem_of_getElem? (i := 1092) (by decide +kernel)⟩
theorem lw_p49 : lw_okq (⟨"PlaceNetModel", "came", "()V"⟩, 43) := ⟨⟨by decide +kernel, by decide +kernel⟩, List.mem_of_getElem? (i := 826) (by decide +kernel), List.mem_of_getElem? (i := 1095) (by decide +kernel), List.mem_of_getElem? (i := 1096) (by decide +kernel)⟩
theorem lw_p50 : lw_okq (⟨"PlaceNetModel", "hasEndpoint", "(II)Z"⟩, 43) := ⟨⟨by decide +kernel, by decide +kernel⟩, List.mem_of_getElem? (i := 826) (by decide +kernel), List.mem_of_getElem? (i := 1099) (by decide +kernel), List.mem_of_getElem? (i := 1100) (by decide +kernel)⟩
theorem lw_p51 : lw_okq (⟨"PlaceNetModel", "deliver", "(II)V"⟩, 43) := ⟨⟨by decide +kernel, by decide +kernel⟩, List.mem_of_getElem? (i := 826) (by decide +kernel), List.mem_of_getElem? (i := 1103) (by decide +kernel), List.mem_of_getElem? (i := 1104) (by decide +kernel)⟩
theorem lw_p52 : lw_okq (⟨"PlaceNetModel", "lose", "(I)V"⟩, 43) := ⟨⟨by decide +kernel, by decide +kernel⟩, List.mem_of_getElem? (i := 826) (by decide +kernel), List.mem_of_getElem? (i := 1107) (by decide +kernel), List.mem_of_getElem? (i := 1108) (by decide +kernel)⟩
theorem lw_p53 : lw_okq (⟨"PlaceNetModel", "forget", "(III)V"⟩, 43) := ⟨⟨by decide +kernel, by decide +kernel⟩, List.mem_of_getElem? (i := 826) (by decide +kernel), List.mem_of_getElem? (i := 1111) (by decide +kernel), List.mem_of_getElem? (i := 1112) (by decide +kernel)⟩
theorem lw_p54 : lw_okq (⟨"PlaceNetModel", "noteFor", "(II)I"⟩, 43) := ⟨⟨by decide +kernel, by decide +kernel⟩, List.mem_of_getElem? (i := 826) (by decide +kernel), List.mem_of_getElem? (i := 1115) (by decide +kernel), List.mem_of_getElem? (i := 1116) (by decide +kernel)⟩
def lw_privs_4 : List (MethodName × Nat) := [(⟨"PlaceNetModel", "follow", "(II)V"⟩, 43), (⟨"PlaceNetModel", "came", "()V"⟩, 43), (⟨"PlaceNetModel", "hasEndpoint", "(II)Z"⟩, 43), (⟨"PlaceNetModel", "deliver", "(II)V"⟩, 43), (⟨"PlaceNetModel", "lose", "(I)V"⟩, 43), (⟨"PlaceNetModel", "forget", "(III)V"⟩, 43), (⟨"PlaceNetModel", "noteFor", "(II)I"⟩, 43)]
theorem lw_r4 : ∀ q ∈ lw_privs_4, lw_okq q := List.forall_mem_cons.mpr ⟨lw_p48, List.forall_mem_cons.mpr ⟨lw_p49, List.forall_mem_cons.mpr ⟨lw_p50, List.forall_mem_cons.mpr ⟨lw_p51, List.forall_mem_cons.mpr ⟨lw_p52, List.forall_mem_cons.mpr ⟨lw_p53, List.forall_mem_cons.mpr ⟨lw_p54, fun _ h => absurd h List.not_mem_nil⟩⟩⟩⟩⟩⟩⟩
def lw_privs : List (MethodName × Nat) := lw_privs_1 ++ (lw_privs_2 ++ (lw_privs_3 ++ (lw_privs_4)))
def lw_tbl : List Cond := k2_sels lw_privs ++ tables_1
theorem lw_privs_ok : ∀ q ∈ lw_privs, lw_okq q := by
  show ∀ q ∈ lw_privs_1 ++ (lw_privs_2 ++ (lw_privs_3 ++ (lw_privs_4))), lw_okq q
  exact List.forall_mem_append.mpr ⟨lw_r1, List.forall_mem_append.mpr ⟨lw_r2, List.forall_mem_append.mpr ⟨lw_r3, lw_r4⟩⟩⟩
theorem lw_tb {w : Cond} (h : w ∈ tables_1) : w ∈ lw_tbl := List.mem_append_right _ h
theorem lw_sl {q : MethodName × Nat} (h : q ∈ lw_privs) : Cond.selects q.1.cls q.1 q.1 ∈ lw_tbl := List.mem_append_left _ (List.mem_map.mpr ⟨q, h, rfl⟩)
/-- the words that stay good while the tables warm -/
def h_ws : List Cond := lw_tbl.filter goodWord
theorem h_ws_good : ∀ w ∈ h_ws, goodWord w = true := fun _ h => (List.mem_filter.mp h).2
theorem h_in {w : Cond} (h : w ∈ tables_1) (g : goodWord w = true) : w ∈ h_ws := List.mem_filter.mpr ⟨lw_tb h, g⟩
theorem h_inS {q : MethodName × Nat} (h : q ∈ lw_privs) (g : goodWord (Cond.selects q.1.cls q.1 q.1) = true) : Cond.selects q.1.cls q.1 q.1 ∈ h_ws := List.mem_filter.mpr ⟨lw_sl h, g⟩
end
section
def RX0 : String := "PlaceNet$Entry"
def TX0 : u_T := fun k => match k with
  | 0 => ("PlaceNet$Entry", "prefix", "LPlaceNet$Prefix;", true)
  | 1 => ("PlaceNet$Entry", "site", "I", true)
  | 2 => ("PlaceNet$Entry", "place", "I", true)
  | 3 => ("PlaceNet$Entry", "version", "I", true)
  | _ => ("PlaceNet$Entry", "lapsesAt", "I", true)
def tyX0 : Nat → FieldType := fun k => match k with
  | 0 => .object "PlaceNet$Prefix"
  | 1 => .int
  | 2 => .int
  | 3 => .int
  | _ => .int
theorem nmX0 : ∀ a, a < 5 → ∀ b, b < 5 → a ≠ b → (TX0 a).2.1 ≠ (TX0 b).2.1 := by decide +kernel
theorem tyX0_ok : ∀ k, k < 5 → parseFieldDescriptor (TX0 k).2.2.1 = some (tyX0 k) := by decide +kernel
abbrev cX0_init : ByteArray := prog_2_method_1_code
def yX0_init : MethodName := ⟨RX0, "<init>", "(LPlaceNet$Prefix;IIII)V"⟩
abbrev cX0_holdsAt : ByteArray := prog_2_method_2_code
def yX0_holdsAt : MethodName := ⟨RX0, "holdsAt", "(I)Z"⟩
def RX1 : String := "PlaceNet$Note"
def TX1 : u_T := fun k => match k with
  | 0 => ("PlaceNet$Note", "piece", "LPlaceNet$Prefix;", true)
  | 1 => ("PlaceNet$Note", "place", "I", true)
  | 2 => ("PlaceNet$Note", "version", "I", true)
  | _ => ("PlaceNet$Note", "goesAt", "I", true)
def tyX1 : Nat → FieldType := fun k => match k with
  | 0 => .object "PlaceNet$Prefix"
  | 1 => .int
  | 2 => .int
  | _ => .int
theorem nmX1 : ∀ a, a < 4 → ∀ b, b < 4 → a ≠ b → (TX1 a).2.1 ≠ (TX1 b).2.1 := by decide +kernel
theorem tyX1_ok : ∀ k, k < 4 → parseFieldDescriptor (TX1 k).2.2.1 = some (tyX1 k) := by decide +kernel
abbrev cX1_init : ByteArray := prog_3_method_1_code
def yX1_init : MethodName := ⟨RX1, "<init>", "(LPlaceNet$Prefix;III)V"⟩
abbrev cX1_isHole : ByteArray := prog_3_method_2_code
def yX1_isHole : MethodName := ⟨RX1, "isHole", "()Z"⟩
abbrev cX1_isThere : ByteArray := prog_3_method_3_code
def yX1_isThere : MethodName := ⟨RX1, "isThere", "(I)Z"⟩
def RX2 : String := "PlaceNet$Notes"
def TX2 : u_T := fun k => match k with
  | 0 => ("PlaceNet$Notes", "kept", "[LPlaceNet$Note;", true)
  | _ => ("PlaceNet$Notes", "size", "I", false)
def tyX2 : Nat → FieldType := fun k => match k with
  | 0 => .array (.object "PlaceNet$Note")
  | _ => .int
theorem nmX2 : ∀ a, a < 2 → ∀ b, b < 2 → a ≠ b → (TX2 a).2.1 ≠ (TX2 b).2.1 := by decide +kernel
theorem tyX2_ok : ∀ k, k < 2 → parseFieldDescriptor (TX2 k).2.2.1 = some (tyX2 k) := by decide +kernel
abbrev cX2_init : ByteArray := prog_4_method_1_code
def yX2_init : MethodName := ⟨RX2, "<init>", "()V"⟩
abbrev cX2_find : ByteArray := prog_4_method_2_code
def yX2_find : MethodName := ⟨RX2, "find", "(II)LPlaceNet$Note;"⟩
abbrev cX2_make : ByteArray := prog_4_method_3_code
def yX2_make : MethodName := ⟨RX2, "make", "(LPlaceNet$Note;I)V"⟩
abbrev cX2_lose : ByteArray := prog_4_method_4_code
def yX2_lose : MethodName := ⟨RX2, "lose", "(III)V"⟩
abbrev cX2_countThere : ByteArray := prog_4_method_5_code
def yX2_countThere : MethodName := ⟨RX2, "countThere", "(I)I"⟩
abbrev cX2_remove : ByteArray := prog_4_method_6_code
def yX2_remove : MethodName := ⟨RX2, "remove", "(I)V"⟩
def RX3 : String := "PlaceNet$Packet"
def TX3 : u_T := fun k => match k with
  | 0 => ("PlaceNet$Packet", "number", "I", true)
  | 1 => ("PlaceNet$Packet", "site", "I", true)
  | 2 => ("PlaceNet$Packet", "endpoint", "I", true)
  | 3 => ("PlaceNet$Packet", "state", "I", false)
  | 4 => ("PlaceNet$Packet", "nonce", "I", false)
  | 5 => ("PlaceNet$Packet", "deliveredAt", "I", false)
  | 6 => ("PlaceNet$Packet", "referrals", "I", false)
  | _ => ("PlaceNet$Packet", "deliveries", "I", false)
def tyX3 : Nat → FieldType := fun k => match k with
  | 0 => .int
  | 1 => .int
  | 2 => .int
  | 3 => .int
  | 4 => .int
  | 5 => .int
  | 6 => .int
  | _ => .int
theorem nmX3 : ∀ a, a < 8 → ∀ b, b < 8 → a ≠ b → (TX3 a).2.1 ≠ (TX3 b).2.1 := by decide +kernel
theorem tyX3_ok : ∀ k, k < 8 → parseFieldDescriptor (TX3 k).2.2.1 = some (tyX3 k) := by decide +kernel
abbrev cX3_init : ByteArray := prog_5_method_1_code
def yX3_init : MethodName := ⟨RX3, "<init>", "(III)V"⟩
abbrev cX3_arriveAt : ByteArray := prog_5_method_2_code
def yX3_arriveAt : MethodName := ⟨RX3, "arriveAt", "(I)V"⟩
abbrev cX3_lose : ByteArray := prog_5_method_3_code
def yX3_lose : MethodName := ⟨RX3, "lose", "()V"⟩
def RX4 : String := "PlaceNet$Prefix"
def TX4 : u_T := fun k => match k with
  | 0 => ("PlaceNet$Prefix", "bits", "I", true)
  | _ => ("PlaceNet$Prefix", "length", "I", true)
def tyX4 : Nat → FieldType := fun k => match k with
  | 0 => .int
  | _ => .int
theorem nmX4 : ∀ a, a < 2 → ∀ b, b < 2 → a ≠ b → (TX4 a).2.1 ≠ (TX4 b).2.1 := by decide +kernel
theorem tyX4_ok : ∀ k, k < 2 → parseFieldDescriptor (TX4 k).2.2.1 = some (tyX4 k) := by decide +kernel
abbrev cX4_init : ByteArray := prog_6_method_1_code
def yX4_init : MethodName := ⟨RX4, "<init>", "(II)V"⟩
abbrev cX4_of : ByteArray := prog_6_method_2_code
def yX4_of : MethodName := ⟨RX4, "of", "(II)LPlaceNet$Prefix;"⟩
abbrev cX4_round : ByteArray := prog_6_method_3_code
def yX4_round : MethodName := ⟨RX4, "round", "(II)LPlaceNet$Prefix;"⟩
abbrev cX4_mask : ByteArray := prog_6_method_4_code
def yX4_mask : MethodName := ⟨RX4, "mask", "(I)I"⟩
abbrev cX4_has : ByteArray := prog_6_method_5_code
def yX4_has : MethodName := ⟨RX4, "has", "(I)Z"⟩
abbrev cX4_same : ByteArray := prog_6_method_6_code
def yX4_same : MethodName := ⟨RX4, "same", "(LPlaceNet$Prefix;)Z"⟩
abbrev cX4_liesIn : ByteArray := prog_6_method_7_code
def yX4_liesIn : MethodName := ⟨RX4, "liesIn", "(LPlaceNet$Prefix;)Z"⟩
abbrev cX4_liesRound : ByteArray := prog_6_method_8_code
def yX4_liesRound : MethodName := ⟨RX4, "liesRound", "(II)Z"⟩
abbrev cX4_meets : ByteArray := prog_6_method_9_code
def yX4_meets : MethodName := ⟨RX4, "meets", "(LPlaceNet$Prefix;)Z"⟩
def RX5 : String := "PlaceNet$Row"
def TX5 : u_T := fun k => match k with
  | 0 => ("PlaceNet$Row", "cells", "[I", true)
  | 1 => ("PlaceNet$Row", "first", "I", false)
  | 2 => ("PlaceNet$Row", "size", "I", false)
  | _ => ("PlaceNet$Row", "lost", "I", false)
def tyX5 : Nat → FieldType := fun k => match k with
  | 0 => .array .int
  | 1 => .int
  | 2 => .int
  | _ => .int
theorem nmX5 : ∀ a, a < 4 → ∀ b, b < 4 → a ≠ b → (TX5 a).2.1 ≠ (TX5 b).2.1 := by decide +kernel
theorem tyX5_ok : ∀ k, k < 4 → parseFieldDescriptor (TX5 k).2.2.1 = some (tyX5 k) := by decide +kernel
abbrev cX5_init : ByteArray := prog_7_method_1_code
def yX5_init : MethodName := ⟨RX5, "<init>", "()V"⟩
abbrev cX5_has : ByteArray := prog_7_method_2_code
def yX5_has : MethodName := ⟨RX5, "has", "(I)Z"⟩
abbrev cX5_get : ByteArray := prog_7_method_3_code
def yX5_get : MethodName := ⟨RX5, "get", "(II)I"⟩
abbrev cX5_set : ByteArray := prog_7_method_4_code
def yX5_set : MethodName := ⟨RX5, "set", "(III)V"⟩
abbrev cX5_copy : ByteArray := prog_7_method_5_code
def yX5_copy : MethodName := ⟨RX5, "copy", "(I[I)V"⟩
abbrev cX5_add : ByteArray := prog_7_method_6_code
def yX5_add : MethodName := ⟨RX5, "add", "(II[I)V"⟩
abbrev cX5_addAgain : ByteArray := prog_7_method_7_code
def yX5_addAgain : MethodName := ⟨RX5, "addAgain", "(I)V"⟩
abbrev cX5_remove : ByteArray := prog_7_method_8_code
def yX5_remove : MethodName := ⟨RX5, "remove", "(I)V"⟩
abbrev cX5_cell : ByteArray := prog_7_method_9_code
def yX5_cell : MethodName := ⟨RX5, "cell", "(I)I"⟩
def RX6 : String := "PlaceNet$Server"
def TX6 : u_T := fun k => match k with
  | 0 => ("PlaceNet$Server", "number", "I", true)
  | 1 => ("PlaceNet$Server", "parent", "I", true)
  | 2 => ("PlaceNet$Server", "part", "LPlaceNet$Prefix;", true)
  | 3 => ("PlaceNet$Server", "entries", "[LPlaceNet$Entry;", true)
  | _ => ("PlaceNet$Server", "highestTaken", "[J", true)
def tyX6 : Nat → FieldType := fun k => match k with
  | 0 => .int
  | 1 => .int
  | 2 => .object "PlaceNet$Prefix"
  | 3 => .array (.object "PlaceNet$Entry")
  | _ => .array .long
theorem nmX6 : ∀ a, a < 5 → ∀ b, b < 5 → a ≠ b → (TX6 a).2.1 ≠ (TX6 b).2.1 := by decide +kernel
theorem tyX6_ok : ∀ k, k < 5 → parseFieldDescriptor (TX6 k).2.2.1 = some (tyX6 k) := by decide +kernel
abbrev cX6_init : ByteArray := prog_8_method_1_code
def yX6_init : MethodName := ⟨RX6, "<init>", "(IILPlaceNet$Prefix;)V"⟩
abbrev cX6_isFresh : ByteArray := prog_8_method_2_code
def yX6_isFresh : MethodName := ⟨RX6, "isFresh", "(II)Z"⟩
abbrev cX6_hasRoom : ByteArray := prog_8_method_3_code
def yX6_hasRoom : MethodName := ⟨RX6, "hasRoom", "(LPlaceNet$Prefix;II)Z"⟩
abbrev cX6_keep : ByteArray := prog_8_method_4_code
def yX6_keep : MethodName := ⟨RX6, "keep", "(LPlaceNet$Entry;I)V"⟩
abbrev cX6_best : ByteArray := prog_8_method_5_code
def yX6_best : MethodName := ⟨RX6, "best", "(II)LPlaceNet$Entry;"⟩
abbrev cX6_hasOtherRound : ByteArray := prog_8_method_6_code
def yX6_hasOtherRound : MethodName := ⟨RX6, "hasOtherRound", "(IILPlaceNet$Entry;I)Z"⟩
abbrev cX6_countEntries : ByteArray := prog_8_method_7_code
def yX6_countEntries : MethodName := ⟨RX6, "countEntries", "(I)I"⟩
abbrev cX6_isLive : ByteArray := prog_8_method_8_code
def yX6_isLive : MethodName := ⟨RX6, "isLive", "(II)Z"⟩
abbrev cX6_slotFor : ByteArray := prog_8_method_9_code
def yX6_slotFor : MethodName := ⟨RX6, "slotFor", "(LPlaceNet$Prefix;I)I"⟩
def RX7 : String := "PlaceNet$Site"
def TX7 : u_T := fun k => match k with
  | 0 => ("PlaceNet$Site", "place", "I", false)
  | 1 => ("PlaceNet$Site", "lastNonce", "I", false)
  | 2 => ("PlaceNet$Site", "prefixes", "[LPlaceNet$Prefix;", true)
  | 3 => ("PlaceNet$Site", "prefixCount", "I", false)
  | _ => ("PlaceNet$Site", "notes", "LPlaceNet$Notes;", true)
def tyX7 : Nat → FieldType := fun k => match k with
  | 0 => .int
  | 1 => .int
  | 2 => .array (.object "PlaceNet$Prefix")
  | 3 => .int
  | _ => .object "PlaceNet$Notes"
theorem nmX7 : ∀ a, a < 5 → ∀ b, b < 5 → a ≠ b → (TX7 a).2.1 ≠ (TX7 b).2.1 := by decide +kernel
theorem tyX7_ok : ∀ k, k < 5 → parseFieldDescriptor (TX7 k).2.2.1 = some (tyX7 k) := by decide +kernel
abbrev cX7_init : ByteArray := prog_9_method_1_code
def yX7_init : MethodName := ⟨RX7, "<init>", "(I)V"⟩
abbrev cX7_isFull : ByteArray := prog_9_method_2_code
def yX7_isFull : MethodName := ⟨RX7, "isFull", "()Z"⟩
abbrev cX7_add : ByteArray := prog_9_method_3_code
def yX7_add : MethodName := ⟨RX7, "add", "(LPlaceNet$Prefix;)I"⟩
abbrev cX7_holds : ByteArray := prog_9_method_4_code
def yX7_holds : MethodName := ⟨RX7, "holds", "(LPlaceNet$Prefix;)Z"⟩
abbrev cX7_hasEndpoint : ByteArray := prog_9_method_5_code
def yX7_hasEndpoint : MethodName := ⟨RX7, "hasEndpoint", "(I)Z"⟩
def RX8 : String := "PlaceNet$Tree"
def TX8 : u_T := fun k => match k with
  | _ => ("PlaceNet$Tree", "servers", "[LPlaceNet$Server;", true)
def tyX8 : Nat → FieldType := fun k => match k with
  | _ => .array (.object "PlaceNet$Server")
theorem nmX8 : ∀ a, a < 1 → ∀ b, b < 1 → a ≠ b → (TX8 a).2.1 ≠ (TX8 b).2.1 := by decide +kernel
theorem tyX8_ok : ∀ k, k < 1 → parseFieldDescriptor (TX8 k).2.2.1 = some (tyX8 k) := by decide +kernel
abbrev cX8_init : ByteArray := prog_10_method_1_code
def yX8_init : MethodName := ⟨RX8, "<init>", "()V"⟩
abbrev cX8_at : ByteArray := prog_10_method_2_code
def yX8_at : MethodName := ⟨RX8, "at", "(I)LPlaceNet$Server;"⟩
abbrev cX8_plant : ByteArray := prog_10_method_3_code
def yX8_plant : MethodName := ⟨RX8, "plant", "(LPlaceNet$Server;)V"⟩
abbrev cX8_owns : ByteArray := prog_10_method_4_code
def yX8_owns : MethodName := ⟨RX8, "owns", "(LPlaceNet$Server;LPlaceNet$Prefix;)Z"⟩
abbrev cX8_ownerOf : ByteArray := prog_10_method_5_code
def yX8_ownerOf : MethodName := ⟨RX8, "ownerOf", "(LPlaceNet$Prefix;)LPlaceNet$Server;"⟩
abbrev cX8_childWith : ByteArray := prog_10_method_6_code
def yX8_childWith : MethodName := ⟨RX8, "childWith", "(LPlaceNet$Server;I)LPlaceNet$Server;"⟩
abbrev cX8_piece : ByteArray := prog_10_method_7_code
def yX8_piece : MethodName := ⟨RX8, "piece", "(LPlaceNet$Server;LPlaceNet$Entry;II)LPlaceNet$Prefix;"⟩
abbrev cX8_longestEntry : ByteArray := prog_10_method_8_code
def yX8_longestEntry : MethodName := ⟨RX8, "longestEntry", "(II)LPlaceNet$Entry;"⟩
abbrev cX8_countEntries : ByteArray := prog_10_method_9_code
def yX8_countEntries : MethodName := ⟨RX8, "countEntries", "(I)I"⟩
abbrev cX8_isChild : ByteArray := prog_10_method_10_code
def yX8_isChild : MethodName := ⟨RX8, "isChild", "(ILPlaceNet$Server;)Z"⟩
abbrev cX8_hasChildRound : ByteArray := prog_10_method_11_code
def yX8_hasChildRound : MethodName := ⟨RX8, "hasChildRound", "(LPlaceNet$Server;II)Z"⟩
def RX9 : String := "PlaceNet"
def TX9 : u_T := fun k => match k with
  | 0 => ("PlaceNet", "tree", "LPlaceNet$Tree;", true)
  | 1 => ("PlaceNet", "sites", "[LPlaceNet$Site;", true)
  | 2 => ("PlaceNet", "leaver", "[I", true)
  | 3 => ("PlaceNet", "leftAt", "[I", true)
  | 4 => ("PlaceNet", "row", "LPlaceNet$Row;", true)
  | 5 => ("PlaceNet", "hand", "[I", true)
  | 6 => ("PlaceNet", "draft", "[I", true)
  | 7 => ("PlaceNet", "packets", "[LPlaceNet$Packet;", true)
  | 8 => ("PlaceNet", "packetCount", "I", false)
  | 9 => ("PlaceNet", "time", "I", false)
  | 10 => ("PlaceNet", "drawn", "I", false)
  | 11 => ("PlaceNet", "refused", "I", false)
  | 12 => ("PlaceNet", "ignored", "I", false)
  | _ => ("PlaceNet", "solicits", "I", false)
def tyX9 : Nat → FieldType := fun k => match k with
  | 0 => .object "PlaceNet$Tree"
  | 1 => .array (.object "PlaceNet$Site")
  | 2 => .array .int
  | 3 => .array .int
  | 4 => .object "PlaceNet$Row"
  | 5 => .array .int
  | 6 => .array .int
  | 7 => .array (.object "PlaceNet$Packet")
  | 8 => .int
  | 9 => .int
  | 10 => .int
  | 11 => .int
  | 12 => .int
  | _ => .int
theorem nmX9 : ∀ a, a < 14 → ∀ b, b < 14 → a ≠ b → (TX9 a).2.1 ≠ (TX9 b).2.1 := by decide +kernel
theorem tyX9_ok : ∀ k, k < 14 → parseFieldDescriptor (TX9 k).2.2.1 = some (tyX9 k) := by decide +kernel
abbrev cX9_init : ByteArray := prog_1_method_1_code
def yX9_init : MethodName := ⟨RX9, "<init>", "()V"⟩
abbrev cX9_delegate : ByteArray := prog_1_method_2_code
def yX9_delegate : MethodName := ⟨RX9, "delegate", "(IIII)V"⟩
abbrev cX9_site : ByteArray := prog_1_method_3_code
def yX9_site : MethodName := ⟨RX9, "site", "(II)V"⟩
abbrev cX9_prefix : ByteArray := prog_1_method_4_code
def yX9_prefix : MethodName := ⟨RX9, "prefix", "(III)I"⟩
abbrev cX9_move : ByteArray := prog_1_method_5_code
def yX9_move : MethodName := ⟨RX9, "move", "(II)V"⟩
abbrev cX9_register : ByteArray := prog_1_method_6_code
def yX9_register : MethodName := ⟨RX9, "register", "(I)I"⟩
abbrev cX9_send : ByteArray := prog_1_method_7_code
def yX9_send : MethodName := ⟨RX9, "send", "(II)I"⟩
abbrev cX9_carry : ByteArray := prog_1_method_8_code
def yX9_carry : MethodName := ⟨RX9, "carry", "(I)V"⟩
abbrev cX9_repeat : ByteArray := prog_1_method_9_code
def yX9_repeat : MethodName := ⟨RX9, "repeat", "(I)V"⟩
abbrev cX9_drop : ByteArray := prog_1_method_10_code
def yX9_drop : MethodName := ⟨RX9, "drop", "(I)V"⟩
abbrev cX9_forge : ByteArray := prog_1_method_11_code
def yX9_forge : MethodName := ⟨RX9, "forge", "(III)V"⟩
abbrev cX9_message : ByteArray := prog_1_method_12_code
def yX9_message : MethodName := ⟨RX9, "message", "(II)I"⟩
abbrev cX9_run : ByteArray := prog_1_method_13_code
def yX9_run : MethodName := ⟨RX9, "run", "(I)I"⟩
abbrev cX9_pass : ByteArray := prog_1_method_14_code
def yX9_pass : MethodName := ⟨RX9, "pass", "(I)V"⟩
abbrev cX9_packet : ByteArray := prog_1_method_15_code
def yX9_packet : MethodName := ⟨RX9, "packet", "(II)I"⟩
abbrev cX9_note : ByteArray := prog_1_method_16_code
def yX9_note : MethodName := ⟨RX9, "note", "(III)I"⟩
abbrev cX9_truth : ByteArray := prog_1_method_17_code
def yX9_truth : MethodName := ⟨RX9, "truth", "(I)I"⟩
abbrev cX9_count : ByteArray := prog_1_method_18_code
def yX9_count : MethodName := ⟨RX9, "count", "(I)I"⟩
abbrev cX9_isPlace : ByteArray := prog_1_method_19_code
def yX9_isPlace : MethodName := ⟨RX9, "isPlace", "(I)Z"⟩
abbrev cX9_siteAt : ByteArray := prog_1_method_20_code
def yX9_siteAt : MethodName := ⟨RX9, "siteAt", "(I)LPlaceNet$Site;"⟩
abbrev cX9_packetAt : ByteArray := prog_1_method_21_code
def yX9_packetAt : MethodName := ⟨RX9, "packetAt", "(I)LPlaceNet$Packet;"⟩
abbrev cX9_hostOf : ByteArray := prog_1_method_22_code
def yX9_hostOf : MethodName := ⟨RX9, "hostOf", "(I)I"⟩
abbrev cX9_isHeld : ByteArray := prog_1_method_23_code
def yX9_isHeld : MethodName := ⟨RX9, "isHeld", "(LPlaceNet$Prefix;)Z"⟩
abbrev cX9_countNotes : ByteArray := prog_1_method_24_code
def yX9_countNotes : MethodName := ⟨RX9, "countNotes", "()I"⟩
abbrev cX9_draw : ByteArray := prog_1_method_25_code
def yX9_draw : MethodName := ⟨RX9, "draw", "()I"⟩
abbrev cX9_tag : ByteArray := prog_1_method_26_code
def yX9_tag : MethodName := ⟨RX9, "tag", "(ILPlaceNet$Prefix;II)I"⟩
abbrev cX9_mix : ByteArray := prog_1_method_27_code
def yX9_mix : MethodName := ⟨RX9, "mix", "(II)I"⟩
abbrev cX9_postShort : ByteArray := prog_1_method_28_code
def yX9_postShort : MethodName := ⟨RX9, "postShort", "(IIIII)V"⟩
abbrev cX9_postRegister : ByteArray := prog_1_method_29_code
def yX9_postRegister : MethodName := ⟨RX9, "postRegister", "(IILPlaceNet$Prefix;II)V"⟩
abbrev cX9_postReply : ByteArray := prog_1_method_30_code
def yX9_postReply : MethodName := ⟨RX9, "postReply", "(IIILPlaceNet$Prefix;II)V"⟩
abbrev cX9_postRequest : ByteArray := prog_1_method_31_code
def yX9_postRequest : MethodName := ⟨RX9, "postRequest", "(ILPlaceNet$Packet;)V"⟩
abbrev cX9_postSolicit : ByteArray := prog_1_method_32_code
def yX9_postSolicit : MethodName := ⟨RX9, "postSolicit", "(III)V"⟩
abbrev cX9_start : ByteArray := prog_1_method_33_code
def yX9_start : MethodName := ⟨RX9, "start", "(LPlaceNet$Packet;LPlaceNet$Site;)V"⟩
abbrev cX9_follow : ByteArray := prog_1_method_34_code
def yX9_follow : MethodName := ⟨RX9, "follow", "(LPlaceNet$Note;LPlaceNet$Packet;)V"⟩
abbrev cX9_bring : ByteArray := prog_1_method_35_code
def yX9_bring : MethodName := ⟨RX9, "bring", "(I)V"⟩
abbrev cX9_takeRegister : ByteArray := prog_1_method_36_code
def yX9_takeRegister : MethodName := ⟨RX9, "takeRegister", "(LPlaceNet$Server;)V"⟩
abbrev cX9_takeRequest : ByteArray := prog_1_method_37_code
def yX9_takeRequest : MethodName := ⟨RX9, "takeRequest", "(LPlaceNet$Server;)V"⟩
abbrev cX9_takeReply : ByteArray := prog_1_method_38_code
def yX9_takeReply : MethodName := ⟨RX9, "takeReply", "(I)V"⟩
abbrev cX9_waiting : ByteArray := prog_1_method_39_code
def yX9_waiting : MethodName := ⟨RX9, "waiting", "(II)LPlaceNet$Packet;"⟩
abbrev cX9_isValue : ByteArray := prog_1_method_40_code
def yX9_isValue : MethodName := ⟨RX9, "isValue", "(II)Z"⟩
abbrev cX9_refer : ByteArray := prog_1_method_41_code
def yX9_refer : MethodName := ⟨RX9, "refer", "(LPlaceNet$Packet;I)V"⟩
abbrev cX9_takeData : ByteArray := prog_1_method_42_code
def yX9_takeData : MethodName := ⟨RX9, "takeData", "(I)V"⟩
abbrev cX9_passOn : ByteArray := prog_1_method_43_code
def yX9_passOn : MethodName := ⟨RX9, "passOn", "(LPlaceNet$Packet;I)V"⟩
abbrev cX9_takeSolicit : ByteArray := prog_1_method_44_code
def yX9_takeSolicit : MethodName := ⟨RX9, "takeSolicit", "(LPlaceNet$Site;)V"⟩
def RX10 : String := "PlaceNetModel"
def TX10 : u_T := fun k => match k with
  | 0 => ("PlaceNetModel", "code", "I", false)
  | 1 => ("PlaceNetModel", "time", "I", false)
  | 2 => ("PlaceNetModel", "drawn", "I", false)
  | 3 => ("PlaceNetModel", "isServer", "[Z", true)
  | 4 => ("PlaceNetModel", "partBits", "[I", true)
  | 5 => ("PlaceNetModel", "partLength", "[I", true)
  | 6 => ("PlaceNetModel", "parent", "[I", true)
  | 7 => ("PlaceNetModel", "entryBits", "[I", true)
  | 8 => ("PlaceNetModel", "entryLength", "[I", true)
  | 9 => ("PlaceNetModel", "entrySite", "[I", true)
  | 10 => ("PlaceNetModel", "entryPlace", "[I", true)
  | 11 => ("PlaceNetModel", "entryVersion", "[I", true)
  | 12 => ("PlaceNetModel", "entryEnd", "[I", true)
  | 13 => ("PlaceNetModel", "highest", "[J", true)
  | 14 => ("PlaceNetModel", "placeOf", "[I", true)
  | 15 => ("PlaceNetModel", "prefixes", "[I", true)
  | 16 => ("PlaceNetModel", "prefixBits", "[I", true)
  | 17 => ("PlaceNetModel", "prefixLength", "[I", true)
  | 18 => ("PlaceNetModel", "nonces", "[I", true)
  | 19 => ("PlaceNetModel", "noteBits", "[I", true)
  | 20 => ("PlaceNetModel", "noteLength", "[I", true)
  | 21 => ("PlaceNetModel", "notePlace", "[I", true)
  | 22 => ("PlaceNetModel", "noteVersion", "[I", true)
  | 23 => ("PlaceNetModel", "noteEnd", "[I", true)
  | 24 => ("PlaceNetModel", "noteMade", "[I", true)
  | 25 => ("PlaceNetModel", "made", "I", false)
  | 26 => ("PlaceNetModel", "wentSite", "[I", true)
  | 27 => ("PlaceNetModel", "wentEnd", "[I", true)
  | 28 => ("PlaceNetModel", "packets", "I", false)
  | 29 => ("PlaceNetModel", "packetFrom", "[I", true)
  | 30 => ("PlaceNetModel", "packetTo", "[I", true)
  | 31 => ("PlaceNetModel", "packetState", "[I", true)
  | 32 => ("PlaceNetModel", "packetNonce", "[I", true)
  | 33 => ("PlaceNetModel", "packetSite", "[I", true)
  | 34 => ("PlaceNetModel", "packetSteps", "[I", true)
  | 35 => ("PlaceNetModel", "packetTimes", "[I", true)
  | 36 => ("PlaceNetModel", "messages", "I", false)
  | 37 => ("PlaceNetModel", "row", "[I", true)
  | 38 => ("PlaceNetModel", "at", "[I", true)
  | 39 => ("PlaceNetModel", "refused", "I", false)
  | 40 => ("PlaceNetModel", "ignored", "I", false)
  | 41 => ("PlaceNetModel", "solicits", "I", false)
  | _ => ("PlaceNetModel", "lost", "I", false)
def tyX10 : Nat → FieldType := fun k => match k with
  | 0 => .int
  | 1 => .int
  | 2 => .int
  | 3 => .array .boolean
  | 4 => .array .int
  | 5 => .array .int
  | 6 => .array .int
  | 7 => .array .int
  | 8 => .array .int
  | 9 => .array .int
  | 10 => .array .int
  | 11 => .array .int
  | 12 => .array .int
  | 13 => .array .long
  | 14 => .array .int
  | 15 => .array .int
  | 16 => .array .int
  | 17 => .array .int
  | 18 => .array .int
  | 19 => .array .int
  | 20 => .array .int
  | 21 => .array .int
  | 22 => .array .int
  | 23 => .array .int
  | 24 => .array .int
  | 25 => .int
  | 26 => .array .int
  | 27 => .array .int
  | 28 => .int
  | 29 => .array .int
  | 30 => .array .int
  | 31 => .array .int
  | 32 => .array .int
  | 33 => .array .int
  | 34 => .array .int
  | 35 => .array .int
  | 36 => .int
  | 37 => .array .int
  | 38 => .array .int
  | 39 => .int
  | 40 => .int
  | 41 => .int
  | _ => .int
theorem nmX10 : ∀ a, a < 43 → ∀ b, b < 43 → a ≠ b → (TX10 a).2.1 ≠ (TX10 b).2.1 := by decide +kernel
theorem tyX10_ok : ∀ k, k < 43 → parseFieldDescriptor (TX10 k).2.2.1 = some (tyX10 k) := by decide +kernel
abbrev cX10_init : ByteArray := prog_12_method_1_code
def yX10_init : MethodName := ⟨RX10, "<init>", "()V"⟩
abbrev cX10_thrown : ByteArray := prog_12_method_2_code
def yX10_thrown : MethodName := ⟨RX10, "thrown", "()I"⟩
abbrev cX10_in : ByteArray := prog_12_method_3_code
def yX10_in : MethodName := ⟨RX10, "in", "(III)Z"⟩
abbrev cX10_begin : ByteArray := prog_12_method_4_code
def yX10_begin : MethodName := ⟨RX10, "begin", "(III)Z"⟩
abbrev cX10_isPrefix : ByteArray := prog_12_method_5_code
def yX10_isPrefix : MethodName := ⟨RX10, "isPrefix", "(II)Z"⟩
abbrev cX10_holds : ByteArray := prog_12_method_6_code
def yX10_holds : MethodName := ⟨RX10, "holds", "(IIII)Z"⟩
abbrev cX10_isServerAt : ByteArray := prog_12_method_7_code
def yX10_isServerAt : MethodName := ⟨RX10, "isServerAt", "(I)Z"⟩
abbrev cX10_isSite : ByteArray := prog_12_method_8_code
def yX10_isSite : MethodName := ⟨RX10, "isSite", "(I)Z"⟩
abbrev cX10_owner : ByteArray := prog_12_method_9_code
def yX10_owner : MethodName := ⟨RX10, "owner", "(II)I"⟩
abbrev cX10_delegate : ByteArray := prog_12_method_10_code
def yX10_delegate : MethodName := ⟨RX10, "delegate", "(IIII)V"⟩
abbrev cX10_siteAt : ByteArray := prog_12_method_11_code
def yX10_siteAt : MethodName := ⟨RX10, "siteAt", "(I)I"⟩
abbrev cX10_site : ByteArray := prog_12_method_12_code
def yX10_site : MethodName := ⟨RX10, "site", "(II)V"⟩
abbrev cX10_prefix : ByteArray := prog_12_method_13_code
def yX10_prefix : MethodName := ⟨RX10, "prefix", "(III)I"⟩
abbrev cX10_move : ByteArray := prog_12_method_14_code
def yX10_move : MethodName := ⟨RX10, "move", "(II)V"⟩
abbrev cX10_post : ByteArray := prog_12_method_15_code
def yX10_post : MethodName := ⟨RX10, "post", "(IIIIIII)V"⟩
abbrev cX10_last : ByteArray := prog_12_method_16_code
def yX10_last : MethodName := ⟨RX10, "last", "(II)V"⟩
abbrev cX10_mix : ByteArray := prog_12_method_17_code
def yX10_mix : MethodName := ⟨RX10, "mix", "(II)I"⟩
abbrev cX10_tag : ByteArray := prog_12_method_18_code
def yX10_tag : MethodName := ⟨RX10, "tag", "(IIIII)I"⟩
abbrev cX10_register : ByteArray := prog_12_method_19_code
def yX10_register : MethodName := ⟨RX10, "register", "(I)I"⟩
abbrev cX10_take : ByteArray := prog_12_method_20_code
def yX10_take : MethodName := ⟨RX10, "take", "(I)V"⟩
abbrev cX10_isMessage : ByteArray := prog_12_method_21_code
def yX10_isMessage : MethodName := ⟨RX10, "isMessage", "(I)Z"⟩
abbrev cX10_carry : ByteArray := prog_12_method_22_code
def yX10_carry : MethodName := ⟨RX10, "carry", "(I)V"⟩
abbrev cX10_repeat : ByteArray := prog_12_method_23_code
def yX10_repeat : MethodName := ⟨RX10, "repeat", "(I)V"⟩
abbrev cX10_drop : ByteArray := prog_12_method_24_code
def yX10_drop : MethodName := ⟨RX10, "drop", "(I)V"⟩
abbrev cX10_forge : ByteArray := prog_12_method_25_code
def yX10_forge : MethodName := ⟨RX10, "forge", "(III)V"⟩
abbrev cX10_message : ByteArray := prog_12_method_26_code
def yX10_message : MethodName := ⟨RX10, "message", "(II)I"⟩
abbrev cX10_run : ByteArray := prog_12_method_27_code
def yX10_run : MethodName := ⟨RX10, "run", "(I)I"⟩
abbrev cX10_pass : ByteArray := prog_12_method_28_code
def yX10_pass : MethodName := ⟨RX10, "pass", "(I)V"⟩
abbrev cX10_arrive : ByteArray := prog_12_method_29_code
def yX10_arrive : MethodName := ⟨RX10, "arrive", "()V"⟩
abbrev cX10_entryFor : ByteArray := prog_12_method_30_code
def yX10_entryFor : MethodName := ⟨RX10, "entryFor", "(III)I"⟩
abbrev cX10_emptyEntry : ByteArray := prog_12_method_31_code
def yX10_emptyEntry : MethodName := ⟨RX10, "emptyEntry", "(I)I"⟩
abbrev cX10_registered : ByteArray := prog_12_method_32_code
def yX10_registered : MethodName := ⟨RX10, "registered", "()V"⟩
abbrev cX10_best : ByteArray := prog_12_method_33_code
def yX10_best : MethodName := ⟨RX10, "best", "(II)I"⟩
abbrev cX10_isCrowded : ByteArray := prog_12_method_34_code
def yX10_isCrowded : MethodName := ⟨RX10, "isCrowded", "(IIII)Z"⟩
abbrev cX10_cutTo : ByteArray := prog_12_method_35_code
def yX10_cutTo : MethodName := ⟨RX10, "cutTo", "(II)I"⟩
abbrev cX10_requested : ByteArray := prog_12_method_36_code
def yX10_requested : MethodName := ⟨RX10, "requested", "()V"⟩
abbrev cX10_noteFor : ByteArray := prog_12_method_37_code
def yX10_noteFor : MethodName := ⟨RX10, "noteFor", "(II)I"⟩
abbrev cX10_forget : ByteArray := prog_12_method_38_code
def yX10_forget : MethodName := ⟨RX10, "forget", "(III)V"⟩
abbrev cX10_makeNote : ByteArray := prog_12_method_39_code
def yX10_makeNote : MethodName := ⟨RX10, "makeNote", "(IIIII)V"⟩
abbrev cX10_draw : ByteArray := prog_12_method_40_code
def yX10_draw : MethodName := ⟨RX10, "draw", "()V"⟩
abbrev cX10_ask : ByteArray := prog_12_method_41_code
def yX10_ask : MethodName := ⟨RX10, "ask", "(II)V"⟩
abbrev cX10_follow : ByteArray := prog_12_method_42_code
def yX10_follow : MethodName := ⟨RX10, "follow", "(II)V"⟩
abbrev cX10_hasEndpoint : ByteArray := prog_12_method_43_code
def yX10_hasEndpoint : MethodName := ⟨RX10, "hasEndpoint", "(II)Z"⟩
abbrev cX10_deliver : ByteArray := prog_12_method_44_code
def yX10_deliver : MethodName := ⟨RX10, "deliver", "(II)V"⟩
abbrev cX10_send : ByteArray := prog_12_method_45_code
def yX10_send : MethodName := ⟨RX10, "send", "(II)I"⟩
abbrev cX10_replied : ByteArray := prog_12_method_46_code
def yX10_replied : MethodName := ⟨RX10, "replied", "()V"⟩
abbrev cX10_lose : ByteArray := prog_12_method_47_code
def yX10_lose : MethodName := ⟨RX10, "lose", "(I)V"⟩
abbrev cX10_came : ByteArray := prog_12_method_48_code
def yX10_came : MethodName := ⟨RX10, "came", "()V"⟩
abbrev cX10_packet : ByteArray := prog_12_method_49_code
def yX10_packet : MethodName := ⟨RX10, "packet", "(II)I"⟩
abbrev cX10_note : ByteArray := prog_12_method_50_code
def yX10_note : MethodName := ⟨RX10, "note", "(III)I"⟩
abbrev cX10_truth : ByteArray := prog_12_method_51_code
def yX10_truth : MethodName := ⟨RX10, "truth", "(I)I"⟩
abbrev cX10_count : ByteArray := prog_12_method_52_code
def yX10_count : MethodName := ⟨RX10, "count", "(I)I"⟩
def RL : String := "PlaceNetLaw"
abbrev cL_delegate : ByteArray := method_3_code
def yL_delegate : MethodName := ⟨RL, "delegate", "(LPlaceNet;IIII)I"⟩
abbrev cL_site : ByteArray := method_4_code
def yL_site : MethodName := ⟨RL, "site", "(LPlaceNet;II)I"⟩
abbrev cL_prefix : ByteArray := method_5_code
def yL_prefix : MethodName := ⟨RL, "prefix", "(LPlaceNet;III[J)I"⟩
abbrev cL_move : ByteArray := method_6_code
def yL_move : MethodName := ⟨RL, "move", "(LPlaceNet;II)I"⟩
abbrev cL_register : ByteArray := method_7_code
def yL_register : MethodName := ⟨RL, "register", "(LPlaceNet;I[J)I"⟩
abbrev cL_send : ByteArray := method_8_code
def yL_send : MethodName := ⟨RL, "send", "(LPlaceNet;II[J)I"⟩
abbrev cL_carry : ByteArray := method_9_code
def yL_carry : MethodName := ⟨RL, "carry", "(LPlaceNet;I)I"⟩
abbrev cL_repeat : ByteArray := method_10_code
def yL_repeat : MethodName := ⟨RL, "repeat", "(LPlaceNet;I)I"⟩
abbrev cL_drop : ByteArray := method_11_code
def yL_drop : MethodName := ⟨RL, "drop", "(LPlaceNet;I)I"⟩
abbrev cL_forge : ByteArray := method_12_code
def yL_forge : MethodName := ⟨RL, "forge", "(LPlaceNet;III)I"⟩
abbrev cL_message : ByteArray := method_13_code
def yL_message : MethodName := ⟨RL, "message", "(LPlaceNet;II[J)I"⟩
abbrev cL_run : ByteArray := method_14_code
def yL_run : MethodName := ⟨RL, "run", "(LPlaceNet;I[J)I"⟩
abbrev cL_pass : ByteArray := method_15_code
def yL_pass : MethodName := ⟨RL, "pass", "(LPlaceNet;I)I"⟩
abbrev cL_packet : ByteArray := method_16_code
def yL_packet : MethodName := ⟨RL, "packet", "(LPlaceNet;II[J)I"⟩
abbrev cL_note : ByteArray := method_17_code
def yL_note : MethodName := ⟨RL, "note", "(LPlaceNet;III[J)I"⟩
abbrev cL_law : ByteArray := code
def yL_law : MethodName := ⟨RL, "law", "([I)Z"⟩
abbrev classes : List vw_C := [(RX0, TX0, 5), (RX1, TX1, 4), (RX2, TX2, 2), (RX3, TX3, 8), (RX4, TX4, 2), (RX5, TX5, 4), (RX6, TX6, 5), (RX7, TX7, 5), (RX8, TX8, 1), (RX9, TX9, 14), (RX10, TX10, 43)]
/-- the kind of a field, by the tag of its class: 0 an int, 1 a reference, 2 a long -/
def h_kd (t k : Nat) : Nat := (match t with
  | 1 => ([1, 0, 0, 0, 0] : List Nat)
  | 2 => ([1, 0, 0, 0] : List Nat)
  | 3 => ([1, 0] : List Nat)
  | 4 => ([0, 0, 0, 0, 0, 0, 0, 0] : List Nat)
  | 5 => ([0, 0] : List Nat)
  | 6 => ([1, 0, 0, 0] : List Nat)
  | 7 => ([0, 0, 1, 1, 1] : List Nat)
  | 8 => ([0, 0, 1, 0, 1] : List Nat)
  | 9 => ([1] : List Nat)
  | 10 => ([1, 1, 1, 1, 1, 1, 1, 1, 0, 0, 0, 0, 0, 0] : List Nat)
  | 11 => ([0, 0, 0, 1, 1, 1, 1, 1, 1, 1, 1, 1, 1, 1, 1, 1, 1, 1, 1, 1, 1, 1, 1, 1, 1, 0, 1, 1, 0, 1, 1, 1, 1, 1, 1, 1, 0, 1, 1, 0, 0, 0, 0] : List Nat)
  | _ => ([] : List Nat)).getD k 0
def h_tys (dA : Nat → ClassId) : List (ClassId × FieldType) := [(dA 0, .int), (dA 1, .long), (dA 2, .boolean), (dA 3, .object RX0), (dA 4, .object RX1), (dA 5, .object RX3), (dA 6, .object RX4), (dA 7, .object RX6), (dA 8, .object RX7)]
def h_aos : List String := [RX0, RX1, RX3, RX4, RX6, RX7]
theorem h_ty0 {dA : Nat → ClassId} : (h_tys dA)[0]? = some (dA 0, .int) := rfl
theorem h_ty1 {dA : Nat → ClassId} : (h_tys dA)[1]? = some (dA 1, .long) := rfl
theorem h_ty2 {dA : Nat → ClassId} : (h_tys dA)[2]? = some (dA 2, .boolean) := rfl
end
section
/-! THE HEAP AS FUNCTIONS. A state σ of the part of the heap that the law makes: tag, length, ints, references, longs by address; number of cells, number of slots, the two bounds. -/
abbrev HS : Type := (Nat → Nat) × (Nat → Nat) × (Nat → Nat → Int32) × (Nat → Nat → Option Nat) × (Nat → Nat → Int64) × Nat × Nat × Nat × Nat
def h_tg (σ : HS) : Nat → Nat := σ.1
def h_ln (σ : HS) : Nat → Nat := σ.2.1
def h_iv (σ : HS) : Nat → Nat → Int32 := σ.2.2.1
def h_rv (σ : HS) : Nat → Nat → Option Nat := σ.2.2.2.1
def h_lv (σ : HS) : Nat → Nat → Int64 := σ.2.2.2.2.1
def h_sz (σ : HS) : Nat := σ.2.2.2.2.2.1
def h_sl (σ : HS) : Nat := σ.2.2.2.2.2.2.1
def h_cz (σ : HS) : Nat := σ.2.2.2.2.2.2.2.1
def h_ck (σ : HS) : Nat := σ.2.2.2.2.2.2.2.2
def h_up2 {α : Type} (f : Nat → Nat → α) (a k : Nat) (v : α) : Nat → Nat → α := fun b j => if b = a ∧ j = k then v else f b j
def h_upA {α : Type} (f : Nat → Nat → α) (a : Nat) (g : Nat → α) : Nat → Nat → α := fun b j => if b = a then g j else f b j
def h_setI (σ : HS) (a k : Nat) (v : Int32) : HS := (σ.1, σ.2.1, h_up2 σ.2.2.1 a k v, σ.2.2.2)
def h_setR (σ : HS) (a k : Nat) (v : Option Nat) : HS := (σ.1, σ.2.1, σ.2.2.1, h_up2 σ.2.2.2.1 a k v, σ.2.2.2.2)
def h_setL (σ : HS) (a k : Nat) (v : Int64) : HS := (σ.1, σ.2.1, σ.2.2.1, σ.2.2.2.1, h_up2 σ.2.2.2.2.1 a k v, σ.2.2.2.2.2)
def h_setA (σ : HS) (a : Nat) (g : Nat → Int32) : HS := (σ.1, σ.2.1, h_upA σ.2.2.1 a g, σ.2.2.2)
/-- a new cell: tag t, length n, k slots -/
def h_push (σ : HS) (t n k : Nat) : HS := (va_up σ.1 (h_sz σ) t, va_up σ.2.1 (h_sz σ) n, h_upA σ.2.2.1 (h_sz σ) (fun _ => 0), h_upA σ.2.2.2.1 (h_sz σ) (fun _ => none), h_upA σ.2.2.2.2.1 (h_sz σ) (fun _ => 0), h_sz σ + 1, h_sl σ + k, h_cz σ, h_ck σ)
def h_bump (σ : HS) (z k : Nat) : HS := (σ.1, σ.2.1, σ.2.2.1, σ.2.2.2.1, σ.2.2.2.2.1, z, k, σ.2.2.2.2.2.2.2)
-- reads, writes, allocation: none where the machine itself would throw (or the room is out)
def h_gI (σ : HS) (r : Option Nat) (t k : Nat) : Option Int32 := r.bind fun a => if h_tg σ a = t then some (h_iv σ a k) else none
def h_gR (σ : HS) (r : Option Nat) (t k : Nat) : Option (Option Nat) := r.bind fun a => if h_tg σ a = t then some (h_rv σ a k) else none
def h_gL (σ : HS) (r : Option Nat) (t k : Nat) : Option Int64 := r.bind fun a => if h_tg σ a = t then some (h_lv σ a k) else none
def h_pI (σ : HS) (r : Option Nat) (t k : Nat) (v : Int32) : Option HS := r.bind fun a => if h_tg σ a = t then some (h_setI σ a k v) else none
def h_pR (σ : HS) (r : Option Nat) (t k : Nat) (v : Option Nat) : Option HS := r.bind fun a => if h_tg σ a = t then some (h_setR σ a k v) else none
def h_pL (σ : HS) (r : Option Nat) (t k : Nat) (v : Int64) : Option HS := r.bind fun a => if h_tg σ a = t then some (h_setL σ a k v) else none
def h_ok (σ : HS) (a t : Nat) (i : Int32) : Bool := decide (h_tg σ a = t) && !(decide (i < 0) || decide (h_ln σ a ≤ i.toNatClampNeg))
def h_aI (σ : HS) (r : Option Nat) (t : Nat) (i : Int32) : Option Int32 := r.bind fun a => if h_ok σ a t i = true then some (h_iv σ a i.toNatClampNeg) else none
def h_aR (σ : HS) (r : Option Nat) (t : Nat) (i : Int32) : Option (Option Nat) := r.bind fun a => if h_ok σ a t i = true then some (h_rv σ a i.toNatClampNeg) else none
def h_aL (σ : HS) (r : Option Nat) (t : Nat) (i : Int32) : Option Int64 := r.bind fun a => if h_ok σ a t i = true then some (h_lv σ a i.toNatClampNeg) else none
def h_sI (σ : HS) (r : Option Nat) (t : Nat) (i : Int32) (v : Int32) : Option HS := r.bind fun a => if h_ok σ a t i = true then some (h_setI σ a i.toNatClampNeg v) else none
def h_sL (σ : HS) (r : Option Nat) (t : Nat) (i : Int32) (v : Int64) : Option HS := r.bind fun a => if h_ok σ a t i = true then some (h_setL σ a i.toNatClampNeg v) else none
/-- into an array of references to objects of the tag u -/
def h_fitR (σ : HS) (u : Nat) (v : Option Nat) : Bool := match v with
  | none => true
  | some b => decide (h_tg σ b = u)
def h_sR (σ : HS) (r : Option Nat) (t u : Nat) (i : Int32) (v : Option Nat) : Option HS := r.bind fun a => if (h_ok σ a t i && h_fitR σ u v) = true then some (h_setR σ a i.toNatClampNeg v) else none
def h_len (σ : HS) (r : Option Nat) (t : Nat) : Option Int32 := r.bind fun a => if h_tg σ a = t then some (Int32.ofNat (h_ln σ a)) else none
/-- a new object of n fields; a new array of n places -/
def h_mk (σ : HS) (t n : Nat) : Option (Option Nat × HS) := if h_sz σ + 1 ≤ h_cz σ ∧ h_sl σ + n ≤ h_ck σ then some (some (h_sz σ), h_push σ t 0 n) else none
def h_mkA (σ : HS) (t : Nat) (n : Int32) : Option (Option Nat × HS) := if ¬ n < 0 ∧ n.toNatClampNeg ≤ 60000000 ∧ h_sz σ + 1 ≤ h_cz σ ∧ h_sl σ + n.toNatClampNeg ≤ h_ck σ then some (some (h_sz σ), h_push σ t n.toNatClampNeg n.toNatClampNeg) else none
def h_cpI (σ : HS) (rs : Option Nat) (sp : Int32) (rd : Option Nat) (dp n : Int32) : Option HS := rs.bind fun a => rd.bind fun b =>
  if h_tg σ a = 100 ∧ h_tg σ b = 100 ∧ ¬ sp < 0 ∧ ¬ dp < 0 ∧ ¬ n < 0 ∧ sp.toNatClampNeg + n.toNatClampNeg ≤ h_ln σ a ∧ dp.toNatClampNeg + n.toNatClampNeg ≤ h_ln σ b then some (h_setA σ b (va_cpy (h_iv σ a) (h_iv σ b) sp.toNatClampNeg dp.toNatClampNeg n.toNatClampNeg)) else none
def h_bd {α β : Type} (o : Option (α × HS)) (k : α → HS → Option β) : Option β := match o with
  | none => none
  | some q => k q.1 q.2
def h_b1 {α β : Type} (o : Option α) (k : α → Option β) : Option β := match o with
  | none => none
  | some q => k q
theorem h_bd_some {α β : Type} {o : Option (α × HS)} {k : α → HS → Option β} {z : β} (h : h_bd o k = some z) : ∃ r σ', o = some (r, σ') ∧ k r σ' = some z := by
  cases o with
  | none => cases h
  | some q => exact ⟨q.1, q.2, rfl, h⟩
theorem h_b1_some {α β : Type} {o : Option α} {k : α → Option β} {z : β} (h : h_b1 o k = some z) : ∃ r, o = some r ∧ k r = some z := by
  cases o with
  | none => cases h
  | some q => exact ⟨q, rfl, h⟩
def h_hN : Nat := 1100
def h_ushr (x y : Int32) : Int32 := (x.toUInt32 >>> (y.toUInt32 &&& Int32.toUInt32 31)).toInt32
end
section
/-! WHAT A STATE σ SAYS OF THE HEAP; the walk over such states -/
def h_val (kd : Nat) (σ : HS) (a k : Nat) : Value := if kd = 0 then .int (h_iv σ a k) else if kd = 1 then va_rf (h_rv σ a k) else .long (h_lv σ a k)
def h_ak (t : Nat) : Nat := if t = 100 ∨ t = 102 then 0 else if t = 101 then 2 else 1
def h_at (D : va_G) (dA : Nat → ClassId) (σ : HS) (a : Nat) (H : Heap) : Prop :=
  h_tg σ a ≠ 0 → (h_tg σ a < 100 → ∃ r : vw_C, classes[h_tg σ a - 1]? = some r ∧ t_OB a (D.1 (h_tg σ a - 1)) r.2.2 (D.2 (h_tg σ a - 1)) H (fun k => h_val (h_kd (h_tg σ a) k) σ a k)) ∧
    (100 ≤ h_tg σ a → H[a]? = some (arrV (dA (h_tg σ a - 100)) (h_ln σ a) (fun j => h_val (h_ak (h_tg σ a)) σ a j)))
def hG (D : va_G) (dA : Nat → ClassId) (bs : Nat) (σ : HS) (H : Heap) : Prop :=
  H.size = h_sz σ ∧ slotSum H = h_sl σ ∧ h_sz σ ≤ h_cz σ ∧ h_sl σ ≤ h_ck σ ∧ (∀ a, h_tg σ a ≠ 0 → bs ≤ a) ∧ ∀ a, h_at D dA σ a H
theorem hG_lt {D : va_G} {dA : Nat → ClassId} {bs : Nat} {σ : HS} {H : Heap} (h : hG D dA bs σ H) {a : Nat} (ha : h_tg σ a ≠ 0) : a < H.size := by
  have h1 := h.2.2.2.2.2 a ha
  by_cases hc : h_tg σ a < 100
  · obtain ⟨r, -, cell, h2, -⟩ := h1.1 hc
    exact (Array.getElem?_eq_some_iff.mp h2).1
  · exact (Array.getElem?_eq_some_iff.mp (h1.2 (by omega))).1
theorem h_slotSum_same {H H1 : Heap} {a : Nat} {c c1 : Cell} (hz : H1.size = H.size) (h0 : H[a]? = some c) (h1 : H1[a]? = some c1) (hs : c1.slots.size = c.slots.size) (ho : ∀ q, q ≠ a → H1[q]? = H[q]?) : slotSum H1 = slotSum H := by
  rw [slotSum_sum, slotSum_sum]
  congr 1
  apply List.ext_getElem?
  intro i
  rw [List.getElem?_map, List.getElem?_map, Array.getElem?_toList, Array.getElem?_toList]
  by_cases hi : i = a
  · subst hi
    rw [h0, h1]
    simp [hs]
  · rw [ho i hi]
theorem h_slotSum_push (H : Heap) (c : Cell) : slotSum (H.push c) = slotSum H + c.slots.size := by
  rw [slotSum_sum, slotSum_sum, Array.toList_push, List.map_append, List.sum_append]
  simp
/-- one cell has changed -/
theorem hG_set {D : va_G} {dA : Nat → ClassId} {bs : Nat} {σ σ' : HS} {H H1 : Heap} {a : Nat} {c c1 : Cell} (h : hG D dA bs σ H) (ht : h_tg σ' = h_tg σ) (hl : h_ln σ' = h_ln σ) (hz : h_sz σ' = h_sz σ) (hs : h_sl σ' = h_sl σ) (hcz : h_cz σ' = h_cz σ) (hck : h_ck σ' = h_ck σ)
    (hv : ∀ b, b ≠ a → ∀ kd k, h_val kd σ' b k = h_val kd σ b k) (e0 : H[a]? = some c) (e1 : H1[a]? = some c1) (es : c1.slots.size = c.slots.size) (z1 : H1.size = H.size) (o1 : ∀ q, q ≠ a → H1[q]? = H[q]?) (ha : h_at D dA σ' a H1) : hG D dA bs σ' H1 := by
  obtain ⟨g1, g2, g3, g4, g5, g6⟩ := h
  refine ⟨by rw [z1, hz]; exact g1, by rw [h_slotSum_same z1 e0 e1 es o1, hs]; exact g2, by rw [hz, hcz]; exact g3, by rw [hs, hck]; exact g4, fun b hb => g5 b (by rw [← ht]; exact hb), fun b => ?_⟩
  by_cases hb : b = a
  · subst hb; exact ha
  · intro hb0
    rw [ht] at hb0 ⊢
    obtain ⟨k1, k2⟩ := g6 b hb0
    refine ⟨fun hc => ?_, fun hc => ?_⟩
    · obtain ⟨r, r1, r2⟩ := k1 hc
      exact ⟨r, r1, (r2.kept (o1 b hb)).to (fun k _ => (hv b hb _ _).symm)⟩
    · rw [o1 b hb, k2 hc, hl]
      congr 2
      funext j
      exact (hv b hb _ _).symm
/-- one cell has come -/
theorem hG_push {D : va_G} {dA : Nat → ClassId} {bs t n k : Nat} {σ : HS} {H : Heap} {c : Cell} (h : hG D dA bs σ H) (hbs : bs ≤ H.size) (hk : c.slots.size = k) (hc1 : h_sz σ + 1 ≤ h_cz σ) (hc2 : h_sl σ + k ≤ h_ck σ) (ha : h_at D dA (h_push σ t n k) H.size (H.push c)) : hG D dA bs (h_push σ t n k) (H.push c) := by
  obtain ⟨g1, g2, g3, g4, g5, g6⟩ := h
  refine ⟨by rw [Array.size_push, g1]; rfl, by rw [h_slotSum_push, g2, hk]; rfl, hc1, hc2, fun b hb => ?_, fun b => ?_⟩
  · by_cases e : b = h_sz σ
    · rw [e, ← g1]; exact hbs
    · refine g5 b ?_
      have : h_tg (h_push σ t n k) b = h_tg σ b := va_up_ne _ _ e
      rw [← this]; exact hb
  · by_cases e : b = H.size
    · rw [e]; exact ha
    · have e' : b ≠ h_sz σ := by rw [← g1]; exact e
      have et : h_tg (h_push σ t n k) b = h_tg σ b := va_up_ne _ _ e'
      have el : h_ln (h_push σ t n k) b = h_ln σ b := va_up_ne _ _ e'
      have ev : ∀ kd j, h_val kd (h_push σ t n k) b j = h_val kd σ b j := by
        intro kd j
        simp [h_val, h_iv, h_rv, h_lv, h_push, h_upA, e']
      intro hb0
      rw [et] at hb0 ⊢
      obtain ⟨k1, k2⟩ := g6 b hb0
      have hlt : b < H.size := hG_lt ⟨g1, g2, g3, g4, g5, g6⟩ hb0
      have hq : (H.push c)[b]? = H[b]? := by rw [Array.getElem?_push, if_neg e]
      refine ⟨fun hc => ?_, fun hc => ?_⟩
      · obtain ⟨r, r1, r2⟩ := k1 hc
        exact ⟨r, r1, (r2.kept hq).to (fun k _ => (ev _ _).symm)⟩
      · rw [hq, k2 hc, el]
        congr 2
        funext j
        exact (ev _ _).symm
/-- bounds: only the two counts move (an exception has come) -/
theorem hG_bump {D : va_G} {dA : Nat → ClassId} {bs : Nat} {σ : HS} {H H1 : Heap} (h : hG D dA bs σ H) (hz : H1.size ≤ h_cz σ) (hs : slotSum H1 ≤ h_ck σ) (ho : ∀ q, q < H.size → H1[q]? = H[q]?) : hG D dA bs (h_bump σ H1.size (slotSum H1)) H1 := by
  refine ⟨rfl, rfl, hz, hs, h.2.2.2.2.1, fun b hb0 => ?_⟩
  have hlt : b < H.size := hG_lt h hb0
  obtain ⟨k1, k2⟩ := h.2.2.2.2.2 b hb0
  refine ⟨fun hc => ?_, fun hc => ?_⟩
  · obtain ⟨r, r1, r2⟩ := k1 hc
    exact ⟨r, r1, r2.kept (ho b hlt)⟩
  · rw [ho b hlt]; exact k2 hc
theorem h_rf_cat (r : Option Nat) : (va_rf r).category = 1 := by cases r <;> rfl
section HV
variable {p : Program} {l : Launch} {e : Env} {R : Room} {s : State} {m : MethodId} {args : Array Value} {below : List Frame} {meth : Method} {c : Code} {H : Heap} {locs : List Loc} {cells slots : Nat} {Q : State → Prop}
/-- the walk's counts may be taken from the heap itself -/
theorem W.tight {g : JFrame} (k : W p l e R s m args below meth c H locs (H.size - s.heap.size) (slotSum H - slotSum s.heap) Q g) : W p l e R s m args below meth c H locs cells slots Q g := by
  intro T hT X
  refine k T hT { X with same := ?_ }
  have h0 : s.slotsTrue = true := by
    have h := X.room
    simp only [State.hasRoom, Bool.and_eq_true] at h
    exact h.2
  have b0 : s.slotsUsed = slotSum s.heap := (State.slotsTrue_iff s).mp h0
  have b1 : T.slotsUsed = slotSum T.heap := (State.slotsTrue_iff T).mp X.book
  obtain ⟨a1, a2, a3, a4, a5, a6⟩ := X.same
  have a4' : T.slotsUsed = s.slotsUsed + ((T.heap.toList.drop s.heap.size).map (·.slots.size)).sum := a4
  refine ⟨a1, a2, ?_, a4, ?_, a6⟩
  · show T.heap.size ≤ _
    have a2' : s.heap.size ≤ T.heap.size := a2
    rw [hT] at a2' ⊢
    omega
  · show ((T.heap.toList.drop s.heap.size).map (·.slots.size)).sum ≤ _
    rw [← hT]
    omega
theorem h_sumge {T : State} (X : Stand p l e R s m args below meth c T locs cells slots) : slotSum s.heap ≤ slotSum T.heap := by
  have h0 : s.slotsTrue = true := by
    have h := X.room
    simp only [State.hasRoom, Bool.and_eq_true] at h
    exact h.2
  have b0 : s.slotsUsed = slotSum s.heap := (State.slotsTrue_iff s).mp h0
  have b1 : T.slotsUsed = slotSum T.heap := (State.slotsTrue_iff T).mp X.book
  have a4 : T.slotsUsed = s.slotsUsed + ((T.heap.toList.drop s.heap.size).map (·.slots.size)).sum := X.same.2.2.2.1
  omega
end HV
/-- locals of one word each -/
def h_c1 (l : List (Nat × Value)) : Prop := ∀ q ∈ l, q.2.category = 1
/-- the state of a walk: the heap by σ, nothing below bs written, the locals, the room -/
def h_I (R : Room) (s : State) (D : va_G) (dA : Nat → ClassId) (bs nL : Nat) (σ : HS) (lv : List (Nat × Value)) (H : Heap) (locs : List Loc) (ls : Array Slot) : Prop :=
  hG D dA bs σ H ∧ va_S (fun q => bs ≤ q) s.heap H locs ∧ (lv_has ls nL lv ∧ h_c1 lv) ∧ s.heap.size + R.cells = h_cz σ ∧ slotSum s.heap + R.slots = h_ck σ ∧ bs ≤ s.heap.size
def V (p : Program) (l : Launch) (e : Env) (R : Room) (s : State) (m : MethodId) (args : Array Value) (below : List Frame) (meth : Method) (c : Code) (D : va_G) (dA : Nat → ClassId) (bs nL : Nat) (Q : State → Prop) (σ : HS) (pc : Nat) (lv : List (Nat × Value)) (st : List Value) : Prop :=
  ∀ (H : Heap) (locs : List Loc) (ls : Array Slot), h_I R s D dA bs nL σ lv H locs ls → W p l e R s m args below meth c H locs (H.size - s.heap.size) (slotSum H - slotSum s.heap) Q (F0 m pc ls st)
/-- what the tables say of the classes and of the array classes -/
def h_K (D : va_G) (dA : Nat → ClassId) (U : State) : Prop := va_K D classes (h_tys dA) U ∧ ∀ Cn ∈ h_aos, va_AO Cn U
theorem h_K.moved {D : va_G} {dA : Nat → ClassId} {u U : State} (hvm : u.vm.Alike U.vm) (h : h_K D dA u) : h_K D dA U := ⟨va_K.moved hvm h.1, fun Cn hC => va_AO.moved hvm (h.2 Cn hC)⟩
/-- what a walk knows of its method -/
def h_C (p : Program) (m : MethodId) (c : Code) (cc : ByteArray) (nL : Nat) (s : State) (args : Array Value) (own : String) (D : va_G) (dA : Nat → ClassId) : Prop := CallFix p m c cc nL s args h_ws own ∧ h_K D dA s
/-- a class of the table, by its tag -/
def h_CL (t : Nat) (C : String) (T : u_T) (N : Nat) : Prop := 0 < t ∧ t < 100 ∧ classes[t - 1]? = some (C, T, N) ∧ (∀ w ∈ u_ws C T N, w ∈ h_ws) ∧ Cond.instantiable C N ∈ h_ws ∧ Cond.initialized C ∈ h_ws ∧
  ∃ ty : Nat → FieldType, (∀ k, k < N → parseFieldDescriptor (T k).2.2.1 = some (ty k)) ∧ (∀ a, a < N → ∀ b, b < N → a ≠ b → (T a).2.1 ≠ (T b).2.1) ∧
    ∀ k, k < N → (h_kd t k = 0 ∧ ty k = .int) ∨ (h_kd t k = 2 ∧ ty k = .long) ∨ (h_kd t k = 1 ∧ (ty k).isReference = true)
/-- a field of it, as a method of the class 'own' names it -/
def h_FL (own : String) (idx t k kd : Nat) : Prop := ∃ (C : String) (T : u_T) (N : Nat), h_CL t C T N ∧ k < N ∧ h_kd t k = kd ∧ Cond.fieldLink own idx (T k).1 (T k).2.1 (T k).2.2.1 ∈ h_ws
/-- .. that may be written anywhere; that a constructor writes -/
def h_FW (own : String) (idx t k kd : Nat) : Prop := ∃ (C : String) (T : u_T) (N : Nat), h_CL t C T N ∧ k < N ∧ h_kd t k = kd ∧ Cond.fieldLink own idx (T k).1 (T k).2.1 (T k).2.2.1 ∈ h_ws ∧ (T k).2.2.2 = false
def h_FF (own : String) (idx t k kd : Nat) : Prop := ∃ (C : String) (T : u_T) (N : Nat), h_CL t C T N ∧ k < N ∧ h_kd t k = kd ∧ Cond.fieldLink own idx (T k).1 (T k).2.1 (T k).2.2.1 ∈ h_ws ∧ (T k).2.2.2 = true ∧ (T k).1 = own
end
section
/-! ROWS OF THE WALK OVER STATES -/
section HR
variable {p : Program} {l : Launch} {e : Env} {R : Room} {s : State} {m : MethodId} {args : Array Value} {below : List Frame} {meth : Method} {c : Code} {D : va_G} {dA : Nat → ClassId} {bs nL : Nat} {Q : State → Prop} {cc : ByteArray} {own : String} {σ : HS} {pc : Nat} {lv lv' : List (Nat × Value)} {rest : List Value}
theorem V_iconst (C : h_C p m c cc nL s args own D dA) {n : Int} {v : Int32} (d : decode cc pc = .ok (.iconst n, 1)) (hv : Int32.ofInt n = v) (k : V p l e R s m args below meth c D dA bs nL Q σ (pc + 1) lv (.int v :: rest)) : V p l e R s m args below meth c D dA bs nL Q σ pc lv (rest) := fun H locs ls I => lv_iconst C.1.1 C.1.2.1 d hv (k H locs ls I)
theorem V_bipush (C : h_C p m c cc nL s args own D dA) {n : Int} {v : Int32} (d : decode cc pc = .ok (.bipush n, 2)) (hv : (Int8.ofInt n).toInt32 = v) (k : V p l e R s m args below meth c D dA bs nL Q σ (pc + 2) lv (.int v :: rest)) : V p l e R s m args below meth c D dA bs nL Q σ pc lv (rest) := fun H locs ls I => lv_bipush C.1.1 C.1.2.1 d hv (k H locs ls I)
theorem V_sipush (C : h_C p m c cc nL s args own D dA) {n : Int} {v : Int32} (d : decode cc pc = .ok (.sipush n, 3)) (hv : (Int16.ofInt n).toInt32 = v) (k : V p l e R s m args below meth c D dA bs nL Q σ (pc + 3) lv (.int v :: rest)) : V p l e R s m args below meth c D dA bs nL Q σ pc lv (rest) := fun H locs ls I => lv_sipush C.1.1 C.1.2.1 d hv (k H locs ls I)
theorem V_lconst (C : h_C p m c cc nL s args own D dA) {n : Fin 2} {v : Int64} (d : decode cc pc = .ok (.lconst n, 1)) (hv : Int64.ofNat (n : Nat) = v) (k : V p l e R s m args below meth c D dA bs nL Q σ (pc + 1) lv (.long v :: rest)) : V p l e R s m args below meth c D dA bs nL Q σ pc lv (rest) := fun H locs ls I => lv_lconst C.1.1 C.1.2.1 d hv (k H locs ls I)
theorem V_null (C : h_C p m c cc nL s args own D dA)  (d : decode cc pc = .ok (.aconst_null, 1))  (k : V p l e R s m args below meth c D dA bs nL Q σ (pc + 1) lv (va_rf none :: rest)) : V p l e R s m args below meth c D dA bs nL Q σ pc lv (rest) := fun H locs ls I => lv_null C.1.1 C.1.2.1 d (k H locs ls I)
theorem V_iload_n (C : h_C p m c cc nL s args own D dA) {k0 : Fin 4} {i : Nat} {x : Int32} (j : Nat) (d : decode cc pc = .ok (.iload_n k0, 1)) (hi : (k0 : Nat) = i) (hj : lv[j]? = some (i, .int x)) (k : V p l e R s m args below meth c D dA bs nL Q σ (pc + 1) lv (.int x :: rest)) : V p l e R s m args below meth c D dA bs nL Q σ pc lv (rest) := fun H locs ls I => lv_iload_n C.1.1 C.1.2.1 d hi (lv_at I.2.2.1.1 j hj) (k H locs ls I)
theorem V_iload (C : h_C p m c cc nL s args own D dA) {i : Nat} {x : Int32} (j : Nat) (d : decode cc pc = .ok (.iload i, 2)) (hj : lv[j]? = some (i, .int x)) (k : V p l e R s m args below meth c D dA bs nL Q σ (pc + 2) lv (.int x :: rest)) : V p l e R s m args below meth c D dA bs nL Q σ pc lv (rest) := fun H locs ls I => lv_iload C.1.1 C.1.2.1 d (lv_at I.2.2.1.1 j hj) (k H locs ls I)
theorem V_aload_n (C : h_C p m c cc nL s args own D dA) {k0 : Fin 4} {i : Nat} {x : Option Nat} (j : Nat) (d : decode cc pc = .ok (.aload_n k0, 1)) (hi : (k0 : Nat) = i) (hj : lv[j]? = some (i, va_rf x)) (k : V p l e R s m args below meth c D dA bs nL Q σ (pc + 1) lv (va_rf x :: rest)) : V p l e R s m args below meth c D dA bs nL Q σ pc lv rest := fun H locs ls I => by
  cases x with
  | none => exact lv_aload_nN C.1.1 C.1.2.1 d hi (lv_at I.2.2.1.1 j hj) (k H locs ls I)
  | some a => exact lv_aload_n C.1.1 C.1.2.1 d hi (lv_at I.2.2.1.1 j hj) (k H locs ls I)
theorem V_aload (C : h_C p m c cc nL s args own D dA) {i : Nat} {x : Option Nat} (j : Nat) (d : decode cc pc = .ok (.aload i, 2)) (hj : lv[j]? = some (i, va_rf x)) (k : V p l e R s m args below meth c D dA bs nL Q σ (pc + 2) lv (va_rf x :: rest)) : V p l e R s m args below meth c D dA bs nL Q σ pc lv rest := fun H locs ls I => by
  cases x with
  | none => exact lv_aloadN C.1.1 C.1.2.1 d (lv_at I.2.2.1.1 j hj) (k H locs ls I)
  | some a => exact lv_aload C.1.1 C.1.2.1 d (lv_at I.2.2.1.1 j hj) (k H locs ls I)
theorem h_filt {l : List (Nat × Value)} {i : Nat} (h : h_c1 l) : l.filter (fun q => !(q.1 == i) && !(q.1 + 1 == i && q.2.category == 2)) = l.filter (fun q => !(q.1 == i)) := by
  apply List.filter_congr
  intro q hq
  rw [h q hq]
  simp
theorem h_c1_put {l l' : List (Nat × Value)} {i : Nat} {v : Value} (h : h_c1 l) (hv : v.category = 1) (e : (i, v) :: l.filter (fun q => !(q.1 == i)) = l') : h_c1 l' := by
  intro q hq
  rw [← e] at hq
  rcases List.mem_cons.mp hq with h1 | h1
  · rw [h1]; exact hv
  · exact h q (List.mem_filter.mp h1).1
theorem V_istore_n (C : h_C p m c cc nL s args own D dA) {k0 : Fin 4} {i : Nat} {x : Int32} (d : decode cc pc = .ok (.istore_n k0, 1)) (hi : (k0 : Nat) = i) (hn : i < nL) (hl : (i, Value.int x) :: lv.filter (fun q => !(q.1 == i)) = lv') (k : V p l e R s m args below meth c D dA bs nL Q σ (pc + 1) lv' rest) : V p l e R s m args below meth c D dA bs nL Q σ pc lv (.int x :: rest) := fun H locs ls I => lv_istore_n C.1.1 C.1.2.1 d hi I.2.2.1.1 hn ((congrArg _ (h_filt I.2.2.1.2)).trans hl) (fun ls1 hl1 => k H locs ls1 ⟨I.1, I.2.1, ⟨hl1, h_c1_put I.2.2.1.2 rfl hl⟩, I.2.2.2⟩)
theorem V_istore (C : h_C p m c cc nL s args own D dA) {i : Nat} {x : Int32} (d : decode cc pc = .ok (.istore i, 2)) (hn : i < nL) (hl : (i, Value.int x) :: lv.filter (fun q => !(q.1 == i)) = lv') (k : V p l e R s m args below meth c D dA bs nL Q σ (pc + 2) lv' rest) : V p l e R s m args below meth c D dA bs nL Q σ pc lv (.int x :: rest) := fun H locs ls I => lv_istore C.1.1 C.1.2.1 d I.2.2.1.1 hn ((congrArg _ (h_filt I.2.2.1.2)).trans hl) (fun ls1 hl1 => k H locs ls1 ⟨I.1, I.2.1, ⟨hl1, h_c1_put I.2.2.1.2 rfl hl⟩, I.2.2.2⟩)
theorem V_astore_n (C : h_C p m c cc nL s args own D dA) {k0 : Fin 4} {i : Nat} {x : Option Nat} (d : decode cc pc = .ok (.astore_n k0, 1)) (hi : (k0 : Nat) = i) (hn : i < nL) (hl : (i, va_rf x) :: lv.filter (fun q => !(q.1 == i)) = lv') (k : V p l e R s m args below meth c D dA bs nL Q σ (pc + 1) lv' rest) : V p l e R s m args below meth c D dA bs nL Q σ pc lv (va_rf x :: rest) := fun H locs ls I => by
  cases x with
  | none => exact lv_astore_nN C.1.1 C.1.2.1 d hi I.2.2.1.1 hn ((congrArg _ (h_filt I.2.2.1.2)).trans hl) (fun ls1 hl1 => k H locs ls1 ⟨I.1, I.2.1, ⟨hl1, h_c1_put I.2.2.1.2 rfl hl⟩, I.2.2.2⟩)
  | some a => exact lv_astore_n C.1.1 C.1.2.1 d hi I.2.2.1.1 hn ((congrArg _ (h_filt I.2.2.1.2)).trans hl) (fun ls1 hl1 => k H locs ls1 ⟨I.1, I.2.1, ⟨hl1, h_c1_put I.2.2.1.2 rfl hl⟩, I.2.2.2⟩)
theorem V_astore (C : h_C p m c cc nL s args own D dA) {i : Nat} {x : Option Nat} (d : decode cc pc = .ok (.astore i, 2)) (hn : i < nL) (hl : (i, va_rf x) :: lv.filter (fun q => !(q.1 == i)) = lv') (k : V p l e R s m args below meth c D dA bs nL Q σ (pc + 2) lv' rest) : V p l e R s m args below meth c D dA bs nL Q σ pc lv (va_rf x :: rest) := fun H locs ls I => by
  cases x with
  | none => exact lv_astoreN C.1.1 C.1.2.1 d I.2.2.1.1 hn ((congrArg _ (h_filt I.2.2.1.2)).trans hl) (fun ls1 hl1 => k H locs ls1 ⟨I.1, I.2.1, ⟨hl1, h_c1_put I.2.2.1.2 rfl hl⟩, I.2.2.2⟩)
  | some a => exact lv_astore C.1.1 C.1.2.1 d I.2.2.1.1 hn ((congrArg _ (h_filt I.2.2.1.2)).trans hl) (fun ls1 hl1 => k H locs ls1 ⟨I.1, I.2.1, ⟨hl1, h_c1_put I.2.2.1.2 rfl hl⟩, I.2.2.2⟩)
theorem V_iinc (C : h_C p m c cc nL s args own D dA) {i : Nat} {n : Int} {x v : Int32} (j : Nat) (d : decode cc pc = .ok (.iinc i n, 3)) (hj : lv[j]? = some (i, .int x)) (hv : x + Int32.ofInt n = v) (hn : i < nL) (hl : (i, Value.int v) :: lv.filter (fun q => !(q.1 == i)) = lv') (k : V p l e R s m args below meth c D dA bs nL Q σ (pc + 3) lv' rest) : V p l e R s m args below meth c D dA bs nL Q σ pc lv rest := fun H locs ls I => lv_iinc (k := j) C.1.1 C.1.2.1 d I.2.2.1.1 hj hv hn ((congrArg _ (h_filt I.2.2.1.2)).trans hl) (fun ls1 hl1 => k H locs ls1 ⟨I.1, I.2.1, ⟨hl1, h_c1_put I.2.2.1.2 rfl hl⟩, I.2.2.2⟩)
theorem V_iadd (C : h_C p m c cc nL s args own D dA) {x y : Int32} (d : decode cc pc = .ok (.iadd, 1))  (k : V p l e R s m args below meth c D dA bs nL Q σ (pc + 1) lv (.int (x + y) :: rest)) : V p l e R s m args below meth c D dA bs nL Q σ pc lv (.int y :: .int x :: rest) := fun H locs ls I => lv_iadd C.1.1 C.1.2.1 d (k H locs ls I)
theorem V_isub (C : h_C p m c cc nL s args own D dA) {x y : Int32} (d : decode cc pc = .ok (.isub, 1))  (k : V p l e R s m args below meth c D dA bs nL Q σ (pc + 1) lv (.int (x - y) :: rest)) : V p l e R s m args below meth c D dA bs nL Q σ pc lv (.int y :: .int x :: rest) := fun H locs ls I => lv_isub C.1.1 C.1.2.1 d (k H locs ls I)
theorem V_imul (C : h_C p m c cc nL s args own D dA) {x y : Int32} (d : decode cc pc = .ok (.imul, 1))  (k : V p l e R s m args below meth c D dA bs nL Q σ (pc + 1) lv (.int (x * y) :: rest)) : V p l e R s m args below meth c D dA bs nL Q σ pc lv (.int y :: .int x :: rest) := fun H locs ls I => lv_imul C.1.1 C.1.2.1 d (k H locs ls I)
theorem V_iand (C : h_C p m c cc nL s args own D dA) {x y : Int32} (d : decode cc pc = .ok (.iand, 1))  (k : V p l e R s m args below meth c D dA bs nL Q σ (pc + 1) lv (.int (x &&& y) :: rest)) : V p l e R s m args below meth c D dA bs nL Q σ pc lv (.int y :: .int x :: rest) := fun H locs ls I => lv_iand C.1.1 C.1.2.1 d (k H locs ls I)
theorem V_ior (C : h_C p m c cc nL s args own D dA) {x y : Int32} (d : decode cc pc = .ok (.ior, 1))  (k : V p l e R s m args below meth c D dA bs nL Q σ (pc + 1) lv (.int (x ||| y) :: rest)) : V p l e R s m args below meth c D dA bs nL Q σ pc lv (.int y :: .int x :: rest) := fun H locs ls I => lv_ior C.1.1 C.1.2.1 d (k H locs ls I)
theorem V_ixor (C : h_C p m c cc nL s args own D dA) {x y : Int32} (d : decode cc pc = .ok (.ixor, 1))  (k : V p l e R s m args below meth c D dA bs nL Q σ (pc + 1) lv (.int (x ^^^ y) :: rest)) : V p l e R s m args below meth c D dA bs nL Q σ pc lv (.int y :: .int x :: rest) := fun H locs ls I => lv_ixor C.1.1 C.1.2.1 d (k H locs ls I)
theorem V_idiv (C : h_C p m c cc nL s args own D dA) {x y : Int32} (d : decode cc pc = .ok (.idiv, 1)) (hne : ¬ y = 0) (k : V p l e R s m args below meth c D dA bs nL Q σ (pc + 1) lv (.int (x / y) :: rest)) : V p l e R s m args below meth c D dA bs nL Q σ pc lv (.int y :: .int x :: rest) := fun H locs ls I => lv_idiv C.1.1 C.1.2.1 d hne (k H locs ls I)
theorem V_irem (C : h_C p m c cc nL s args own D dA) {x y : Int32} (d : decode cc pc = .ok (.irem, 1)) (hne : ¬ y = 0) (k : V p l e R s m args below meth c D dA bs nL Q σ (pc + 1) lv (.int (x - x / y * y) :: rest)) : V p l e R s m args below meth c D dA bs nL Q σ pc lv (.int y :: .int x :: rest) := fun H locs ls I => lv_irem C.1.1 C.1.2.1 d hne (k H locs ls I)
theorem V_ineg (C : h_C p m c cc nL s args own D dA) {x : Int32} (d : decode cc pc = .ok (.ineg, 1))  (k : V p l e R s m args below meth c D dA bs nL Q σ (pc + 1) lv (.int (-x) :: rest)) : V p l e R s m args below meth c D dA bs nL Q σ pc lv (.int x :: rest) := fun H locs ls I => lv_ineg C.1.1 C.1.2.1 d (k H locs ls I)
theorem V_ishl (C : h_C p m c cc nL s args own D dA) {x y : Int32} (d : decode cc pc = .ok (.ishl, 1))  (k : V p l e R s m args below meth c D dA bs nL Q σ (pc + 1) lv (.int (x <<< (y &&& 31)) :: rest)) : V p l e R s m args below meth c D dA bs nL Q σ pc lv (.int y :: .int x :: rest) := fun H locs ls I => lv_ishl C.1.1 C.1.2.1 d (k H locs ls I)
theorem V_ishr (C : h_C p m c cc nL s args own D dA) {x y : Int32} (d : decode cc pc = .ok (.ishr, 1))  (k : V p l e R s m args below meth c D dA bs nL Q σ (pc + 1) lv (.int (x >>> (y &&& 31)) :: rest)) : V p l e R s m args below meth c D dA bs nL Q σ pc lv (.int y :: .int x :: rest) := fun H locs ls I => lv_ishr C.1.1 C.1.2.1 d (k H locs ls I)
theorem V_iushr (C : h_C p m c cc nL s args own D dA) {x y : Int32} (d : decode cc pc = .ok (.iushr, 1))  (k : V p l e R s m args below meth c D dA bs nL Q σ (pc + 1) lv (.int (h_ushr x y) :: rest)) : V p l e R s m args below meth c D dA bs nL Q σ pc lv (.int y :: .int x :: rest) := fun H locs ls I => lv_iushr C.1.1 C.1.2.1 d rfl (k H locs ls I)
theorem V_i2l (C : h_C p m c cc nL s args own D dA) {x : Int32} (d : decode cc pc = .ok (.i2l, 1))  (k : V p l e R s m args below meth c D dA bs nL Q σ (pc + 1) lv (.long x.toInt64 :: rest)) : V p l e R s m args below meth c D dA bs nL Q σ pc lv (.int x :: rest) := fun H locs ls I => lv_i2l C.1.1 C.1.2.1 d rfl (k H locs ls I)
theorem V_l2i (C : h_C p m c cc nL s args own D dA) {x : Int64} (d : decode cc pc = .ok (.l2i, 1))  (k : V p l e R s m args below meth c D dA bs nL Q σ (pc + 1) lv (.int x.toInt32 :: rest)) : V p l e R s m args below meth c D dA bs nL Q σ pc lv (.long x :: rest) := fun H locs ls I => lv_l2i C.1.1 C.1.2.1 d rfl (k H locs ls I)
theorem V_ladd (C : h_C p m c cc nL s args own D dA) {x y : Int64} (d : decode cc pc = .ok (.ladd, 1))  (k : V p l e R s m args below meth c D dA bs nL Q σ (pc + 1) lv (.long (x + y) :: rest)) : V p l e R s m args below meth c D dA bs nL Q σ pc lv (.long y :: .long x :: rest) := fun H locs ls I => lv_ladd C.1.1 C.1.2.1 d (k H locs ls I)
theorem V_lsub (C : h_C p m c cc nL s args own D dA) {x y : Int64} (d : decode cc pc = .ok (.lsub, 1))  (k : V p l e R s m args below meth c D dA bs nL Q σ (pc + 1) lv (.long (x - y) :: rest)) : V p l e R s m args below meth c D dA bs nL Q σ pc lv (.long y :: .long x :: rest) := fun H locs ls I => lv_lsub C.1.1 C.1.2.1 d (k H locs ls I)
theorem V_lmul (C : h_C p m c cc nL s args own D dA) {x y : Int64} (d : decode cc pc = .ok (.lmul, 1))  (k : V p l e R s m args below meth c D dA bs nL Q σ (pc + 1) lv (.long (x * y) :: rest)) : V p l e R s m args below meth c D dA bs nL Q σ pc lv (.long y :: .long x :: rest) := fun H locs ls I => lv_lmul C.1.1 C.1.2.1 d (k H locs ls I)
theorem V_lcmp (C : h_C p m c cc nL s args own D dA) {x y : Int64} (d : decode cc pc = .ok (.lcmp, 1))  (k : V p l e R s m args below meth c D dA bs nL Q σ (pc + 1) lv (.int (lg_cmp x y) :: rest)) : V p l e R s m args below meth c D dA bs nL Q σ pc lv (.long y :: .long x :: rest) := fun H locs ls I => W.lcmp C.1.1 C.1.2.1 d (k H locs ls I)
theorem V_dupI (C : h_C p m c cc nL s args own D dA) {x : Int32} (d : decode cc pc = .ok (.dup, 1))  (k : V p l e R s m args below meth c D dA bs nL Q σ (pc + 1) lv (.int x :: .int x :: rest)) : V p l e R s m args below meth c D dA bs nL Q σ pc lv (.int x :: rest) := fun H locs ls I => lv_dup C.1.1 C.1.2.1 d rfl (k H locs ls I)
theorem V_dupR (C : h_C p m c cc nL s args own D dA) {x : Option Nat} (d : decode cc pc = .ok (.dup, 1))  (k : V p l e R s m args below meth c D dA bs nL Q σ (pc + 1) lv (va_rf x :: va_rf x :: rest)) : V p l e R s m args below meth c D dA bs nL Q σ pc lv (va_rf x :: rest) := fun H locs ls I => lv_dup C.1.1 C.1.2.1 d (h_rf_cat x) (k H locs ls I)
theorem V_popI (C : h_C p m c cc nL s args own D dA) {x : Int32} (d : decode cc pc = .ok (.pop, 1))  (k : V p l e R s m args below meth c D dA bs nL Q σ (pc + 1) lv (rest)) : V p l e R s m args below meth c D dA bs nL Q σ pc lv (.int x :: rest) := fun H locs ls I => lv_pop C.1.1 C.1.2.1 d rfl (k H locs ls I)
theorem V_popR (C : h_C p m c cc nL s args own D dA) {x : Option Nat} (d : decode cc pc = .ok (.pop, 1))  (k : V p l e R s m args below meth c D dA bs nL Q σ (pc + 1) lv (rest)) : V p l e R s m args below meth c D dA bs nL Q σ pc lv (va_rf x :: rest) := fun H locs ls I => lv_pop C.1.1 C.1.2.1 d (h_rf_cat x) (k H locs ls I)
theorem V_dup2IR (C : h_C p m c cc nL s args own D dA) {x : Int32} {r : Option Nat} (d : decode cc pc = .ok (.dup2, 1))  (k : V p l e R s m args below meth c D dA bs nL Q σ (pc + 1) lv (.int x :: va_rf r :: .int x :: va_rf r :: rest)) : V p l e R s m args below meth c D dA bs nL Q σ pc lv (.int x :: va_rf r :: rest) := fun H locs ls I => lv_dup2_11 C.1.1 C.1.2.1 d rfl (h_rf_cat r) (k H locs ls I)
theorem V_dupx1IR (C : h_C p m c cc nL s args own D dA) {x : Int32} {r : Option Nat} (d : decode cc pc = .ok (.dup_x1, 1))  (k : V p l e R s m args below meth c D dA bs nL Q σ (pc + 1) lv (.int x :: va_rf r :: .int x :: rest)) : V p l e R s m args below meth c D dA bs nL Q σ pc lv (.int x :: va_rf r :: rest) := fun H locs ls I => lv_dup_x1 C.1.1 C.1.2.1 d rfl (h_rf_cat r) (k H locs ls I)
theorem V_ldc (C : h_C p m c cc nL s args own D dA) {idx : Nat} {v : Int32} (d : decode cc pc = .ok (.ldc idx, 2)) (hw : Cond.constant own idx v ∈ h_ws) (k : V p l e R s m args below meth c D dA bs nL Q σ (pc + 2) lv (.int v :: rest)) : V p l e R s m args below meth c D dA bs nL Q σ pc lv (rest) := fun H locs ls I => lv_ldc C.1.1 C.1.2.1 C.1.2.2.2.1 (C.1.2.2.2.2 _ hw) d (k H locs ls I)
theorem V_ldcw (C : h_C p m c cc nL s args own D dA) {idx : Nat} {v : Int32} (d : decode cc pc = .ok (.ldc_w idx, 3)) (hw : Cond.constant own idx v ∈ h_ws) (k : V p l e R s m args below meth c D dA bs nL Q σ (pc + 3) lv (.int v :: rest)) : V p l e R s m args below meth c D dA bs nL Q σ pc lv (rest) := fun H locs ls I => lv_ldcw C.1.1 C.1.2.1 C.1.2.2.2.1 (C.1.2.2.2.2 _ hw) d (k H locs ls I)
theorem V_ldc2 (C : h_C p m c cc nL s args own D dA) {idx : Nat} {v : Int64} (d : decode cc pc = .ok (.ldc2_w idx, 3)) (hw : Cond.constantLong own idx v ∈ h_ws) (k : V p l e R s m args below meth c D dA bs nL Q σ (pc + 3) lv (.long v :: rest)) : V p l e R s m args below meth c D dA bs nL Q σ pc lv (rest) := fun H locs ls I => lv_ldc2 C.1.1 C.1.2.1 C.1.2.2.2.1 (C.1.2.2.2.2 _ hw) d (k H locs ls I)
theorem V_if_eq (C : h_C p m c cc nL s args own D dA) {x : Int32} {off : Int} {tgt : Nat} (d : decode cc pc = .ok (.ifCond .eq off, 3)) (ht : (pc : Int) + off = (tgt : Int)) (kt : x = 0 → V p l e R s m args below meth c D dA bs nL Q σ tgt lv rest) (kf : ¬ x = 0 → V p l e R s m args below meth c D dA bs nL Q σ (pc + 3) lv rest) : V p l e R s m args below meth c D dA bs nL Q σ pc lv (.int x :: rest) := fun H locs ls I => lv_if_eq C.1.1 C.1.2.1 d ht (fun h => kt h H locs ls I) (fun h => kf h H locs ls I)
theorem V_if_ne (C : h_C p m c cc nL s args own D dA) {x : Int32} {off : Int} {tgt : Nat} (d : decode cc pc = .ok (.ifCond .ne off, 3)) (ht : (pc : Int) + off = (tgt : Int)) (kt : ¬ x = 0 → V p l e R s m args below meth c D dA bs nL Q σ tgt lv rest) (kf : x = 0 → V p l e R s m args below meth c D dA bs nL Q σ (pc + 3) lv rest) : V p l e R s m args below meth c D dA bs nL Q σ pc lv (.int x :: rest) := fun H locs ls I => lv_if_ne C.1.1 C.1.2.1 d ht (fun h => kt h H locs ls I) (fun h => kf h H locs ls I)
theorem V_if_lt (C : h_C p m c cc nL s args own D dA) {x : Int32} {off : Int} {tgt : Nat} (d : decode cc pc = .ok (.ifCond .lt off, 3)) (ht : (pc : Int) + off = (tgt : Int)) (kt : x < 0 → V p l e R s m args below meth c D dA bs nL Q σ tgt lv rest) (kf : ¬ x < 0 → V p l e R s m args below meth c D dA bs nL Q σ (pc + 3) lv rest) : V p l e R s m args below meth c D dA bs nL Q σ pc lv (.int x :: rest) := fun H locs ls I => lv_if_lt C.1.1 C.1.2.1 d ht (fun h => kt h H locs ls I) (fun h => kf h H locs ls I)
theorem V_if_ge (C : h_C p m c cc nL s args own D dA) {x : Int32} {off : Int} {tgt : Nat} (d : decode cc pc = .ok (.ifCond .ge off, 3)) (ht : (pc : Int) + off = (tgt : Int)) (kt : 0 ≤ x → V p l e R s m args below meth c D dA bs nL Q σ tgt lv rest) (kf : ¬ 0 ≤ x → V p l e R s m args below meth c D dA bs nL Q σ (pc + 3) lv rest) : V p l e R s m args below meth c D dA bs nL Q σ pc lv (.int x :: rest) := fun H locs ls I => lv_if_ge C.1.1 C.1.2.1 d ht (fun h => kt h H locs ls I) (fun h => kf h H locs ls I)
theorem V_if_gt (C : h_C p m c cc nL s args own D dA) {x : Int32} {off : Int} {tgt : Nat} (d : decode cc pc = .ok (.ifCond .gt off, 3)) (ht : (pc : Int) + off = (tgt : Int)) (kt : 0 < x → V p l e R s m args below meth c D dA bs nL Q σ tgt lv rest) (kf : ¬ 0 < x → V p l e R s m args below meth c D dA bs nL Q σ (pc + 3) lv rest) : V p l e R s m args below meth c D dA bs nL Q σ pc lv (.int x :: rest) := fun H locs ls I => lv_if_gt C.1.1 C.1.2.1 d ht (fun h => kt h H locs ls I) (fun h => kf h H locs ls I)
theorem V_if_le (C : h_C p m c cc nL s args own D dA) {x : Int32} {off : Int} {tgt : Nat} (d : decode cc pc = .ok (.ifCond .le off, 3)) (ht : (pc : Int) + off = (tgt : Int)) (kt : x ≤ 0 → V p l e R s m args below meth c D dA bs nL Q σ tgt lv rest) (kf : ¬ x ≤ 0 → V p l e R s m args below meth c D dA bs nL Q σ (pc + 3) lv rest) : V p l e R s m args below meth c D dA bs nL Q σ pc lv (.int x :: rest) := fun H locs ls I => lv_if_le C.1.1 C.1.2.1 d ht (fun h => kt h H locs ls I) (fun h => kf h H locs ls I)
theorem V_icmp_eq (C : h_C p m c cc nL s args own D dA) {x y : Int32} {off : Int} {tgt : Nat} (d : decode cc pc = .ok (.if_icmp .eq off, 3)) (ht : (pc : Int) + off = (tgt : Int)) (kt : x = y → V p l e R s m args below meth c D dA bs nL Q σ tgt lv rest) (kf : ¬ x = y → V p l e R s m args below meth c D dA bs nL Q σ (pc + 3) lv rest) : V p l e R s m args below meth c D dA bs nL Q σ pc lv (.int y :: .int x :: rest) := fun H locs ls I => lv_icmp_eq C.1.1 C.1.2.1 d ht (fun h => kt h H locs ls I) (fun h => kf h H locs ls I)
theorem V_icmp_ne (C : h_C p m c cc nL s args own D dA) {x y : Int32} {off : Int} {tgt : Nat} (d : decode cc pc = .ok (.if_icmp .ne off, 3)) (ht : (pc : Int) + off = (tgt : Int)) (kt : ¬ x = y → V p l e R s m args below meth c D dA bs nL Q σ tgt lv rest) (kf : x = y → V p l e R s m args below meth c D dA bs nL Q σ (pc + 3) lv rest) : V p l e R s m args below meth c D dA bs nL Q σ pc lv (.int y :: .int x :: rest) := fun H locs ls I => lv_icmp_ne C.1.1 C.1.2.1 d ht (fun h => kt h H locs ls I) (fun h => kf h H locs ls I)
theorem V_icmp_lt (C : h_C p m c cc nL s args own D dA) {x y : Int32} {off : Int} {tgt : Nat} (d : decode cc pc = .ok (.if_icmp .lt off, 3)) (ht : (pc : Int) + off = (tgt : Int)) (kt : x < y → V p l e R s m args below meth c D dA bs nL Q σ tgt lv rest) (kf : ¬ x < y → V p l e R s m args below meth c D dA bs nL Q σ (pc + 3) lv rest) : V p l e R s m args below meth c D dA bs nL Q σ pc lv (.int y :: .int x :: rest) := fun H locs ls I => lv_icmp_lt C.1.1 C.1.2.1 d ht (fun h => kt h H locs ls I) (fun h => kf h H locs ls I)
theorem V_icmp_ge (C : h_C p m c cc nL s args own D dA) {x y : Int32} {off : Int} {tgt : Nat} (d : decode cc pc = .ok (.if_icmp .ge off, 3)) (ht : (pc : Int) + off = (tgt : Int)) (kt : y ≤ x → V p l e R s m args below meth c D dA bs nL Q σ tgt lv rest) (kf : ¬ y ≤ x → V p l e R s m args below meth c D dA bs nL Q σ (pc + 3) lv rest) : V p l e R s m args below meth c D dA bs nL Q σ pc lv (.int y :: .int x :: rest) := fun H locs ls I => lv_icmp_ge C.1.1 C.1.2.1 d ht (fun h => kt h H locs ls I) (fun h => kf h H locs ls I)
theorem V_icmp_gt (C : h_C p m c cc nL s args own D dA) {x y : Int32} {off : Int} {tgt : Nat} (d : decode cc pc = .ok (.if_icmp .gt off, 3)) (ht : (pc : Int) + off = (tgt : Int)) (kt : y < x → V p l e R s m args below meth c D dA bs nL Q σ tgt lv rest) (kf : ¬ y < x → V p l e R s m args below meth c D dA bs nL Q σ (pc + 3) lv rest) : V p l e R s m args below meth c D dA bs nL Q σ pc lv (.int y :: .int x :: rest) := fun H locs ls I => lv_icmp_gt C.1.1 C.1.2.1 d ht (fun h => kt h H locs ls I) (fun h => kf h H locs ls I)
theorem V_icmp_le (C : h_C p m c cc nL s args own D dA) {x y : Int32} {off : Int} {tgt : Nat} (d : decode cc pc = .ok (.if_icmp .le off, 3)) (ht : (pc : Int) + off = (tgt : Int)) (kt : x ≤ y → V p l e R s m args below meth c D dA bs nL Q σ tgt lv rest) (kf : ¬ x ≤ y → V p l e R s m args below meth c D dA bs nL Q σ (pc + 3) lv rest) : V p l e R s m args below meth c D dA bs nL Q σ pc lv (.int y :: .int x :: rest) := fun H locs ls I => lv_icmp_le C.1.1 C.1.2.1 d ht (fun h => kt h H locs ls I) (fun h => kf h H locs ls I)
theorem V_acmp_eq (C : h_C p m c cc nL s args own D dA) {x y : Option Nat} {off : Int} {tgt : Nat} (d : decode cc pc = .ok (.if_acmp .eq off, 3)) (ht : (pc : Int) + off = (tgt : Int)) (kt : x = y → V p l e R s m args below meth c D dA bs nL Q σ tgt lv rest) (kf : ¬ x = y → V p l e R s m args below meth c D dA bs nL Q σ (pc + 3) lv rest) : V p l e R s m args below meth c D dA bs nL Q σ pc lv (va_rf y :: va_rf x :: rest) := fun H locs ls I => lv_acmp_eq C.1.1 C.1.2.1 d ht (fun h => kt h H locs ls I) (fun h => kf h H locs ls I)
theorem V_acmp_ne (C : h_C p m c cc nL s args own D dA) {x y : Option Nat} {off : Int} {tgt : Nat} (d : decode cc pc = .ok (.if_acmp .ne off, 3)) (ht : (pc : Int) + off = (tgt : Int)) (kt : ¬ x = y → V p l e R s m args below meth c D dA bs nL Q σ tgt lv rest) (kf : x = y → V p l e R s m args below meth c D dA bs nL Q σ (pc + 3) lv rest) : V p l e R s m args below meth c D dA bs nL Q σ pc lv (va_rf y :: va_rf x :: rest) := fun H locs ls I => lv_acmp_ne C.1.1 C.1.2.1 d ht (fun h => kt h H locs ls I) (fun h => kf h H locs ls I)
theorem V_ifnull (C : h_C p m c cc nL s args own D dA) {x : Option Nat} {off : Int} {tgt : Nat} (d : decode cc pc = .ok (.ifnull off, 3)) (ht : (pc : Int) + off = (tgt : Int)) (kt : x = none → V p l e R s m args below meth c D dA bs nL Q σ tgt lv rest) (kf : ¬ x = none → V p l e R s m args below meth c D dA bs nL Q σ (pc + 3) lv rest) : V p l e R s m args below meth c D dA bs nL Q σ pc lv (va_rf x :: rest) := fun H locs ls I => by
  cases x with
  | none => exact lv_ifnullN C.1.1 C.1.2.1 d ht (kt rfl H locs ls I)
  | some a => exact lv_ifnull C.1.1 C.1.2.1 d (kf (fun h => by cases h) H locs ls I)
theorem V_ifnonnull (C : h_C p m c cc nL s args own D dA) {x : Option Nat} {off : Int} {tgt : Nat} (d : decode cc pc = .ok (.ifnonnull off, 3)) (ht : (pc : Int) + off = (tgt : Int)) (kt : ¬ x = none → V p l e R s m args below meth c D dA bs nL Q σ tgt lv rest) (kf : x = none → V p l e R s m args below meth c D dA bs nL Q σ (pc + 3) lv rest) : V p l e R s m args below meth c D dA bs nL Q σ pc lv (va_rf x :: rest) := fun H locs ls I => by
  cases x with
  | none => exact lv_ifnonnullN C.1.1 C.1.2.1 d (kf rfl H locs ls I)
  | some a => exact lv_ifnonnull C.1.1 C.1.2.1 d ht (kt (fun h => by cases h) H locs ls I)
theorem V_goto (C : h_C p m c cc nL s args own D dA) {off : Int} {tgt : Nat} (d : decode cc pc = .ok (.goto off, 3)) (ht : (pc : Int) + off = (tgt : Int)) (k : V p l e R s m args below meth c D dA bs nL Q σ tgt lv rest) : V p l e R s m args below meth c D dA bs nL Q σ pc lv rest := fun H locs ls I => lv_goto C.1.1 C.1.2.1 d ht (k H locs ls I)
theorem V_lookup (C : h_C p m c cc nL s args own D dA) {dflt : Int} {ps : Array (Int × Int)} {len : Nat} {x : Int32} {off : Int} {tgt : Nat} (d : decode cc pc = .ok (.lookupswitch dflt ps, len)) (hp : (ps.toList.zip (ps.toList.drop 1)).all (fun (a, next) => a.1 < next.1) = true) (ho : Op.lookupswitch.offset ps.toList dflt x.toInt = off) (ht : (pc : Int) + off = (tgt : Int)) (k : V p l e R s m args below meth c D dA bs nL Q σ tgt lv rest) : V p l e R s m args below meth c D dA bs nL Q σ pc lv (.int x :: rest) := fun H locs ls I => lv_lookup C.1.1 C.1.2.1 d hp ho ht (k H locs ls I)
theorem V_tabOut (C : h_C p m c cc nL s args own D dA) {dflt lo hi : Int} {offs : Array Int} {len : Nat} {x : Int32} {tgt : Nat} (d : decode cc pc = .ok (.tableswitch dflt lo hi offs, len)) (h : x.toInt < lo ∨ hi < x.toInt) (ht : (pc : Int) + dflt = (tgt : Int)) (k : V p l e R s m args below meth c D dA bs nL Q σ tgt lv rest) : V p l e R s m args below meth c D dA bs nL Q σ pc lv (.int x :: rest) := fun H locs ls I => lv_tableOut C.1.1 C.1.2.1 d h ht (k H locs ls I)
theorem V_tabIn (C : h_C p m c cc nL s args own D dA) {dflt lo hi : Int} {offs : Array Int} {len : Nat} {x : Int32} {off : Int} {tgt : Nat} (d : decode cc pc = .ok (.tableswitch dflt lo hi offs, len)) (h1 : ¬ x.toInt < lo) (h2 : ¬ hi < x.toInt) (ho : offs[(x.toInt - lo).toNat]? = some off) (ht : (pc : Int) + off = (tgt : Int)) (k : V p l e R s m args below meth c D dA bs nL Q σ tgt lv rest) : V p l e R s m args below meth c D dA bs nL Q σ pc lv (.int x :: rest) := fun H locs ls I => lv_tableIn C.1.1 C.1.2.1 d h1 h2 ho ht (k H locs ls I)
/-- other names for the same locals -/
theorem V_sub (ks : List Nat) (hl : lv_pick lv ks = lv') (k : V p l e R s m args below meth c D dA bs nL Q σ pc lv' rest) : V p l e R s m args below meth c D dA bs nL Q σ pc lv rest := fun H locs ls I => k H locs ls ⟨I.1, I.2.1, ⟨lv_sub I.2.2.1.1 ks hl, fun q hq => by
    rw [← hl] at hq
    obtain ⟨i, -, hi⟩ := List.mem_filterMap.mp hq
    exact I.2.2.1.2 q (List.mem_of_getElem? hi)⟩, I.2.2.2⟩
theorem h_rd {α : Type} {r : Option Nat} {t : Nat} {f : Nat → α} {x : α} (h : (r.bind fun a => if h_tg σ a = t then some (f a) else none) = some x) : ∃ a, r = some a ∧ h_tg σ a = t ∧ x = f a := by
  cases r with
  | none => cases h
  | some a =>
    have h' : (if h_tg σ a = t then some (f a) else none) = some x := h
    by_cases ht : h_tg σ a = t
    · rw [if_pos ht] at h'
      exact ⟨a, rfl, ht, (Option.some.inj h').symm⟩
    · rw [if_neg ht] at h'
      cases h'
theorem h_rdA {α : Type} {r : Option Nat} {t : Nat} {i : Int32} {f : Nat → α} {x : α} (h : (r.bind fun a => if h_ok σ a t i = true then some (f a) else none) = some x) : ∃ a, r = some a ∧ h_tg σ a = t ∧ vp_in i (h_ln σ a) ∧ x = f a := by
  cases r with
  | none => cases h
  | some a =>
    have h' : (if h_ok σ a t i = true then some (f a) else none) = some x := h
    by_cases ht : h_ok σ a t i = true
    · rw [if_pos ht] at h'
      simp only [h_ok, Bool.and_eq_true, Bool.not_eq_true', Bool.or_eq_false_iff, decide_eq_true_eq, decide_eq_false_iff_not] at ht
      exact ⟨a, rfl, ht.1, fun z => z.elim ht.2.1 ht.2.2, (Option.some.inj h').symm⟩
    · rw [if_neg ht] at h'
      cases h'
/-- a field of an object that σ knows -/
theorem h_ob {H : Heap} {a t : Nat} {Cn : String} {T : u_T} {N : Nat} (hg : hG D dA bs σ H) (hc : h_CL t Cn T N) (ht : h_tg σ a = t) : va_P D classes [(a, .inr (t - 1, (List.range N).map (fun k => h_val (h_kd t k) σ a k)))] H := by
  intro k q hq
  have hk : k = 0 := by
    have := (List.getElem?_eq_some_iff.mp hq).1
    simp at this
    exact this
  subst hk
  cases hq
  obtain ⟨h0, h1, h2, -⟩ := hc
  obtain ⟨r, r1, r2⟩ := (hg.2.2.2.2.2 a (by omega)).1 (by omega)
  rw [ht] at r1 r2
  have hr : r = (Cn, T, N) := Option.some.inj (r1.symm.trans h2)
  subst hr
  refine ⟨_, h2, r2.to (fun k hk => ?_)⟩
  simp [vp_V, hk]
theorem V_getI (C : h_C p m c cc nL s args own D dA) {idx t k0 : Nat} (fl : h_FL own idx t k0 0) (d : decode cc pc = .ok (.getfield idx, 3)) {r : Option Nat} {x : Int32} (e0 : h_gI σ r t k0 = some x) (k : V p l e R s m args below meth c D dA bs nL Q σ (pc + 3) lv (.int x :: rest)) : V p l e R s m args below meth c D dA bs nL Q σ pc lv (va_rf r :: rest) := fun H locs ls I => by
  obtain ⟨a, rfl, ht, rfl⟩ := h_rd e0
  obtain ⟨Cn, T, N, hc, hk, hkd, hw⟩ := fl
  refine va_get (D := D) (ci := t - 1) (v := h_val (h_kd t k0) σ a k0) (C := Cn) (T := T) (N := N) C.1.1 C.1.2.1 C.1.2.2.2.2 hc.2.2.2.1 C.1.2.2.2.1 C.2.1 (h_ob I.1 hc ht) 0 rfl hc.2.2.1 k0 hk (C.1.2.2.2.2 _ hw) (fun _ h9 => h9) (by simp [hk]) d ?_
  rw [hkd]
  exact k H locs ls I
theorem V_getR (C : h_C p m c cc nL s args own D dA) {idx t k0 : Nat} (fl : h_FL own idx t k0 1) (d : decode cc pc = .ok (.getfield idx, 3)) {r : Option Nat} {x : Option Nat} (e0 : h_gR σ r t k0 = some x) (k : V p l e R s m args below meth c D dA bs nL Q σ (pc + 3) lv (va_rf x :: rest)) : V p l e R s m args below meth c D dA bs nL Q σ pc lv (va_rf r :: rest) := fun H locs ls I => by
  obtain ⟨a, rfl, ht, rfl⟩ := h_rd e0
  obtain ⟨Cn, T, N, hc, hk, hkd, hw⟩ := fl
  refine va_get (D := D) (ci := t - 1) (v := h_val (h_kd t k0) σ a k0) (C := Cn) (T := T) (N := N) C.1.1 C.1.2.1 C.1.2.2.2.2 hc.2.2.2.1 C.1.2.2.2.1 C.2.1 (h_ob I.1 hc ht) 0 rfl hc.2.2.1 k0 hk (C.1.2.2.2.2 _ hw) (fun _ h9 => h9) (by simp [hk]) d ?_
  rw [hkd]
  exact k H locs ls I
theorem V_getL (C : h_C p m c cc nL s args own D dA) {idx t k0 : Nat} (fl : h_FL own idx t k0 2) (d : decode cc pc = .ok (.getfield idx, 3)) {r : Option Nat} {x : Int64} (e0 : h_gL σ r t k0 = some x) (k : V p l e R s m args below meth c D dA bs nL Q σ (pc + 3) lv (.long x :: rest)) : V p l e R s m args below meth c D dA bs nL Q σ pc lv (va_rf r :: rest) := fun H locs ls I => by
  obtain ⟨a, rfl, ht, rfl⟩ := h_rd e0
  obtain ⟨Cn, T, N, hc, hk, hkd, hw⟩ := fl
  refine va_get (D := D) (ci := t - 1) (v := h_val (h_kd t k0) σ a k0) (C := Cn) (T := T) (N := N) C.1.1 C.1.2.1 C.1.2.2.2.2 hc.2.2.2.1 C.1.2.2.2.1 C.2.1 (h_ob I.1 hc ht) 0 rfl hc.2.2.1 k0 hk (C.1.2.2.2.2 _ hw) (fun _ h9 => h9) (by simp [hk]) d ?_
  rw [hkd]
  exact k H locs ls I
end HR
end
section
/-! ROWS OF THE WALK: what writes, what makes -/
section HP0
variable {p : Program} {l : Launch} {e : Env} {R : Room} {s : State} {m : MethodId} {args : Array Value} {below : List Frame} {meth : Method} {c : Code} {D : va_G} {dA : Nat → ClassId} {bs nL : Nat} {Q : State → Prop} {cc : ByteArray} {own : String} {σ : HS} {pc : Nat} {lv : List (Nat × Value)} {rest : List Value}
/-- σ' is σ with the value v in the field k of a -/
def h_put (σ σ' : HS) (a t k : Nat) (v : Value) : Prop := h_tg σ' = h_tg σ ∧ h_ln σ' = h_ln σ ∧ h_sz σ' = h_sz σ ∧ h_sl σ' = h_sl σ ∧ h_cz σ' = h_cz σ ∧ h_ck σ' = h_ck σ ∧
  (∀ b, b ≠ a → ∀ kd j, h_val kd σ' b j = h_val kd σ b j) ∧ (∀ j, j ≠ k → ∀ kd, h_val kd σ' a j = h_val kd σ a j) ∧ (t < 100 → h_val (h_kd t k) σ' a k = v) ∧ (100 ≤ t → h_val (h_ak t) σ' a k = v)
theorem h_putI {a t k : Nat} {v : Int32} (h1 : t < 100 → h_kd t k = 0) (h2 : 100 ≤ t → h_ak t = 0) : h_put σ (h_setI σ a k v) a t k (.int v) := by
  refine ⟨rfl, rfl, rfl, rfl, rfl, rfl, fun b hb kd j => ?_, fun j hj kd => ?_, fun h => ?_, fun h => ?_⟩
  · simp [h_val, h_setI, h_iv, h_rv, h_lv, h_up2, hb]
  · simp [h_val, h_setI, h_iv, h_rv, h_lv, h_up2, hj]
  · rw [h1 h]; simp [h_val, h_setI, h_iv, h_up2]
  · rw [h2 h]; simp [h_val, h_setI, h_iv, h_up2]
theorem h_putR {a t k : Nat} {v : Option Nat} (h1 : t < 100 → h_kd t k = 1) (h2 : 100 ≤ t → h_ak t = 1) : h_put σ (h_setR σ a k v) a t k (va_rf v) := by
  refine ⟨rfl, rfl, rfl, rfl, rfl, rfl, fun b hb kd j => ?_, fun j hj kd => ?_, fun h => ?_, fun h => ?_⟩
  · simp [h_val, h_setR, h_iv, h_rv, h_lv, h_up2, hb]
  · simp [h_val, h_setR, h_iv, h_rv, h_lv, h_up2, hj]
  · rw [h1 h]; simp [h_val, h_setR, h_rv, h_up2]
  · rw [h2 h]; simp [h_val, h_setR, h_rv, h_up2]
theorem h_putL {a t k : Nat} {v : Int64} (h1 : t < 100 → h_kd t k = 2) (h2 : 100 ≤ t → h_ak t = 2) : h_put σ (h_setL σ a k v) a t k (.long v) := by
  refine ⟨rfl, rfl, rfl, rfl, rfl, rfl, fun b hb kd j => ?_, fun j hj kd => ?_, fun h => ?_, fun h => ?_⟩
  · simp [h_val, h_setL, h_iv, h_rv, h_lv, h_up2, hb]
  · simp [h_val, h_setL, h_iv, h_rv, h_lv, h_up2, hj]
  · rw [h1 h]; simp [h_val, h_setL, h_lv, h_up2]
  · rw [h2 h]; simp [h_val, h_setL, h_lv, h_up2]
theorem h_I_put {σ' : HS} {H H1 : Heap} {locs : List Loc} {ls : Array Slot} {a t k i : Nat} {v : Value} {c0 c1 : Cell} (I : h_I R s D dA bs nL σ lv H locs ls) (hp : h_put σ σ' a t k v) (h0 : h_tg σ a ≠ 0) (e0 : H[a]? = some c0) (e1 : H1[a]? = some c1) (es : c1.slots.size = c0.slots.size) (z1 : H1.size = H.size) (o1 : ∀ q, q ≠ a → H1[q]? = H[q]?) (ha : h_at D dA σ' a H1) : h_I R s D dA bs nL σ' lv H1 (locs ++ [⟨a, i⟩]) ls := by
  obtain ⟨q1, q2, q3, q4, q5, q6, q7, -⟩ := hp
  exact ⟨hG_set I.1 q1 q2 q3 q4 q5 q6 q7 e0 e1 es z1 o1 ha, I.2.1.put z1 o1 (I.1.2.2.2.2.1 a h0), I.2.2.1, by rw [q5]; exact I.2.2.2.1, by rw [q6]; exact I.2.2.2.2.1, I.2.2.2.2.2⟩
theorem h_putO (C : h_C p m c cc nL s args own D dA) {idx t k : Nat} {σ' : HS} {kd : Nat} (fl : h_FW own idx t k kd ∨ (h_FF own idx t k kd ∧ meth.name = "<init>")) (d : decode cc pc = .ok (.putfield idx, 3)) {a : Nat} {v : Value} (ht : h_tg σ a = t) (hp : h_put σ σ' a t k v)
    (hty : ∀ ty : FieldType, (kd = 0 ∧ ty = .int) ∨ (kd = 2 ∧ ty = .long) ∨ (kd = 1 ∧ ty.isReference = true) → narrow ty v = v ∧ fits ty v = true)
    (kk : V p l e R s m args below meth c D dA bs nL Q σ' (pc + 3) lv rest) : V p l e R s m args below meth c D dA bs nL Q σ pc lv (v :: .ref a :: rest) := fun H locs ls I => by
  have hfl : ∃ (Cn : String) (T : u_T) (N : Nat), h_CL t Cn T N ∧ k < N ∧ h_kd t k = kd ∧ Cond.fieldLink own idx (T k).1 (T k).2.1 (T k).2.2.1 ∈ h_ws ∧ ((T k).2.2.2 = false ∨ ((T k).2.2.2 = true ∧ (T k).1 = own ∧ meth.name = "<init>")) := by
    rcases fl with ⟨Cn, T, N, h1, h2, h3, h4, h5⟩ | ⟨⟨Cn, T, N, h1, h2, h3, h4, h5, h6⟩, h7⟩
    · exact ⟨Cn, T, N, h1, h2, h3, h4, Or.inl h5⟩
    · exact ⟨Cn, T, N, h1, h2, h3, h4, Or.inr ⟨h5, h6, h7⟩⟩
  obtain ⟨Cn, T, N, hc, hk, hkd, hw, hfin⟩ := hfl
  obtain ⟨t0, t1, hcl, hin, hins, hini, ty0, hty0, hnm, hkt⟩ := id hc
  have hts := C.1.2.2.2.2
  have hap := va_apart (own := own) hts hin ty0 hty0 hnm C.2.1 hcl
  obtain ⟨r, r1, cell, q1, q2, q3, q4⟩ := (I.1.2.2.2.2.2 a (by omega)).1 (by omega)
  rw [ht] at r1 q2 q4
  have hr : r = (Cn, T, N) := Option.some.inj (r1.symm.trans hcl)
  subst hr
  obtain ⟨hS, hfc, kC, hkC, hkind⟩ := C.2.1.1 (t - 1) _ hcl
  obtain ⟨cf, kf, fi, f, hi, hsl⟩ := hS k hk
  have hlay := hts _ (hin _ (u_in_lay hk))
  have hst := (u_facts hfc hkC (u_lays hts hin hk) hi).1
  obtain ⟨hn, hfit⟩ := hty (ty0 k) (by rw [← hkd]; exact hkt k hk)
  have fin : ∀ H' : Heap, H'[a]? = some (cell.setSlot f.slot v) → H'.size = H.size → (∀ q, q ≠ a → H'[q]? = H[q]?) → W p l e R s m args below meth c H' (locs ++ [⟨a, f.slot⟩]) (H.size - s.heap.size) (slotSum H - slotSum s.heap) Q (F0 m (pc + 3) ls rest) := by
    intro H' e1 e2 e3
    refine W.tight (kk H' _ ls (h_I_put I hp (by omega) q1 e1 (k2_slotsz _ _ _) e2 e3 ?_))
    intro hne
    have htt : h_tg σ' a = t := by rw [hp.1]; exact ht
    rw [htt]
    refine ⟨fun _ => ⟨_, hcl, ?_⟩, fun h => absurd h (by omega)⟩
    rw [hsl] at e1
    refine t_OB.to (V := updV (fun k => h_val (h_kd t k) σ a k) k v) ⟨_, e1, q2, q3, t_set q4 hap hk v⟩ (fun j _ => ?_)
    by_cases hj : j = k
    · subst hj
      simp only [updV, if_true]
      exact (hp.2.2.2.2.2.2.2.2.1 t1).symm
    · simp only [updV, hj, if_false]
      exact (hp.2.2.2.2.2.2.2.1 j hj _).symm
  rcases hfin with hfin | ⟨hfin, hdecl, hin2⟩
  · unfold u_lay at hlay
    rw [if_neg (by rw [hfin]; decide)] at hlay
    have h6 := u_store hfc hkC hkind hlay hi (hty0 k hk) hn hfit
    exact W.putK C.1.1 C.1.2.1 (f := f) ⟨C.1.2.2.2.1, hts _ hw, ⟨_, _, _, hi⟩, hst⟩ (by rw [q2]; exact h6) q1 q3 (by rw [hsl]; exact k2_hasslot (q4 k hk)) rfl rfl d fin
  · unfold u_lay at hlay
    rw [if_pos hfin] at hlay
    have hcf : m.cls = cf := by
      obtain ⟨_, _, c', _, _, _, -, -, hf', -, -, -, hown2, -⟩ := Cond.laysFinal_spec hlay
      have e1 : c' = cf := by have := hi.symm.trans hf'; simp at this; exact this.1.symm
      rw [hdecl] at hown2
      rw [← e1]; exact Option.some.inj (C.1.2.2.2.1.symm.trans hown2)
    have h6 := u_fits hfc hkC hkind (Or.inr hlay) hi (hty0 k hk) hn hfit
    exact W.putFinK C.1.1 C.1.2.1 C.1.2.2.2.1 (hts _ hw) hi hst hcf hin2 (by rw [q2]; exact h6) q1 q3 (by rw [hsl]; exact k2_hasslot (q4 k hk)) rfl rfl d fin
end HP0
end
section
/-! ROWS OF THE WALK: what writes, what makes -/
section HP1
variable {p : Program} {l : Launch} {e : Env} {R : Room} {s : State} {m : MethodId} {args : Array Value} {below : List Frame} {meth : Method} {c : Code} {D : va_G} {dA : Nat → ClassId} {bs nL : Nat} {Q : State → Prop} {cc : ByteArray} {own : String} {σ : HS} {pc : Nat} {lv : List (Nat × Value)} {rest : List Value}
theorem h_tyI {kd : Nat} {x : Int32} (h0 : kd = 0) : ∀ ty : FieldType, (kd = 0 ∧ ty = .int) ∨ (kd = 2 ∧ ty = .long) ∨ (kd = 1 ∧ ty.isReference = true) → narrow ty (.int x) = .int x ∧ fits ty (.int x) = true := by
  intro ty h
  rcases h with ⟨-, rfl⟩ | ⟨h, -⟩ | ⟨h, -⟩
  · exact ⟨rfl, rfl⟩
  · omega
  · omega
theorem h_tyL {kd : Nat} {x : Int64} (h0 : kd = 2) : ∀ ty : FieldType, (kd = 0 ∧ ty = .int) ∨ (kd = 2 ∧ ty = .long) ∨ (kd = 1 ∧ ty.isReference = true) → narrow ty (.long x) = .long x ∧ fits ty (.long x) = true := by
  intro ty h
  rcases h with ⟨h, -⟩ | ⟨-, rfl⟩ | ⟨h, -⟩
  · omega
  · exact ⟨rfl, rfl⟩
  · omega
theorem h_tyR {kd : Nat} {x : Option Nat} (h0 : kd = 1) : ∀ ty : FieldType, (kd = 0 ∧ ty = .int) ∨ (kd = 2 ∧ ty = .long) ∨ (kd = 1 ∧ ty.isReference = true) → narrow ty (va_rf x) = va_rf x ∧ fits ty (va_rf x) = true := by
  intro ty h
  rcases h with ⟨h, -⟩ | ⟨h, -⟩ | ⟨-, h⟩
  · omega
  · omega
  · cases ty <;> first | (simp [FieldType.isReference] at h; done) | (cases x <;> exact ⟨rfl, rfl⟩)
theorem h_kdW {idx t k kd : Nat} (h : h_FW own idx t k kd) : h_kd t k = kd ∧ t < 100 := by
  obtain ⟨_, _, _, h1, -, h2, -⟩ := h
  exact ⟨h2, h1.2.1⟩
theorem h_kdF {idx t k kd : Nat} (h : h_FF own idx t k kd) : h_kd t k = kd ∧ t < 100 := by
  obtain ⟨_, _, _, h1, -, h2, -⟩ := h
  exact ⟨h2, h1.2.1⟩
theorem V_putI (C : h_C p m c cc nL s args own D dA) {idx t k : Nat} (fl : h_FW own idx t k 0) (d : decode cc pc = .ok (.putfield idx, 3)) {r : Option Nat} {x : Int32} {σ' : HS} (e0 : h_pI σ r t k x = some σ') (kk : V p l e R s m args below meth c D dA bs nL Q σ' (pc + 3) lv rest) : V p l e R s m args below meth c D dA bs nL Q σ pc lv (.int x :: va_rf r :: rest) := by
  obtain ⟨a, rfl, ht, rfl⟩ := h_rd e0
  exact h_putO C (Or.inl fl) d ht (h_putI (fun _ => (h_kdW fl).1) (fun h => absurd h (by have := (h_kdW fl).2; omega))) (h_tyI rfl) kk
theorem V_putR (C : h_C p m c cc nL s args own D dA) {idx t k : Nat} (fl : h_FW own idx t k 1) (d : decode cc pc = .ok (.putfield idx, 3)) {r x : Option Nat} {σ' : HS} (e0 : h_pR σ r t k x = some σ') (kk : V p l e R s m args below meth c D dA bs nL Q σ' (pc + 3) lv rest) : V p l e R s m args below meth c D dA bs nL Q σ pc lv (va_rf x :: va_rf r :: rest) := by
  obtain ⟨a, rfl, ht, rfl⟩ := h_rd e0
  exact h_putO C (Or.inl fl) d ht (h_putR (fun _ => (h_kdW fl).1) (fun h => absurd h (by have := (h_kdW fl).2; omega))) (h_tyR rfl) kk
theorem V_putFI (C : h_C p m c cc nL s args own D dA) (hin : meth.name = "<init>") {idx t k : Nat} (fl : h_FF own idx t k 0) (d : decode cc pc = .ok (.putfield idx, 3)) {r : Option Nat} {x : Int32} {σ' : HS} (e0 : h_pI σ r t k x = some σ') (kk : V p l e R s m args below meth c D dA bs nL Q σ' (pc + 3) lv rest) : V p l e R s m args below meth c D dA bs nL Q σ pc lv (.int x :: va_rf r :: rest) := by
  obtain ⟨a, rfl, ht, rfl⟩ := h_rd e0
  exact h_putO C (Or.inr ⟨fl, hin⟩) d ht (h_putI (fun _ => (h_kdF fl).1) (fun h => absurd h (by have := (h_kdF fl).2; omega))) (h_tyI rfl) kk
theorem V_putFR (C : h_C p m c cc nL s args own D dA) (hin : meth.name = "<init>") {idx t k : Nat} (fl : h_FF own idx t k 1) (d : decode cc pc = .ok (.putfield idx, 3)) {r x : Option Nat} {σ' : HS} (e0 : h_pR σ r t k x = some σ') (kk : V p l e R s m args below meth c D dA bs nL Q σ' (pc + 3) lv rest) : V p l e R s m args below meth c D dA bs nL Q σ pc lv (va_rf x :: va_rf r :: rest) := by
  obtain ⟨a, rfl, ht, rfl⟩ := h_rd e0
  exact h_putO C (Or.inr ⟨fl, hin⟩) d ht (h_putR (fun _ => (h_kdF fl).1) (fun h => absurd h (by have := (h_kdF fl).2; omega))) (h_tyR rfl) kk
end HP1
end
section
/-! ROWS OF THE WALK: what writes, what makes -/
section HP2
variable {p : Program} {l : Launch} {e : Env} {R : Room} {s : State} {m : MethodId} {args : Array Value} {below : List Frame} {meth : Method} {c : Code} {D : va_G} {dA : Nat → ClassId} {bs nL : Nat} {Q : State → Prop} {cc : ByteArray} {own : String} {σ : HS} {pc : Nat} {lv : List (Nat × Value)} {rest : List Value}
-- arrays
theorem h_ar {H : Heap} {a t : Nat} (hg : hG D dA bs σ H) (ht : h_tg σ a = t) (h : 100 ≤ t) : H[a]? = some (arrV (dA (t - 100)) (h_ln σ a) (fun j => h_val (h_ak t) σ a j)) := by
  have := (hg.2.2.2.2.2 a (by omega)).2 (by omega)
  rw [ht] at this
  exact this
theorem h_arr (C : h_C p m c cc nL s args own D dA) {i : Nat} {ty : FieldType} (ht : (h_tys dA)[i]? = some (dA i, ty)) (n : Nat) (z : Nat → Value) : s.isArrayOf (arrV (dA i) n z) ty := (C.2.1.2 i _ ht).1 n z
theorem V_iald (C : h_C p m c cc nL s args own D dA) (d : decode cc pc = .ok (.iaload, 1)) {r : Option Nat} {i x : Int32} (e0 : h_aI σ r 100 i = some x) (kk : V p l e R s m args below meth c D dA bs nL Q σ (pc + 1) lv (.int x :: rest)) : V p l e R s m args below meth c D dA bs nL Q σ pc lv (.int i :: va_rf r :: rest) := fun H locs ls I => by
  obtain ⟨a, rfl, ht, hin, rfl⟩ := h_rdA e0
  have hlt : i.toNatClampNeg < h_ln σ a := Nat.not_le.mp fun q => hin (Or.inr q)
  exact W.iald (v := .int (h_iv σ a i.toNatClampNeg)) C.1.1 C.1.2.1 (h_ar I.1 ht (by omega)) (h_arr C (i := 0) h_ty0 _ _) (fun q => by cases q) (by rw [arrV_size]; exact hin) (by rw [arrV_read _ _ hlt]; rfl) rfl rfl d (kk H locs ls I)
theorem V_lald (C : h_C p m c cc nL s args own D dA) (d : decode cc pc = .ok (.laload, 1)) {r : Option Nat} {i : Int32} {x : Int64} (e0 : h_aL σ r 101 i = some x) (kk : V p l e R s m args below meth c D dA bs nL Q σ (pc + 1) lv (.long x :: rest)) : V p l e R s m args below meth c D dA bs nL Q σ pc lv (.int i :: va_rf r :: rest) := fun H locs ls I => by
  obtain ⟨a, rfl, ht, hin, rfl⟩ := h_rdA e0
  have hlt : i.toNatClampNeg < h_ln σ a := Nat.not_le.mp fun q => hin (Or.inr q)
  exact W.lald (v := .long (h_lv σ a i.toNatClampNeg)) C.1.1 C.1.2.1 (h_ar I.1 ht (by omega)) (h_arr C (i := 1) h_ty1 _ _) (fun q => by cases q) (by rw [arrV_size]; exact hin) (by rw [arrV_read _ _ hlt]; rfl) rfl rfl d (kk H locs ls I)
/-- an array of references: its tag, the tag of its objects -/
def h_AT (t u : Nat) : Prop := 103 ≤ t ∧ 0 < u ∧ u < 100 ∧ ∃ (Cn : String) (T : u_T) (N : Nat), classes[u - 1]? = some (Cn, T, N) ∧ ∀ dA : Nat → ClassId, (h_tys dA)[t - 100]? = some (dA (t - 100), .object Cn)
theorem h_ak1 {t : Nat} (h : 103 ≤ t) : h_ak t = 1 := by
  unfold h_ak
  rw [if_neg (by omega), if_neg (by omega)]
theorem V_aald (C : h_C p m c cc nL s args own D dA) {t u : Nat} (hat : h_AT t u) (d : decode cc pc = .ok (.aaload, 1)) {r : Option Nat} {i : Int32} {x : Option Nat} (e0 : h_aR σ r t i = some x) (kk : V p l e R s m args below meth c D dA bs nL Q σ (pc + 1) lv (va_rf x :: rest)) : V p l e R s m args below meth c D dA bs nL Q σ pc lv (.int i :: va_rf r :: rest) := fun H locs ls I => by
  obtain ⟨a, rfl, ht, hin, rfl⟩ := h_rdA e0
  obtain ⟨h1, -, -, Cn, T, N, h2, h3⟩ := hat
  have hlt : i.toNatClampNeg < h_ln σ a := Nat.not_le.mp fun q => hin (Or.inr q)
  exact W.aald (v := va_rf (h_rv σ a i.toNatClampNeg)) (ty := .object Cn) C.1.1 C.1.2.1 (h_ar I.1 ht (by omega)) (h_arr C (h3 dA) _ _) rfl (fun q => by cases q) (by rw [arrV_size]; exact hin) (by rw [arrV_read _ _ hlt]; simp [h_val, h_ak1 h1]) rfl rfl d (kk H locs ls I)
theorem V_alen (C : h_C p m c cc nL s args own D dA) {t : Nat} {ty : FieldType} (h1 : 100 ≤ t) (h3 : (h_tys dA)[t - 100]? = some (dA (t - 100), ty)) (d : decode cc pc = .ok (.arraylength, 1)) {r : Option Nat} {x : Int32} (e0 : h_len σ r t = some x) (kk : V p l e R s m args below meth c D dA bs nL Q σ (pc + 1) lv (.int x :: rest)) : V p l e R s m args below meth c D dA bs nL Q σ pc lv (va_rf r :: rest) := fun H locs ls I => by
  obtain ⟨a, rfl, ht, rfl⟩ := h_rd e0
  exact W.alen C.1.1 C.1.2.1 (h_ar I.1 ht h1) (h_arr C h3 _ _) (by rw [arrV_size] <;> rfl) rfl rfl d (kk H locs ls I)
end HP2
end
section
/-! ROWS OF THE WALK: what writes, what makes -/
section HP3
variable {p : Program} {l : Launch} {e : Env} {R : Room} {s : State} {m : MethodId} {args : Array Value} {below : List Frame} {meth : Method} {c : Code} {D : va_G} {dA : Nat → ClassId} {bs nL : Nat} {Q : State → Prop} {cc : ByteArray} {own : String} {σ : HS} {pc : Nat} {lv : List (Nat × Value)} {rest : List Value}
theorem h_stA {σ' : HS} {H H1 : Heap} {locs : List Loc} {ls : Array Slot} {a t k : Nat} {v : Value} (I : h_I R s D dA bs nL σ lv H locs ls) (ht : h_tg σ a = t) (h1 : 100 ≤ t) (hp : h_put σ σ' a t k v) (e1 : H1[a]? = some ((arrV (dA (t - 100)) (h_ln σ a) (fun j => h_val (h_ak t) σ a j)).setSlot k v)) (z1 : H1.size = H.size) (o1 : ∀ q, q ≠ a → H1[q]? = H[q]?) : h_I R s D dA bs nL σ' lv H1 (locs ++ [⟨a, k⟩]) ls := by
  refine h_I_put I hp (by omega) (h_ar I.1 ht h1) e1 (k2_slotsz _ _ _) z1 o1 ?_
  intro hne
  have htt : h_tg σ' a = t := by rw [hp.1]; exact ht
  rw [htt]
  refine ⟨fun h => absurd h (by omega), fun _ => ?_⟩
  rw [e1, arrV_store, hp.2.1]
  congr 2
  funext j
  by_cases hj : j = k
  · subst hj
    simp only [updV, if_true]
    exact (hp.2.2.2.2.2.2.2.2.2 h1).symm
  · simp only [updV, hj, if_false]
    exact (hp.2.2.2.2.2.2.2.1 j hj _).symm
theorem V_iast (C : h_C p m c cc nL s args own D dA) (d : decode cc pc = .ok (.iastore, 1)) {r : Option Nat} {i x : Int32} {σ' : HS} (e0 : h_sI σ r 100 i x = some σ') (kk : V p l e R s m args below meth c D dA bs nL Q σ' (pc + 1) lv rest) : V p l e R s m args below meth c D dA bs nL Q σ pc lv (.int x :: .int i :: va_rf r :: rest) := fun H locs ls I => by
  obtain ⟨a, rfl, ht, hin, rfl⟩ := h_rdA e0
  refine W.iast C.1.1 C.1.2.1 (h_ar I.1 ht (by omega)) (h_arr C (i := 0) h_ty0 _ _) (fun q => by cases q) (by rw [arrV_size]; exact hin) rfl rfl d fun H1 e1 z1 o1 => ?_
  exact W.tight (kk H1 _ ls (h_stA I ht (by omega) (h_putI (t := 100) (fun h => absurd h (by omega)) (fun _ => rfl)) e1 z1 o1))
theorem V_last (C : h_C p m c cc nL s args own D dA) (d : decode cc pc = .ok (.lastore, 1)) {r : Option Nat} {i : Int32} {x : Int64} {σ' : HS} (e0 : h_sL σ r 101 i x = some σ') (kk : V p l e R s m args below meth c D dA bs nL Q σ' (pc + 1) lv rest) : V p l e R s m args below meth c D dA bs nL Q σ pc lv (.long x :: .int i :: va_rf r :: rest) := fun H locs ls I => by
  obtain ⟨a, rfl, ht, hin, rfl⟩ := h_rdA e0
  refine W.last C.1.1 C.1.2.1 (h_ar I.1 ht (by omega)) (h_arr C (i := 1) h_ty1 _ _) (fun q => by cases q) (by rw [arrV_size]; exact hin) rfl rfl d fun H1 e1 z1 o1 => ?_
  exact W.tight (kk H1 _ ls (h_stA I ht (by omega) (h_putL (t := 101) (fun h => absurd h (by omega)) (fun _ => rfl)) e1 z1 o1))
theorem V_aast (C : h_C p m c cc nL s args own D dA) {t u : Nat} (hat : h_AT t u) (d : decode cc pc = .ok (.aastore, 1)) {r : Option Nat} {i : Int32} {x : Option Nat} {σ' : HS} (e0 : h_sR σ r t u i x = some σ') (kk : V p l e R s m args below meth c D dA bs nL Q σ' (pc + 1) lv rest) : V p l e R s m args below meth c D dA bs nL Q σ pc lv (va_rf x :: .int i :: va_rf r :: rest) := fun H locs ls I => by
  obtain ⟨a, rfl, hu, hv, rfl⟩ : ∃ a, r = some a ∧ h_ok σ a t i = true ∧ h_fitR σ u x = true ∧ σ' = h_setR σ a i.toNatClampNeg x := by
    cases r with
    | none => cases e0
    | some a =>
      have h' : (if (h_ok σ a t i && h_fitR σ u x) = true then some (h_setR σ a i.toNatClampNeg x) else none) = some σ' := e0
      by_cases hh : (h_ok σ a t i && h_fitR σ u x) = true
      · rw [if_pos hh] at h'
        rw [Bool.and_eq_true] at hh
        exact ⟨a, rfl, hh.1, hh.2, (Option.some.inj h').symm⟩
      · rw [if_neg hh] at h'
        cases h'
  obtain ⟨a9, e9, ht, hin, -⟩ := h_rdA (σ := σ) (r := some a) (t := t) (i := i) (f := fun _ => 0) (x := 0) (by show (if h_ok σ a t i = true then some 0 else none) = some 0; rw [if_pos hu])
  cases e9
  obtain ⟨h1, h0, h5, Cn, T, N, h2, h3⟩ := hat
  have hlt : i.toNatClampNeg < h_ln σ a := Nat.not_le.mp fun q => hin (Or.inr q)
  have hi0 : ¬ i < 0 := fun q => hin (Or.inl q)
  have hput : h_put σ (h_setR σ a i.toNatClampNeg x) a t i.toNatClampNeg (va_rf x) := h_putR (fun h => absurd h (by omega)) (fun _ => h_ak1 h1)
  cases x with
  | none =>
    refine va_WaastN (C := Cn) C.1.1 C.1.2.1 (h_ar I.1 ht (by omega)) (h_arr C (h3 dA) _ _) (fun q => by cases q) (by rw [arrV_size]; exact hin) rfl rfl d fun H1 e1 z1 o1 => ?_
    exact W.tight (kk H1 _ ls (h_stA I ht (by omega) hput e1 z1 o1))
  | some b =>
    have hb : h_tg σ b = u := by simpa [h_fitR] using hv
    obtain ⟨rr, r1, cellV, g1, g2, g3, -⟩ := (I.1.2.2.2.2.2 b (by omega)).1 (by omega)
    rw [hb] at g2
    have hcls := (C.2.1.1 (u - 1) _ h2).2
    obtain ⟨kA, comp, k1, k2, k3, -⟩ := (C.2.1.2 (t - 100) _ (h3 dA)).2
    have hcomp : comp = D.1 (u - 1) := Option.some.inj (k3.symm.trans hcls.1)
    subst hcomp
    obtain ⟨kC, hkC, hkk⟩ := hcls.2
    refine W.aast C.1.1 C.1.2.1 (h_ar I.1 ht (by omega)) (fun q h => by cases h) (fun h => by cases h) k1 k2 rfl hkC ⟨hi0, by rw [arrV_size]; exact hlt⟩ g1 (fun q h => by rw [g3] at h; cases h) (by rw [g2]; exact hkC) (by rw [g2]; exact va_assign hcls) rfl rfl d fun H1 e1 z1 o1 => ?_
    exact W.tight (kk H1 _ ls (h_stA I ht (by omega) hput e1 z1 o1))
end HP3
end
section
/-! ROWS OF THE WALK: what writes, what makes -/
section HP4
variable {p : Program} {l : Launch} {e : Env} {R : Room} {s : State} {m : MethodId} {args : Array Value} {below : List Frame} {meth : Method} {c : Code} {D : va_G} {dA : Nat → ClassId} {bs nL : Nat} {Q : State → Prop} {cc : ByteArray} {own : String} {σ : HS} {pc : Nat} {lv : List (Nat × Value)} {rest : List Value}
theorem V_zald (C : h_C p m c cc nL s args own D dA) (d : decode cc pc = .ok (.baload, 1)) {r : Option Nat} {i x : Int32} (e0 : h_aI σ r 102 i = some x) (kk : V p l e R s m args below meth c D dA bs nL Q σ (pc + 1) lv (.int x :: rest)) : V p l e R s m args below meth c D dA bs nL Q σ pc lv (.int i :: va_rf r :: rest) := fun H locs ls I => by
  obtain ⟨a, rfl, ht, hin, rfl⟩ := h_rdA e0
  have hlt : i.toNatClampNeg < h_ln σ a := Nat.not_le.mp fun q => hin (Or.inr q)
  exact W.zald (v := .int (h_iv σ a i.toNatClampNeg)) C.1.1 C.1.2.1 (h_ar I.1 ht (by omega)) (h_arr C (i := 2) h_ty2 _ _) (fun q => by cases q) (by rw [arrV_size]; exact hin) (by rw [arrV_read _ _ hlt]; rfl) rfl rfl d (kk H locs ls I)
theorem V_zast (C : h_C p m c cc nL s args own D dA) (d : decode cc pc = .ok (.bastore, 1)) {r : Option Nat} {i x : Int32} {σ' : HS} (hx : x = 0 ∨ x = 1) (e0 : h_sI σ r 102 i x = some σ') (kk : V p l e R s m args below meth c D dA bs nL Q σ' (pc + 1) lv rest) : V p l e R s m args below meth c D dA bs nL Q σ pc lv (.int x :: .int i :: va_rf r :: rest) := fun H locs ls I => by
  obtain ⟨a, rfl, ht, hin, rfl⟩ := h_rdA e0
  refine W.zast C.1.1 C.1.2.1 (h_ar I.1 ht (by omega)) (h_arr C (i := 2) h_ty2 _ _) (fun q => by cases q) (by rw [arrV_size]; exact hin) rfl rfl d fun H1 e1 z1 o1 => ?_
  refine W.tight (kk H1 _ ls (h_stA I ht (by omega) (h_putI (t := 102) (fun h => absurd h (by omega)) (fun _ => rfl)) ?_ z1 o1))
  rcases hx with rfl | rfl <;> exact e1
end HP4
end
section
/-! ROWS OF THE WALK: what writes, what makes -/
section HP5
variable {p : Program} {l : Launch} {e : Env} {R : Room} {s : State} {m : MethodId} {args : Array Value} {below : List Frame} {meth : Method} {c : Code} {D : va_G} {dA : Nat → ClassId} {bs nL : Nat} {Q : State → Prop} {cc : ByteArray} {own : String} {σ : HS} {pc : Nat} {lv : List (Nat × Value)} {rest : List Value}
theorem h_mk_some {t n : Nat} {r : Option Nat} {σ' : HS} (h : h_mk σ t n = some (r, σ')) : h_sz σ + 1 ≤ h_cz σ ∧ h_sl σ + n ≤ h_ck σ ∧ r = some (h_sz σ) ∧ σ' = h_push σ t 0 n := by
  unfold h_mk at h
  by_cases hc : h_sz σ + 1 ≤ h_cz σ ∧ h_sl σ + n ≤ h_ck σ
  · rw [if_pos hc] at h
    cases h
    exact ⟨hc.1, hc.2, rfl, rfl⟩
  · rw [if_neg hc] at h
    cases h
theorem h_mkA_some {t : Nat} {n : Int32} {r : Option Nat} {σ' : HS} (h : h_mkA σ t n = some (r, σ')) : ¬ n < 0 ∧ n.toNatClampNeg ≤ 60000000 ∧ h_sz σ + 1 ≤ h_cz σ ∧ h_sl σ + n.toNatClampNeg ≤ h_ck σ ∧ r = some (h_sz σ) ∧ σ' = h_push σ t n.toNatClampNeg n.toNatClampNeg := by
  unfold h_mkA at h
  by_cases hc : ¬ n < 0 ∧ n.toNatClampNeg ≤ 60000000 ∧ h_sz σ + 1 ≤ h_cz σ ∧ h_sl σ + n.toNatClampNeg ≤ h_ck σ
  · rw [if_pos hc] at h
    cases h
    exact ⟨hc.1, hc.2.1, hc.2.2.1, hc.2.2.2, rfl, rfl⟩
  · rw [if_neg hc] at h
    cases h
theorem h_tg_push {t n k : Nat} : h_tg (h_push σ t n k) (h_sz σ) = t := va_up_self _ _ _
theorem h_ln_push {t n k : Nat} : h_ln (h_push σ t n k) (h_sz σ) = n := va_up_self _ _ _
theorem h_val_push {t n k kd j : Nat} : h_val kd (h_push σ t n k) (h_sz σ) j = if kd = 0 then .int 0 else if kd = 1 then va_rf none else .long 0 := by
  simp [h_val, h_push, h_iv, h_rv, h_lv, h_upA]
theorem h_I_push {H : Heap} {locs : List Loc} {ls : Array Slot} {t n k : Nat} {c1 : Cell} (I : h_I R s D dA bs nL σ lv H locs ls) (hk : c1.slots.size = k) (hc1 : h_sz σ + 1 ≤ h_cz σ) (hc2 : h_sl σ + k ≤ h_ck σ) (ha : h_at D dA (h_push σ t n k) H.size (H.push c1)) : h_I R s D dA bs nL (h_push σ t n k) lv (H.push c1) locs ls := by
  have hle : s.heap.size ≤ H.size := I.2.1.1
  refine ⟨hG_push I.1 (Nat.le_trans I.2.2.2.2.2 hle) hk hc1 hc2 ha, ⟨by rw [Array.size_push]; omega, fun q h1 h2 => ?_, I.2.1.2.2⟩, I.2.2⟩
  rw [Array.getElem?_push, if_neg (by omega)]
  exact I.2.1.2.1 q h1 h2
end HP5
end
section
/-! ROWS OF THE WALK: what writes, what makes -/
section HP6
variable {p : Program} {l : Launch} {e : Env} {R : Room} {s : State} {m : MethodId} {args : Array Value} {below : List Frame} {meth : Method} {c : Code} {D : va_G} {dA : Nat → ClassId} {bs nL : Nat} {Q : State → Prop} {cc : ByteArray} {own : String} {σ : HS} {pc : Nat} {lv : List (Nat × Value)} {rest : List Value}
theorem h_I_new (C : h_C p m c cc nL s args own D dA) {t N : Nat} {Cn : String} {T : u_T} (hc : h_CL t Cn T N) {H : Heap} {locs : List Loc} {ls : Array Slot} (I : h_I R s D dA bs nL σ lv H locs ls) (m1 : h_sz σ + 1 ≤ h_cz σ) (m2 : h_sl σ + N ≤ h_ck σ) {kC : Class} (f2 : s.vm.classes[D.1 (t - 1)]? = some kC) (f4 : kC.instanceTypes.size = N) : h_I R s D dA bs nL (h_push σ t 0 N) lv (H.push (blank (D.1 (t - 1)) kC)) locs ls := by
  obtain ⟨t0, t1, hcl, hin, hins, hini, ty0, hty0, hnm, hkt⟩ := hc
  have hts := C.1.2.2.2.2
  have hKn := C.2.1.1 (t - 1) _ hcl
  have hz : H.size = h_sz σ := I.1.1
  refine h_I_push I ?_ m1 m2 ?_
  · rw [← f4]; simp [blank]
  · rw [hz]
    intro hne
    rw [h_tg_push]
    refine ⟨fun _ => ⟨_, hcl, ?_⟩, fun h => absurd h (by omega)⟩
    have e1 : (H.push (blank (D.1 (t - 1)) kC))[h_sz σ]? = some (blank (D.1 (t - 1)) kC) := by
      rw [← hz, Array.getElem?_push_size]
    refine (u_born ty0 hts hin hKn f2 e1 hty0).to (fun k hk => ?_)
    rw [h_val_push]
    rcases hkt k hk with ⟨h1, h2⟩ | ⟨h1, h2⟩ | ⟨h1, h2⟩
    · rw [h1, h2]; rfl
    · rw [h1, h2]; rfl
    · rw [h1]
      revert h2
      cases ty0 k <;> intro h2 <;> first | rfl | (simp [FieldType.isReference] at h2; done)
theorem h_room {H : Heap} {locs : List Loc} {ls : Array Slot} {n : Nat} (I : h_I R s D dA bs nL σ lv H locs ls) (hge : slotSum s.heap ≤ slotSum H) (m1 : h_sz σ + 1 ≤ h_cz σ) (m2 : h_sl σ + n ≤ h_ck σ) : H.size - s.heap.size + 1 ≤ R.cells ∧ slotSum H - slotSum s.heap + n ≤ R.slots := by
  have hz : H.size = h_sz σ := I.1.1
  have hs : slotSum H = h_sl σ := I.1.2.1
  have hle : s.heap.size ≤ H.size := I.2.1.1
  have c1 : s.heap.size + R.cells = h_cz σ := I.2.2.2.1
  have c2 : slotSum s.heap + R.slots = h_ck σ := I.2.2.2.2.1
  omega
theorem V_new (C : h_C p m c cc nL s args own D dA) {idx t N : Nat} {Cn : String} {T : u_T} (hc : h_CL t Cn T N) (hw : Cond.classLink own idx Cn ∈ h_ws) (d : decode cc pc = .ok (.new idx, 3)) {r : Option Nat} {σ' : HS} (e0 : h_mk σ t N = some (r, σ')) (kk : V p l e R s m args below meth c D dA bs nL Q σ' (pc + 3) lv (va_rf r :: rest)) : V p l e R s m args below meth c D dA bs nL Q σ pc lv rest := fun H locs ls I => by
  obtain ⟨m1, m2, hr, hs'⟩ := h_mk_some e0
  have hts := C.1.2.2.2.2
  have hz : H.size = h_sz σ := I.1.1
  have hcC := (C.2.1.1 (t - 1) _ hc.2.2.1).2.1
  intro T0 hT X
  have hge : slotSum s.heap ≤ slotSum H := by rw [← hT]; exact h_sumge X
  obtain ⟨q1, q2⟩ := h_room I hge m1 m2
  have key : W p l e R s m args below meth c H locs (H.size - s.heap.size) (slotSum H - slotSum s.heap) Q (F0 m pc ls rest) := by
    refine W.newc C.1.1 C.1.2.1 C.1.2.2.2.1 (hts _ hw) (hts _ hc.2.2.2.2.1) (hts _ hc.2.2.2.2.2.1) rfl d q1 q2 (fun cC kC f1 f2 f3 f4 => ?_)
    have e : cC = D.1 (t - 1) := Option.some.inj (f1.symm.trans hcC)
    rw [e] at f2 ⊢
    have hV := kk (H.push (blank (D.1 (t - 1)) kC)) locs ls (by rw [hs']; exact h_I_new C hc I m1 m2 f2 f4)
    rw [hr, ← hz] at hV
    exact W.tight hV
  exact key T0 hT X
end HP6
end
section
/-! ROWS OF THE WALK: what writes, what makes -/
section HP7
variable {p : Program} {l : Launch} {e : Env} {R : Room} {s : State} {m : MethodId} {args : Array Value} {below : List Frame} {meth : Method} {c : Code} {D : va_G} {dA : Nat → ClassId} {bs nL : Nat} {Q : State → Prop} {cc : ByteArray} {own : String} {σ : HS} {pc : Nat} {lv : List (Nat × Value)} {rest : List Value}
theorem h_I_arr {t n : Nat} {d : Value} {H : Heap} {locs : List Loc} {ls : Array Slot} (I : h_I R s D dA bs nL σ lv H locs ls) (m1 : h_sz σ + 1 ≤ h_cz σ) (m2 : h_sl σ + n ≤ h_ck σ) (h1 : 100 ≤ t) (hd : (if h_ak t = 0 then Value.int 0 else if h_ak t = 1 then va_rf none else .long 0) = d) : h_I R s D dA bs nL (h_push σ t n n) lv (H.push ({ cls := dA (t - 100), slots := Array.replicate n d, vm := .none } : Cell)) locs ls := by
  have hz : H.size = h_sz σ := I.1.1
  refine h_I_push I (by simp) m1 m2 ?_
  rw [hz]
  intro hne
  rw [h_tg_push]
  refine ⟨fun h => absurd h (by omega), fun _ => ?_⟩
  rw [← hz, Array.getElem?_push_size, hz, h_ln_push, arrV_new]
  congr 2
  funext j
  rw [h_val_push]
  exact hd.symm
theorem V_newI (C : h_C p m c cc nL s args own D dA) (hw : Cond.arrayClass .int ∈ h_ws) (d : decode cc pc = .ok (.newarray .int, 2)) {n : Int32} {r : Option Nat} {σ' : HS} (e0 : h_mkA σ 100 n = some (r, σ')) (kk : V p l e R s m args below meth c D dA bs nL Q σ' (pc + 2) lv (va_rf r :: rest)) : V p l e R s m args below meth c D dA bs nL Q σ pc lv (.int n :: rest) := fun H locs ls I => by
  obtain ⟨m0, m9, m1, m2, hr, hs'⟩ := h_mkA_some e0
  have hts := C.1.2.2.2.2
  have hz : H.size = h_sz σ := I.1.1
  have hcA := (C.2.1.2 0 _ h_ty0).2
  intro T0 hT X
  have hge : slotSum s.heap ≤ slotSum H := by rw [← hT]; exact h_sumge X
  obtain ⟨q1, q2⟩ := h_room I hge m1 m2
  have hby : n.toNatClampNeg * 4 ≤ 536870912 := by omega
  have key : W p l e R s m args below meth c H locs (H.size - s.heap.size) (slotSum H - slotSum s.heap) Q (F0 m pc ls (.int n :: rest)) := by
    refine W.newa (atype := .int) C.1.1 C.1.2.1 (hts _ hw) rfl d rfl m0 hby q1 q2 (fun cA kA comp f1 f2 f3 => ?_)
    have e : cA = dA 0 := Option.some.inj (f1.symm.trans hcA)
    rw [e]
    have hV := kk (H.push ({ cls := dA 0, slots := Array.replicate n.toNatClampNeg (.int 0), vm := .none } : Cell)) locs ls (by rw [hs']; exact h_I_arr (t := 100) I m1 m2 (by decide) rfl)
    rw [hr, ← hz] at hV
    exact W.tight hV
  exact key T0 hT X
theorem V_newL (C : h_C p m c cc nL s args own D dA) (hw : Cond.arrayClass .long ∈ h_ws) (d : decode cc pc = .ok (.newarray .long, 2)) {n : Int32} {r : Option Nat} {σ' : HS} (e0 : h_mkA σ 101 n = some (r, σ')) (kk : V p l e R s m args below meth c D dA bs nL Q σ' (pc + 2) lv (va_rf r :: rest)) : V p l e R s m args below meth c D dA bs nL Q σ pc lv (.int n :: rest) := fun H locs ls I => by
  obtain ⟨m0, m9, m1, m2, hr, hs'⟩ := h_mkA_some e0
  have hts := C.1.2.2.2.2
  have hz : H.size = h_sz σ := I.1.1
  have hcA := (C.2.1.2 1 _ h_ty1).2
  intro T0 hT X
  have hge : slotSum s.heap ≤ slotSum H := by rw [← hT]; exact h_sumge X
  obtain ⟨q1, q2⟩ := h_room I hge m1 m2
  have hby : n.toNatClampNeg * 8 ≤ 536870912 := by omega
  have key : W p l e R s m args below meth c H locs (H.size - s.heap.size) (slotSum H - slotSum s.heap) Q (F0 m pc ls (.int n :: rest)) := by
    refine W.newa (atype := .long) C.1.1 C.1.2.1 (hts _ hw) rfl d rfl m0 hby q1 q2 (fun cA kA comp f1 f2 f3 => ?_)
    have e : cA = dA 1 := Option.some.inj (f1.symm.trans hcA)
    rw [e]
    have hV := kk (H.push ({ cls := dA 1, slots := Array.replicate n.toNatClampNeg (.long 0), vm := .none } : Cell)) locs ls (by rw [hs']; exact h_I_arr (t := 101) I m1 m2 (by decide) rfl)
    rw [hr, ← hz] at hV
    exact W.tight hV
  exact key T0 hT X
theorem V_newZ (C : h_C p m c cc nL s args own D dA) (hw : Cond.arrayClass .boolean ∈ h_ws) (d : decode cc pc = .ok (.newarray .boolean, 2)) {n : Int32} {r : Option Nat} {σ' : HS} (e0 : h_mkA σ 102 n = some (r, σ')) (kk : V p l e R s m args below meth c D dA bs nL Q σ' (pc + 2) lv (va_rf r :: rest)) : V p l e R s m args below meth c D dA bs nL Q σ pc lv (.int n :: rest) := fun H locs ls I => by
  obtain ⟨m0, m9, m1, m2, hr, hs'⟩ := h_mkA_some e0
  have hts := C.1.2.2.2.2
  have hz : H.size = h_sz σ := I.1.1
  have hcA := (C.2.1.2 2 _ h_ty2).2
  intro T0 hT X
  have hge : slotSum s.heap ≤ slotSum H := by rw [← hT]; exact h_sumge X
  obtain ⟨q1, q2⟩ := h_room I hge m1 m2
  have hby : n.toNatClampNeg * 1 ≤ 536870912 := by omega
  have key : W p l e R s m args below meth c H locs (H.size - s.heap.size) (slotSum H - slotSum s.heap) Q (F0 m pc ls (.int n :: rest)) := by
    refine W.newa (atype := .boolean) C.1.1 C.1.2.1 (hts _ hw) rfl d rfl m0 hby q1 q2 (fun cA kA comp f1 f2 f3 => ?_)
    have e : cA = dA 2 := Option.some.inj (f1.symm.trans hcA)
    rw [e]
    have hV := kk (H.push ({ cls := dA 2, slots := Array.replicate n.toNatClampNeg (.int 0), vm := .none } : Cell)) locs ls (by rw [hs']; exact h_I_arr (t := 102) I m1 m2 (by decide) rfl)
    rw [hr, ← hz] at hV
    exact W.tight hV
  exact key T0 hT X
theorem V_anew (C : h_C p m c cc nL s args own D dA) {idx t u : Nat} {Cn : String} {T : u_T} {N : Nat} (h1 : 103 ≤ t) (hcl : classes[u - 1]? = some (Cn, T, N)) (h3 : (h_tys dA)[t - 100]? = some (dA (t - 100), .object Cn)) (hw : Cond.classLink own idx Cn ∈ h_ws) (hw2 : Cn ∈ h_aos) (d : decode cc pc = .ok (.anewarray idx, 3)) {n : Int32} {r : Option Nat} {σ' : HS} (e0 : h_mkA σ t n = some (r, σ')) (kk : V p l e R s m args below meth c D dA bs nL Q σ' (pc + 3) lv (va_rf r :: rest)) : V p l e R s m args below meth c D dA bs nL Q σ pc lv (.int n :: rest) := fun H locs ls I => by
  obtain ⟨m0, m9, m1, m2, hr, hs'⟩ := h_mkA_some e0
  have hts := C.1.2.2.2.2
  have hz : H.size = h_sz σ := I.1.1
  obtain ⟨kA', comp', -, -, -, hcA⟩ := (C.2.1.2 (t - 100) _ h3).2
  intro T0 hT X
  have hge : slotSum s.heap ≤ slotSum H := by rw [← hT]; exact h_sumge X
  obtain ⟨q1, q2⟩ := h_room I hge m1 m2
  have hby : n.toNatClampNeg * 4 ≤ 536870912 := by omega
  have key : W p l e R s m args below meth c H locs (H.size - s.heap.size) (slotSum H - slotSum s.heap) Q (F0 m pc ls (.int n :: rest)) := by
    refine W.anew C.1.1 C.1.2.1 C.1.2.2.2.1 (hts _ hw) (va_AO.use (C.2.2 Cn hw2)) rfl d rfl m0 hby q1 q2 (fun cA kA comp f1 f2 f3 f4 => ?_)
    have e : cA = dA (t - 100) := Option.some.inj (f1.symm.trans hcA)
    rw [e]
    have hV := kk (H.push ({ cls := dA (t - 100), slots := Array.replicate n.toNatClampNeg .null, vm := .none } : Cell)) locs ls (by rw [hs']; exact h_I_arr (t := t) I m1 m2 (by omega) (by rw [h_ak1 h1]; rfl))
    rw [hr, ← hz] at hV
    exact W.tight hV
  exact key T0 hT X
end HP7
end
section
/-! ROWS OF THE WALK: what writes, what makes -/
section HP9
variable {p : Program} {l : Launch} {e : Env} {R : Room} {s : State} {m : MethodId} {args : Array Value} {below : List Frame} {meth : Method} {c : Code} {D : va_G} {dA : Nat → ClassId} {bs nL : Nat} {Q : State → Prop} {cc : ByteArray} {own : String} {σ : HS} {pc : Nat} {lv : List (Nat × Value)} {rest : List Value}
theorem h_setA_val {a : Nat} {g : Nat → Int32} : (∀ b, b ≠ a → ∀ kd j, h_val kd (h_setA σ a g) b j = h_val kd σ b j) ∧ ∀ j, h_val 0 (h_setA σ a g) a j = .int (g j) := by
  refine ⟨fun b hb kd j => ?_, fun j => ?_⟩
  · simp [h_val, h_setA, h_iv, h_rv, h_lv, h_upA, hb]
  · simp [h_val, h_setA, h_iv, h_upA]
theorem V_copyI (C : h_C p m c cc nL s args own D dA) {idx : Nat} (hlink : Cond.methodLink own idx arraycopyName ∈ h_ws) (hnat : Cond.native arraycopyName ∈ h_ws) (hstat : Cond.static arraycopyName ∈ h_ws) (hini : Cond.initialized "java/lang/System" ∈ h_ws) (hframes : 1 ≤ R.frames) (hlocals : (rest.map fun v => v.category).sum + (nativeFrameWords "java/lang/System" "arraycopy" 5 + 11) ≤ R.locals) (d : decode cc pc = .ok (.invokestatic idx, 3)) {rs rd : Option Nat} {sp dp n : Int32} {σ' : HS} (e0 : h_cpI σ rs sp rd dp n = some σ') (kk : V p l e R s m args below meth c D dA bs nL Q σ' (pc + 3) lv rest) : V p l e R s m args below meth c D dA bs nL Q σ pc lv (.int n :: .int dp :: va_rf rd :: .int sp :: va_rf rs :: rest) := fun H locs ls I => by
  obtain ⟨a0, a, rfl, rfl, ⟨ta0, ta, h1, h2, h3, h4, h5⟩, rfl⟩ : ∃ a b, rs = some a ∧ rd = some b ∧ (h_tg σ a = 100 ∧ h_tg σ b = 100 ∧ ¬ sp < 0 ∧ ¬ dp < 0 ∧ ¬ n < 0 ∧ sp.toNatClampNeg + n.toNatClampNeg ≤ h_ln σ a ∧ dp.toNatClampNeg + n.toNatClampNeg ≤ h_ln σ b) ∧ σ' = h_setA σ b (va_cpy (h_iv σ a) (h_iv σ b) sp.toNatClampNeg dp.toNatClampNeg n.toNatClampNeg) := by
    cases rs with
    | none => cases e0
    | some a =>
      cases rd with
      | none => cases e0
      | some b =>
        have h' : (if h_tg σ a = 100 ∧ h_tg σ b = 100 ∧ ¬ sp < 0 ∧ ¬ dp < 0 ∧ ¬ n < 0 ∧ sp.toNatClampNeg + n.toNatClampNeg ≤ h_ln σ a ∧ dp.toNatClampNeg + n.toNatClampNeg ≤ h_ln σ b then some (h_setA σ b (va_cpy (h_iv σ a) (h_iv σ b) sp.toNatClampNeg dp.toNatClampNeg n.toNatClampNeg)) else none) = some σ' := e0
        by_cases hh : h_tg σ a = 100 ∧ h_tg σ b = 100 ∧ ¬ sp < 0 ∧ ¬ dp < 0 ∧ ¬ n < 0 ∧ sp.toNatClampNeg + n.toNatClampNeg ≤ h_ln σ a ∧ dp.toNatClampNeg + n.toNatClampNeg ≤ h_ln σ b
        · rw [if_pos hh] at h'
          exact ⟨a, b, rfl, rfl, hh, (Option.some.inj h').symm⟩
        · rw [if_neg hh] at h'
          cases h'
  have hts := C.1.2.2.2.2
  have nn : ∀ z : Int32, ¬ z < 0 → z.toInt = (z.toNatClampNeg : Int) := by
    intro z hz
    have hz0 : (0 : Int) ≤ z.toInt := by
      have := Int32.not_lt.mp hz
      simpa using Int32.le_iff_toInt_le.mp this
    show z.toInt = ((z.toInt.toNat : Nat) : Int)
    omega
  have hc0 : H[a0]? = some (vp_cell (dA 0) (h_ln σ a0, .inl (h_iv σ a0))) := h_ar I.1 ta0 (by omega)
  have hc1 : H[a]? = some (vp_cell (dA 0) (h_ln σ a, .inl (h_iv σ a))) := h_ar I.1 ta (by omega)
  obtain ⟨-, k0, hk0, cm0, hkk0⟩ := (C.2.1.2 0 _ h_ty0).1 (h_ln σ a0) (fun j => .int (h_iv σ a0 j))
  obtain ⟨-, k1, hk1, cm1, hkk1⟩ := (C.2.1.2 0 _ h_ty0).1 (h_ln σ a) (fun j => .int (h_iv σ a j))
  intro T hT X
  obtain ⟨vm', X', step⟩ := X.arraycopy C.1.1 C.1.2.2.2.1 (hts _ hlink) (hts _ hnat) (hts _ hstat) (hts _ hini) (src := a0) (dst := a) (cs := vp_cell (dA 0) (h_ln σ a0, .inl (h_iv σ a0))) (cd := vp_cell (dA 0) (h_ln σ a, .inl (h_iv σ a))) (srcPos := sp) (destPos := dp) (n := n) (by rw [hT]; exact hc0) (by rw [hT]; exact hc1)
    (fun _ h => by cases h) (fun _ h => by cases h) (fun h => by cases h) (fun h => by cases h) hk0 hk1 hkk0 hkk1 (by simp [refKind]) h1 h2 h3
    (by rw [nn sp h1, nn n h3]; show ¬ _ > ((arrV (dA 0) (h_ln σ a0) (fun j => .int (h_iv σ a0 j))).slots.size : Int); rw [arrV_size]; omega)
    (by rw [nn dp h2, nn n h3]; show ¬ _ > ((arrV (dA 0) (h_ln σ a) (fun j => .int (h_iv σ a j))).slots.size : Int); rw [arrV_size]; omega)
    (fun vm₁ _ i hi => by
      have e : (vp_cell (dA 0) (h_ln σ a0, .inl (h_iv σ a0))).slots.getD (sp.toNatClampNeg + i) .null = .int (h_iv σ a0 (sp.toNatClampNeg + i)) := by
        show (arrV (dA 0) (h_ln σ a0) (fun j => .int (h_iv σ a0 j))).slots.getD _ _ = _
        rw [Array.getD_eq_getD_getElem?, arrV_read _ _ (by omega)]
        rfl
      refine ⟨?_, ?_⟩
      · rw [e]
        rfl
      · rw [e]
        exact trivial)
    (g := F0 m pc ls (.int n :: .int dp :: .ref a :: .int sp :: .ref a0 :: rest)) rfl (by rw [C.1.2.2.1]; exact I.2.2.1.1.1) (rest := rest) rfl (by rw [C.1.2.1]; exact d) hframes (by show 2 * 0 + _ + _ ≤ _; omega)
  have e1 : copied (vp_cell (dA 0) (h_ln σ a0, .inl (h_iv σ a0))) (vp_cell (dA 0) (h_ln σ a, .inl (h_iv σ a))) sp dp n = vp_cell (dA 0) (h_ln σ a, .inl (va_cpy (h_iv σ a0) (h_iv σ a) sp.toNatClampNeg dp.toNatClampNeg n.toNatClampNeg)) := va_copied (fun z => .int z) (dA 0) (dA 0) (h_iv σ a0) (h_iv σ a) h4
  rw [e1] at X' step
  have hl : a < H.size := (Array.getElem?_eq_some_iff.mp hc1).1
  have hheap : ((T.setVm vm').setCell a (vp_cell (dA 0) (h_ln σ a, .inl (va_cpy (h_iv σ a0) (h_iv σ a) sp.toNatClampNeg dp.toNatClampNeg n.toNatClampNeg)))).heap = H.setIfInBounds a (vp_cell (dA 0) (h_ln σ a, .inl (va_cpy (h_iv σ a0) (h_iv σ a) sp.toNatClampNeg dp.toNatClampNeg n.toNatClampNeg))) := by rw [← hT]; rfl
  generalize hH1 : H.setIfInBounds a (vp_cell (dA 0) (h_ln σ a, .inl (va_cpy (h_iv σ a0) (h_iv σ a) sp.toNatClampNeg dp.toNatClampNeg n.toNatClampNeg))) = H1 at hheap
  have oq : ∀ q : Nat, q ≠ a → H1[q]? = H[q]? := fun q hq => by rw [← hH1]; simp [Array.getElem?_setIfInBounds, Ne.symm hq]
  have z1 : H1.size = H.size := by rw [← hH1]; simp
  have ea : H1[a]? = some (vp_cell (dA 0) (h_ln σ a, .inl (va_cpy (h_iv σ a0) (h_iv σ a) sp.toNatClampNeg dp.toNatClampNeg n.toNatClampNeg))) := by rw [← hH1]; simp [Array.getElem?_setIfInBounds, hl]
  have hsv := h_setA_val (σ := σ) (a := a) (g := va_cpy (h_iv σ a0) (h_iv σ a) sp.toNatClampNeg dp.toNatClampNeg n.toNatClampNeg)
  have I' : ∀ L' : List Loc, (∀ q ∈ L', q.base = a) → h_I R s D dA bs nL (h_setA σ a (va_cpy (h_iv σ a0) (h_iv σ a) sp.toNatClampNeg dp.toNatClampNeg n.toNatClampNeg)) lv H1 (locs ++ L') ls := by
    intro L' hL'
    refine ⟨hG_set I.1 rfl rfl rfl rfl rfl rfl hsv.1 hc1 ea (by rw [vp_cell_i, vp_cell_i, arrV_size, arrV_size]) z1 oq ?_, ⟨by rw [z1]; exact I.2.1.1, fun q g1 g2 => ?_, fun q hq => ?_⟩, I.2.2.1, I.2.2.2⟩
    · intro hne
      have htt : h_tg (h_setA σ a (va_cpy (h_iv σ a0) (h_iv σ a) sp.toNatClampNeg dp.toNatClampNeg n.toNatClampNeg)) a = 100 := ta
      rw [htt]
      refine ⟨fun h => absurd h (by omega), fun _ => ?_⟩
      rw [ea, vp_cell_i]
      congr 2
      funext j
      exact (hsv.2 j).symm
    · rw [oq q (fun e => g2 (by rw [e]; exact I.1.2.2.2.2.1 a (by omega)))]
      exact I.2.1.2.1 q g1 g2
    · rcases List.mem_append.mp hq with h | h
      · exact I.2.1.2.2 q h
      · rw [hL' q h]
        exact I.1.2.2.2.2.1 a (by omega)
  obtain ⟨t, a1, b1⟩ := W.tight (kk H1 _ ls (I' _ (fun q hq => by obtain ⟨z, -, hz⟩ := List.mem_map.mp hq; rw [← hz]))) _ hheap X'
  exact ⟨t, step t a1, b1⟩
end HP9
end
section
/-! ROWS OF THE WALK: what writes, what makes -/
section HP10
variable {p : Program} {l : Launch} {e : Env} {R : Room} {s : State} {m : MethodId} {args : Array Value} {below : List Frame} {meth : Method} {c : Code} {D : va_G} {dA : Nat → ClassId} {bs nL : Nat} {Q : State → Prop} {cc : ByteArray} {own : String} {σ : HS} {pc : Nat} {lv : List (Nat × Value)} {rest : List Value}
theorem V_objInit (C : h_C p m c cc nL s args own D dA) {idx : Nat} (w1 : Cond.methodLink own idx Lib.objectInit ∈ h_ws) (w2 : Cond.instanceMethod Lib.objectInit ∈ h_ws) (w3 : Cond.code Lib.objectInit ⟨#[0xb1]⟩ 1 none ∈ h_ws) (d : decode cc pc = .ok (.invokespecial idx, 3)) {r : Option Nat} {a : Nat} (hr : r = some a) (hf : 1 ≤ R.frames) (hl : (rest.map fun v => v.category).sum + 12 ≤ R.locals) (kk : V p l e R s m args below meth c D dA bs nL Q σ (pc + 3) lv rest) : V p l e R s m args below meth c D dA bs nL Q σ pc lv (va_rf r :: rest) := fun H locs ls I => by
  subst hr
  have hts := C.1.2.2.2.2
  refine W.objInit C.1.1 C.1.2.1 C.1.2.2.2.1 (hts _ w1) (hts _ w2) (hts _ w3) rfl (by rw [C.1.2.2.1]; exact I.2.2.1.1.1) rfl d hf (by show 2 * 0 + _ + _ ≤ _; omega) ?_
  exact kk H locs ls I
end HP10
end
section
/-! CONTRACTS: a method from σ to σ', its answer; calls, returns -/
def h_rm (F L : Nat) (σ : HS) : Room := { frames := F, cells := h_cz σ - h_sz σ, slots := h_ck σ - h_sl σ, locals := L }
def h_Pc (D : va_G) (dA : Nat → ClassId) (bs : Nat) (σ : HS) (av : List Value) : Array Value → State → Prop := va_Pc av (fun U => hG D dA bs σ U.heap ∧ h_K D dA U ∧ bs ≤ U.heap.size)
def h_Q (D : va_G) (dA : Nat → ClassId) (bs : Nat) (rv : Option Value) (σ σ' : HS) : Array Value → State → Outcome → State → Prop := fun _ st o t => o = .returned rv ∧ hG D dA bs σ' t.heap ∧ va_F (fun q => bs ≤ q) st t ∧ h_cz σ' = h_cz σ ∧ h_ck σ' = h_ck σ
def MetC (l : Launch) (y : MethodName) (cc : ByteArray) (maxL : Nat) (ret : Option FieldType) (F L : Nat) (D : va_G) (dA : Nat → ClassId) (bs : Nat) (av : List Value) (rv : Option Value) (σ σ' : HS) : Prop :=
  Met l y (Cond.code y cc maxL ret :: h_ws) (h_rm F L σ) (h_Pc D dA bs σ av) (h_Q D dA bs rv σ σ') (h_cz σ - h_sz σ) (h_ck σ - h_sl σ) (fun q => bs ≤ q)
theorem h_blind {D : va_G} {dA : Nat → ClassId} {bs : Nat} {σ : HS} {av : List Value} : FrameBlind (h_Pc D dA bs σ av) := fun a U g mk q => ⟨q.1, q.2.1, h_K.moved (u := U) (U := U.calling g mk a) (Vm.Alike.refl U.vm) q.2.2.1, q.2.2.2⟩
theorem h_goodIn {y : MethodName} {cc : ByteArray} {maxL : Nat} {ret : Option FieldType} (h : Cond.code y cc maxL ret ∈ h_ws) : GoodIn h_ws (Cond.code y cc maxL ret :: h_ws) := by
  intro w hw
  rcases List.mem_cons.mp hw with e | e
  · rw [e]; exact ⟨h, good_of_word (h_ws_good _ h)⟩
  · exact ⟨e, good_of_word (h_ws_good _ e)⟩
def h_rcv (σ : HS) (r : Option Nat) (t : Nat) : Option Nat := r.bind fun a => if h_tg σ a = t then some a else none
def h_MY (y : MethodName) (n : Nat) : Prop := y.cls ≠ "java/lang/invoke/MethodHandle" ∧ y.cls ≠ "java/lang/invoke/VarHandle" ∧ (parseMethodDescriptor y.desc).map (fun d => d.parameters.length) = some n
/-- the words of a call: by the receiver; static; of a constructor -/
def h_MV (own : String) (idx t : Nat) (y : MethodName) (bytes : ByteArray) (maxL : Nat) (ret : Option FieldType) (n : Nat) : Prop := (∃ (T : u_T) (N : Nat), h_CL t y.cls T N) ∧ h_MY y n ∧ Cond.methodLink own idx y ∈ h_ws ∧ Cond.instanceMethod y ∈ h_ws ∧ Cond.selects y.cls y y ∈ h_ws ∧ Cond.code y bytes maxL ret ∈ h_ws
def h_MS (own : String) (idx : Nat) (y : MethodName) (bytes : ByteArray) (maxL : Nat) (ret : Option FieldType) (n : Nat) : Prop := h_MY y n ∧ Cond.methodLink own idx y ∈ h_ws ∧ Cond.static y ∈ h_ws ∧ Cond.initialized y.cls ∈ h_ws ∧ Cond.code y bytes maxL ret ∈ h_ws
def h_MI (own : String) (idx : Nat) (y : MethodName) (bytes : ByteArray) (maxL : Nat) (n : Nat) : Prop := y.name = "<init>" ∧ h_MY y n ∧ Cond.methodLink own idx y ∈ h_ws ∧ Cond.instanceMethod y ∈ h_ws ∧ Cond.initialized y.cls ∈ h_ws ∧ Cond.code y bytes maxL none ∈ h_ws
/-- what a body knows of its method and its room -/
def h_B (R : Room) (s : State) (meth : Method) (σ : HS) (ret : Option FieldType) (F L : Nat) : Prop := meth.sig.returnType = ret ∧ meth.locks = false ∧ s.heap.size + R.cells = h_cz σ ∧ slotSum s.heap + R.slots = h_ck σ ∧ R.frames = F ∧ R.locals = L
def h_args : Nat → List Value → List (Nat × Value)
  | _, [] => []
  | n, v :: l => (n, v) :: h_args (n + 1) l
section HC
variable {p : Program} {l : Launch} {e : Env} {R : Room} {s : State} {m : MethodId} {args : Array Value} {below : List Frame} {meth : Method} {c : Code} {D : va_G} {dA : Nat → ClassId} {bs nL : Nat} {Q : State → Prop} {cc : ByteArray} {own : String} {σ σ' : HS} {pc : Nat} {lv : List (Nat × Value)} {rest st0 : List Value}
theorem V_run {rv : Option Value} {a : Array Value} (hr : ∀ H locs ls, h_I R s D dA bs nL σ lv H locs ls → slotSum s.heap ≤ slotSum H → va_Run p l e R s m args below meth c H locs (H.size - s.heap.size) (slotSum H - slotSum s.heap) (h_cz σ - h_sz σ) (h_ck σ - h_sl σ) (F0 m pc ls st0) rest (h_Q D dA bs rv σ σ' a) (fun q => bs ≤ q))
    (kk : V p l e R s m args below meth c D dA bs nL Q σ' (pc + 3) lv (rv.toList ++ rest)) : V p l e R s m args below meth c D dA bs nL Q σ pc lv st0 := fun H locs ls I => by
  intro T hT X
  have hge : slotSum s.heap ≤ slotSum H := by rw [← hT]; exact h_sumge X
  obtain ⟨v, st₀, t, T', L, h0, X', hL, e1, e2, ⟨ho, hg', hF', hcz, hck⟩, st⟩ := hr H locs ls I hge T hT X
  cases ho
  rw [← e1] at hg'
  have hz : st₀.heap.size ≤ t.heap.size := hF'.1
  have hk := hF'.2
  rw [h0] at hz hk
  have I' : h_I R s D dA bs nL σ' lv T'.heap (locs ++ L) ls := by
    refine ⟨hg', ⟨Nat.le_trans I.2.1.1 (by rw [e1]; exact hz), fun q h1 h2 => ?_, fun q hq => ?_⟩, I.2.2.1, by rw [hcz]; exact I.2.2.2.1, by rw [hck]; exact I.2.2.2.2.1, I.2.2.2.2.2⟩
    · rw [e1, hk q (Nat.lt_of_lt_of_le h1 I.2.1.1) h2]
      exact I.2.1.2.1 q h1 h2
    · rcases List.mem_append.mp hq with h | h
      · exact I.2.1.2.2 q h
      · exact hL q h
  obtain ⟨t2, a1, b1⟩ := W.tight (kk T'.heap _ ls I') T' rfl X'
  exact ⟨t2, st t2 a1, b1⟩
theorem h_fit {H : Heap} {locs : List Loc} {ls : Array Slot} (I : h_I R s D dA bs nL σ lv H locs ls) (hge : slotSum s.heap ≤ slotSum H) : H.size - s.heap.size + (h_cz σ - h_sz σ) ≤ R.cells ∧ slotSum H - slotSum s.heap + (h_ck σ - h_sl σ) ≤ R.slots := by
  have h1 : H.size = h_sz σ := I.1.1
  have h2 : slotSum H = h_sl σ := I.1.2.1
  have h3 : h_sz σ ≤ h_cz σ := I.1.2.2.1
  have h4 : h_sl σ ≤ h_ck σ := I.1.2.2.2.1
  have h5 : s.heap.size ≤ H.size := I.2.1.1
  have h6 : s.heap.size + R.cells = h_cz σ := I.2.2.2.1
  have h7 : slotSum s.heap + R.slots = h_ck σ := I.2.2.2.2.1
  omega
theorem h_pre {H : Heap} {locs : List Loc} {ls : Array Slot} {av : List Value} (C : h_C p m c cc nL s args own D dA) (I : h_I R s D dA bs nL σ lv H locs ls) : ∀ U : State, U.heap = H → s.WarmedH U.vm → h_Pc D dA bs σ av av.toArray U := by
  intro U hU hW
  refine ⟨rfl, by rw [hU]; exact I.1, h_K.moved hW.alike C.2, ?_⟩
  rw [hU]
  exact Nat.le_trans I.2.2.2.2.2 I.2.1.1
theorem h_rcv_some {r : Option Nat} {t a : Nat} (h : h_rcv σ r t = some a) : r = some a ∧ h_tg σ a = t := by
  obtain ⟨b, h1, h2, h3⟩ := h_rd (f := fun a => a) h
  subst h3
  exact ⟨h1, h2⟩
theorem V_cV (C : h_C p m c cc nL s args own D dA) {idx t maxL n F L a : Nat} {y : MethodName} {bytes : ByteArray} {ret : Option FieldType} {rv : Option Value} {As : List Value} {r : Option Nat} (ml : h_MV own idx t y bytes maxL ret n) (hM : MetC l y bytes maxL ret F L D dA bs (va_rf r :: As) rv σ σ') (hr : h_rcv σ r t = some a) (hn : As.length = n) (hst : st0 = As.reverse ++ va_rf r :: rest) (hW : (rest.map fun v => v.category).sum ≤ 8) (hF : F + 1 ≤ R.frames) (hL : 8 + (maxL + 11) + L ≤ R.locals) (d : decode cc pc = .ok (.invokevirtual idx, 3))
    (kk : V p l e R s m args below meth c D dA bs nL Q σ' (pc + 3) lv (rv.toList ++ rest)) : V p l e R s m args below meth c D dA bs nL Q σ pc lv st0 := by
  obtain ⟨⟨T, N, hc⟩, hy, w1, w2, w3, w4⟩ := ml
  obtain ⟨rfl, hta⟩ := h_rcv_some hr
  have hts := C.1.2.2.2.2
  refine V_run (a := (Value.ref a :: As).toArray) (fun H locs ls I hge => ?_) kk
  refine va_runV (C := y.cls) (bytes := bytes) (maxL := maxL) (ret := ret) (n := n) (b := a) C.1 hM ⟨callB_of n hts (h_goodIn w4) rfl rfl rfl (hts _ hc.2.2.2.2.2.1) (hts _ w1) hy ⟨hF, hL⟩, hts _ w2, hts _ w3⟩ ⟨h_blind, ?_, h_pre C I⟩ rfl hn I.2.2.1.1.1 hst (lv_room hW) d (h_fit I hge)
  exact va_recv C.2.1 (h_ob I.1 hc hta) hc.2.2.1 (q0 := 0) rfl
theorem V_cS (C : h_C p m c cc nL s args own D dA) {idx maxL n F L : Nat} {y : MethodName} {bytes : ByteArray} {ret : Option FieldType} {rv : Option Value} {As : List Value} (ml : h_MS own idx y bytes maxL ret n) (hM : MetC l y bytes maxL ret F L D dA bs As rv σ σ') (hn : As.length = n) (hst : st0 = As.reverse ++ rest) (hW : (rest.map fun v => v.category).sum ≤ 8) (hF : F + 1 ≤ R.frames) (hL : 8 + (maxL + 11) + L ≤ R.locals) (d : decode cc pc = .ok (.invokestatic idx, 3))
    (kk : V p l e R s m args below meth c D dA bs nL Q σ' (pc + 3) lv (rv.toList ++ rest)) : V p l e R s m args below meth c D dA bs nL Q σ pc lv st0 := by
  obtain ⟨hy, w1, w2, w3, w4⟩ := ml
  have hts := C.1.2.2.2.2
  refine V_run (a := As.toArray) (fun H locs ls I hge => ?_) kk
  exact va_runS (bytes := bytes) (maxL := maxL) (ret := ret) (n := n) C.1 hM ⟨callB_of n hts (h_goodIn w4) rfl rfl rfl (hts _ w3) (hts _ w1) hy ⟨hF, hL⟩, hts _ w2⟩ ⟨h_blind, h_pre C I⟩ rfl hn I.2.2.1.1.1 hst (lv_room hW) d (h_fit I hge)
theorem V_cI (C : h_C p m c cc nL s args own D dA) {idx t maxL n F L a : Nat} {y : MethodName} {bytes : ByteArray} {As : List Value} {r : Option Nat} (ml : h_MI own idx y bytes maxL n) (hM : MetC l y bytes maxL none F L D dA bs (va_rf r :: As) none σ σ') (hr : h_rcv σ r t = some a) (hn : As.length = n) (hst : st0 = As.reverse ++ va_rf r :: rest) (hW : (rest.map fun v => v.category).sum ≤ 8) (hF : F + 1 ≤ R.frames) (hL : 8 + (maxL + 11) + L ≤ R.locals) (d : decode cc pc = .ok (.invokespecial idx, 3))
    (kk : V p l e R s m args below meth c D dA bs nL Q σ' (pc + 3) lv rest) : V p l e R s m args below meth c D dA bs nL Q σ pc lv st0 := by
  obtain ⟨hy1, hy, w1, w2, w3, w4⟩ := ml
  obtain ⟨rfl, hta⟩ := h_rcv_some hr
  have hts := C.1.2.2.2.2
  refine V_run (rv := none) (a := (Value.ref a :: As).toArray) (fun H locs ls I hge => ?_) kk
  exact va_runI (bytes := bytes) (maxL := maxL) (n := n) (b := a) C.1 hM ⟨callB_of n hts (h_goodIn w4) rfl rfl rfl (hts _ w3) (hts _ w1) hy ⟨hF, hL⟩, hy1, hts _ w2⟩ ⟨h_blind, h_pre C I⟩ rfl hn I.2.2.1.1.1 hst (lv_room hW) d (h_fit I hge)
-- returns
theorem h_end {σ0 : HS} {rv : Option Value} {ret : Option FieldType} {F L : Nat} {H : Heap} {locs : List Loc} {ls : Array Slot} (B : h_B R s meth σ0 ret F L) (I : h_I R s D dA bs nL σ lv H locs ls) : ∀ t : State, t.heap = H → s.WarmedH t.vm → h_Q D dA bs rv σ0 σ args s (.returned rv) t := by
  intro t ht hW
  exact ⟨rfl, by rw [ht]; exact I.1, I.2.1.F ht, by rw [← I.2.2.2.1, ← B.2.2.1], by rw [← I.2.2.2.2.1, ← B.2.2.2.1]⟩
theorem h_wid {H : Heap} {locs : List Loc} {ls : Array Slot} (I : h_I R s D dA bs nL σ lv H locs ls) : H.size - s.heap.size ≤ R.cells ∧ slotSum H - slotSum s.heap ≤ R.slots := by
  have h1 : H.size = h_sz σ := I.1.1
  have h2 : slotSum H = h_sl σ := I.1.2.1
  have h3 : h_sz σ ≤ h_cz σ := I.1.2.2.1
  have h4 : h_sl σ ≤ h_ck σ := I.1.2.2.2.1
  have h6 : s.heap.size + R.cells = h_cz σ := I.2.2.2.1
  have h7 : slotSum s.heap + R.slots = h_ck σ := I.2.2.2.2.1
  omega
theorem V_iret (C : h_C p m c cc nL s args own D dA) {σ0 : HS} {F L : Nat} {v : Int32} (B : h_B R s meth σ0 (some .int) F L) (d : decode cc pc = .ok (.ireturn, 1)) : V p l e R s m args below meth c D dA bs nL (MQ below (h_Q D dA bs (some (.int v)) σ0 σ) args s R.cells R.slots (fun q => bs ≤ q)) σ pc lv [.int v] := fun H locs ls I =>
  W.widen (h_wid I).1 (h_wid I).2 (W.iret C.1.1 C.1.2.1 B.1 (h_end B I) I.2.1.2.2 d B.2.1)
theorem V_zret (C : h_C p m c cc nL s args own D dA) {σ0 : HS} {F L : Nat} {v : Int32} (B : h_B R s meth σ0 (some .boolean) F L) (d : decode cc pc = .ok (.ireturn, 1)) (hv : v = 0 ∨ v = 1) : V p l e R s m args below meth c D dA bs nL (MQ below (h_Q D dA bs (some (.int v)) σ0 σ) args s R.cells R.slots (fun q => bs ≤ q)) σ pc lv [.int v] := fun H locs ls I =>
  W.widen (h_wid I).1 (h_wid I).2 (W.zret C.1.1 C.1.2.1 B.1 (by rcases hv with rfl | rfl <;> rfl) (h_end B I) I.2.1.2.2 d B.2.1)
theorem V_vret (C : h_C p m c cc nL s args own D dA) {σ0 : HS} {F L : Nat} (B : h_B R s meth σ0 none F L) (d : decode cc pc = .ok (.return_, 1)) : V p l e R s m args below meth c D dA bs nL (MQ below (h_Q D dA bs none σ0 σ) args s R.cells R.slots (fun q => bs ≤ q)) σ pc lv [] := fun H locs ls I =>
  W.widen (h_wid I).1 (h_wid I).2 (W.vret C.1.1 C.1.2.1 B.1 (h_end B I) I.2.1.2.2 d B.2.1)
theorem V_aret (C : h_C p m c cc nL s args own D dA) {σ0 : HS} {F L : Nat} {v : Option Nat} {Cn : String} (B : h_B R s meth σ0 (some (.object Cn)) F L) (d : decode cc pc = .ok (.areturn, 1)) : V p l e R s m args below meth c D dA bs nL (MQ below (h_Q D dA bs (some (va_rf v)) σ0 σ) args s R.cells R.slots (fun q => bs ≤ q)) σ pc lv [va_rf v] := fun H locs ls I =>
  W.widen (h_wid I).1 (h_wid I).2 (W.aret C.1.1 C.1.2.1 B.1 (Or.inl ⟨_, rfl⟩) (va_rf_or v) (h_end B I) I.2.1.2.2 d B.2.1)
end HC
theorem h_args_eq : ∀ (vs : List Value) (n : Nat), (∀ v ∈ vs, v.category = 1) → lv_args n vs = h_args n vs
  | [], n, _ => rfl
  | v :: vs, n, h => by
    have hv := h v List.mem_cons_self
    have ih := h_args_eq vs (n + 1) (fun w hw => h w (List.mem_cons_of_mem _ hw))
    simp only [lv_args, h_args, hv]
    first | exact congrArg _ ih | simpa using ih
theorem h_args_c1 : ∀ (vs : List Value) (n : Nat), (∀ v ∈ vs, v.category = 1) → h_c1 (h_args n vs)
  | [], n, _ => fun q hq => by cases hq
  | v :: vs, n, h => by
    intro q hq
    rcases List.mem_cons.mp hq with e | e
    · rw [e]; exact h v List.mem_cons_self
    · exact h_args_c1 vs (n + 1) (fun w hw => h w (List.mem_cons_of_mem _ hw)) q e
theorem h_sl_len : ∀ (vs : List Value), (∀ v ∈ vs, v.category = 1) → (lg_sl vs).length = vs.length
  | [], _ => rfl
  | v :: vs, h => by
    have hv := h v List.mem_cons_self
    have ih := h_sl_len vs (fun w hw => h w (List.mem_cons_of_mem _ hw))
    have e : lg_sl (v :: vs) = .val v :: lg_sl vs := by
      simp [lg_sl, hv]
    rw [e, List.length_cons, ih, List.length_cons]
theorem MetC.of {l : Launch} {y : MethodName} {cc : ByteArray} {maxL : Nat} {ret : Option FieldType} {F L : Nat} {D : va_G} {dA : Nat → ClassId} {bs : Nat} {av : List Value} {rv : Option Value} {σ σ' : HS} (hy : plainName y.cls = true) (hav : ∀ v ∈ av, v.category = 1) (hlen : av.length ≤ maxL)
    (body : ∀ (p : Program) (e : Env) (R : Room) (s : State) (m : MethodId) (args : Array Value) (below : List Frame) (meth : Method) (c : Code), h_C p m c cc maxL s args y.cls D dA → h_B R s meth σ ret F L → meth.name = y.name →
      V p l e R s m args below meth c D dA bs maxL (MQ below (h_Q D dA bs rv σ σ') args s R.cells R.slots (fun q => bs ≤ q)) σ 0 (h_args 0 av) []) : MetC l y cc maxL ret F L D dA bs av rv σ σ' := by
  refine Met.ofW (cc := cc) (maxL := maxL) (ret := ret) hy rfl ?_
  intro p e s m args below meth c s₁ B hml hv
  obtain ⟨rfl, hg, hK, hb⟩ := hv
  have hts := atoms_spec (ws := Cond.code y cc maxL ret :: h_ws) B.pre
  have hown : s.vm.findClass y.cls = some m.cls := findClass_of_methodNamed B.named
  have hz : s.heap.size = h_sz σ := hg.1
  have hs : slotSum s.heap = h_sl σ := hg.2.1
  have h3 : h_sz σ ≤ h_cz σ := hg.2.2.1
  have h4 : h_sl σ ≤ h_ck σ := hg.2.2.2.1
  have hl := lv_entry av (n := maxL) (by rw [h_sl_len av hav]; exact hlen)
  rw [lg_entry_eq]
  generalize (lg_sl av ++ List.replicate (maxL - (lg_sl av).length) Slot.unset).toArray = ls at hl ⊢
  have c1 : s.heap.size + (headSpec (Cond.code y cc maxL ret :: h_ws) (h_rm F L σ)).room.cells = h_cz σ := by
    show s.heap.size + (h_cz σ - h_sz σ) = h_cz σ
    omega
  have c2 : slotSum s.heap + (headSpec (Cond.code y cc maxL ret :: h_ws) (h_rm F L σ)).room.slots = h_ck σ := by
    show slotSum s.heap + (h_ck σ - h_sl σ) = h_ck σ
    omega
  have hV := body p e (headSpec (Cond.code y cc maxL ret :: h_ws) (h_rm F L σ)).room s m av.toArray below meth c ⟨⟨B.exec, B.bytes, hml, hown, fun w hw => hts w (List.mem_cons_of_mem _ hw)⟩, hK⟩ ⟨B.returns, B.notSynchronized, c1, c2, rfl, rfl⟩ (name_of_methodNamed B.named B.method).1
  refine W.tight (hV s.heap [] ls ⟨hg, va_S.rf, ⟨by rw [← h_args_eq av 0 hav]; exact hl, h_args_c1 av 0 hav⟩, c1, c2, hb⟩)
end
section
/-! LINKS: the words of the tables that the walks use -/
theorem hly_0 : ∀ w ∈ u_ws RX0 TX0 5, w ∈ h_ws := by
  intro w hw
  have h1 : w ∈ [628, 630, 632, 634, 636].filterMap (fun i => tables_1[i]?) := by
    rw [show [628, 630, 632, 634, 636].filterMap (fun i => tables_1[i]?) = u_ws RX0 TX0 5 by decide +kernel]
    exact hw
  obtain ⟨i, -, hi⟩ := List.mem_filterMap.mp h1
  refine h_in (List.mem_of_getElem? hi) ?_
  exact List.all_eq_true.mp (show (u_ws RX0 TX0 5).all goodWord = true by decide +kernel) w hw
theorem hcl_0 : h_CL 1 RX0 TX0 5 := ⟨by decide, by decide, rfl, hly_0, h_in (List.mem_of_getElem? (i := 611) (by decide +kernel)) rfl, h_in (List.mem_of_getElem? (i := 17) (by decide +kernel)) rfl, tyX0, tyX0_ok, nmX0, fun k hk => by
    have h9 : ∀ k, k < 5 → (h_kd 1 k = 0 ∧ tyX0 k = .int) ∨ (h_kd 1 k = 2 ∧ tyX0 k = .long) ∨ (h_kd 1 k = 1 ∧ (tyX0 k).isReference = true) := by decide +kernel
    exact h9 k hk⟩
theorem hly_1 : ∀ w ∈ u_ws RX1 TX1 4, w ∈ h_ws := by
  intro w hw
  have h1 : w ∈ [708, 710, 712, 714].filterMap (fun i => tables_1[i]?) := by
    rw [show [708, 710, 712, 714].filterMap (fun i => tables_1[i]?) = u_ws RX1 TX1 4 by decide +kernel]
    exact hw
  obtain ⟨i, -, hi⟩ := List.mem_filterMap.mp h1
  refine h_in (List.mem_of_getElem? hi) ?_
  exact List.all_eq_true.mp (show (u_ws RX1 TX1 4).all goodWord = true by decide +kernel) w hw
theorem hcl_1 : h_CL 2 RX1 TX1 4 := ⟨by decide, by decide, rfl, hly_1, h_in (List.mem_of_getElem? (i := 694) (by decide +kernel)) rfl, h_in (List.mem_of_getElem? (i := 18) (by decide +kernel)) rfl, tyX1, tyX1_ok, nmX1, fun k hk => by
    have h9 : ∀ k, k < 4 → (h_kd 2 k = 0 ∧ tyX1 k = .int) ∨ (h_kd 2 k = 2 ∧ tyX1 k = .long) ∨ (h_kd 2 k = 1 ∧ (tyX1 k).isReference = true) := by decide +kernel
    exact h9 k hk⟩
theorem hly_2 : ∀ w ∈ u_ws RX2 TX2 2, w ∈ h_ws := by
  intro w hw
  have h1 : w ∈ [352, 354].filterMap (fun i => tables_1[i]?) := by
    rw [show [352, 354].filterMap (fun i => tables_1[i]?) = u_ws RX2 TX2 2 by decide +kernel]
    exact hw
  obtain ⟨i, -, hi⟩ := List.mem_filterMap.mp h1
  refine h_in (List.mem_of_getElem? hi) ?_
  exact List.all_eq_true.mp (show (u_ws RX2 TX2 2).all goodWord = true by decide +kernel) w hw
theorem hcl_2 : h_CL 3 RX2 TX2 2 := ⟨by decide, by decide, rfl, hly_2, h_in (List.mem_of_getElem? (i := 343) (by decide +kernel)) rfl, h_in (List.mem_of_getElem? (i := 12) (by decide +kernel)) rfl, tyX2, tyX2_ok, nmX2, fun k hk => by
    have h9 : ∀ k, k < 2 → (h_kd 3 k = 0 ∧ tyX2 k = .int) ∨ (h_kd 3 k = 2 ∧ tyX2 k = .long) ∨ (h_kd 3 k = 1 ∧ (tyX2 k).isReference = true) := by decide +kernel
    exact h9 k hk⟩
theorem hly_3 : ∀ w ∈ u_ws RX3 TX3 8, w ∈ h_ws := by
  intro w hw
  have h1 : w ∈ [498, 500, 502, 504, 506, 508, 510, 512].filterMap (fun i => tables_1[i]?) := by
    rw [show [498, 500, 502, 504, 506, 508, 510, 512].filterMap (fun i => tables_1[i]?) = u_ws RX3 TX3 8 by decide +kernel]
    exact hw
  obtain ⟨i, -, hi⟩ := List.mem_filterMap.mp h1
  refine h_in (List.mem_of_getElem? hi) ?_
  exact List.all_eq_true.mp (show (u_ws RX3 TX3 8).all goodWord = true by decide +kernel) w hw
theorem hcl_3 : h_CL 4 RX3 TX3 8 := ⟨by decide, by decide, rfl, hly_3, h_in (List.mem_of_getElem? (i := 479) (by decide +kernel)) rfl, h_in (List.mem_of_getElem? (i := 15) (by decide +kernel)) rfl, tyX3, tyX3_ok, nmX3, fun k hk => by
    have h9 : ∀ k, k < 8 → (h_kd 4 k = 0 ∧ tyX3 k = .int) ∨ (h_kd 4 k = 2 ∧ tyX3 k = .long) ∨ (h_kd 4 k = 1 ∧ (tyX3 k).isReference = true) := by decide +kernel
    exact h9 k hk⟩
theorem hly_4 : ∀ w ∈ u_ws RX4 TX4 2, w ∈ h_ws := by
  intro w hw
  have h1 : w ∈ [48, 50].filterMap (fun i => tables_1[i]?) := by
    rw [show [48, 50].filterMap (fun i => tables_1[i]?) = u_ws RX4 TX4 2 by decide +kernel]
    exact hw
  obtain ⟨i, -, hi⟩ := List.mem_filterMap.mp h1
  refine h_in (List.mem_of_getElem? hi) ?_
  exact List.all_eq_true.mp (show (u_ws RX4 TX4 2).all goodWord = true by decide +kernel) w hw
theorem hcl_4 : h_CL 5 RX4 TX4 2 := ⟨by decide, by decide, rfl, hly_4, h_in (List.mem_of_getElem? (i := 37) (by decide +kernel)) rfl, h_in (List.mem_of_getElem? (i := 4) (by decide +kernel)) rfl, tyX4, tyX4_ok, nmX4, fun k hk => by
    have h9 : ∀ k, k < 2 → (h_kd 5 k = 0 ∧ tyX4 k = .int) ∨ (h_kd 5 k = 2 ∧ tyX4 k = .long) ∨ (h_kd 5 k = 1 ∧ (tyX4 k).isReference = true) := by decide +kernel
    exact h9 k hk⟩
theorem hly_5 : ∀ w ∈ u_ws RX5 TX5 4, w ∈ h_ws := by
  intro w hw
  have h1 : w ∈ [100, 102, 104, 106].filterMap (fun i => tables_1[i]?) := by
    rw [show [100, 102, 104, 106].filterMap (fun i => tables_1[i]?) = u_ws RX5 TX5 4 by decide +kernel]
    exact hw
  obtain ⟨i, -, hi⟩ := List.mem_filterMap.mp h1
  refine h_in (List.mem_of_getElem? hi) ?_
  exact List.all_eq_true.mp (show (u_ws RX5 TX5 4).all goodWord = true by decide +kernel) w hw
theorem hcl_5 : h_CL 6 RX5 TX5 4 := ⟨by decide, by decide, rfl, hly_5, h_in (List.mem_of_getElem? (i := 89) (by decide +kernel)) rfl, h_in (List.mem_of_getElem? (i := 5) (by decide +kernel)) rfl, tyX5, tyX5_ok, nmX5, fun k hk => by
    have h9 : ∀ k, k < 4 → (h_kd 6 k = 0 ∧ tyX5 k = .int) ∨ (h_kd 6 k = 2 ∧ tyX5 k = .long) ∨ (h_kd 6 k = 1 ∧ (tyX5 k).isReference = true) := by decide +kernel
    exact h9 k hk⟩
theorem hly_6 : ∀ w ∈ u_ws RX6 TX6 5, w ∈ h_ws := by
  intro w hw
  have h1 : w ∈ [70, 72, 74, 76, 78].filterMap (fun i => tables_1[i]?) := by
    rw [show [70, 72, 74, 76, 78].filterMap (fun i => tables_1[i]?) = u_ws RX6 TX6 5 by decide +kernel]
    exact hw
  obtain ⟨i, -, hi⟩ := List.mem_filterMap.mp h1
  refine h_in (List.mem_of_getElem? hi) ?_
  exact List.all_eq_true.mp (show (u_ws RX6 TX6 5).all goodWord = true by decide +kernel) w hw
theorem hcl_6 : h_CL 7 RX6 TX6 5 := ⟨by decide, by decide, rfl, hly_6, h_in (List.mem_of_getElem? (i := 35) (by decide +kernel)) rfl, h_in (List.mem_of_getElem? (i := 3) (by decide +kernel)) rfl, tyX6, tyX6_ok, nmX6, fun k hk => by
    have h9 : ∀ k, k < 5 → (h_kd 7 k = 0 ∧ tyX6 k = .int) ∨ (h_kd 7 k = 2 ∧ tyX6 k = .long) ∨ (h_kd 7 k = 1 ∧ (tyX6 k).isReference = true) := by decide +kernel
    exact h9 k hk⟩
theorem hly_7 : ∀ w ∈ u_ws RX7 TX7 5, w ∈ h_ws := by
  intro w hw
  have h1 : w ∈ [366, 368, 370, 372, 374].filterMap (fun i => tables_1[i]?) := by
    rw [show [366, 368, 370, 372, 374].filterMap (fun i => tables_1[i]?) = u_ws RX7 TX7 5 by decide +kernel]
    exact hw
  obtain ⟨i, -, hi⟩ := List.mem_filterMap.mp h1
  refine h_in (List.mem_of_getElem? hi) ?_
  exact List.all_eq_true.mp (show (u_ws RX7 TX7 5).all goodWord = true by decide +kernel) w hw
theorem hcl_7 : h_CL 8 RX7 TX7 5 := ⟨by decide, by decide, rfl, hly_7, h_in (List.mem_of_getElem? (i := 335) (by decide +kernel)) rfl, h_in (List.mem_of_getElem? (i := 11) (by decide +kernel)) rfl, tyX7, tyX7_ok, nmX7, fun k hk => by
    have h9 : ∀ k, k < 5 → (h_kd 8 k = 0 ∧ tyX7 k = .int) ∨ (h_kd 8 k = 2 ∧ tyX7 k = .long) ∨ (h_kd 8 k = 1 ∧ (tyX7 k).isReference = true) := by decide +kernel
    exact h9 k hk⟩
theorem hly_8 : ∀ w ∈ u_ws RX8 TX8 1, w ∈ h_ws := by
  intro w hw
  have h1 : w ∈ [83].filterMap (fun i => tables_1[i]?) := by
    rw [show [83].filterMap (fun i => tables_1[i]?) = u_ws RX8 TX8 1 by decide +kernel]
    exact hw
  obtain ⟨i, -, hi⟩ := List.mem_filterMap.mp h1
  refine h_in (List.mem_of_getElem? hi) ?_
  exact List.all_eq_true.mp (show (u_ws RX8 TX8 1).all goodWord = true by decide +kernel) w hw
theorem hcl_8 : h_CL 9 RX8 TX8 1 := ⟨by decide, by decide, rfl, hly_8, h_in (List.mem_of_getElem? (i := 28) (by decide +kernel)) rfl, h_in (List.mem_of_getElem? (i := 2) (by decide +kernel)) rfl, tyX8, tyX8_ok, nmX8, fun k hk => by
    have h9 : ∀ k, k < 1 → (h_kd 9 k = 0 ∧ tyX8 k = .int) ∨ (h_kd 9 k = 2 ∧ tyX8 k = .long) ∨ (h_kd 9 k = 1 ∧ (tyX8 k).isReference = true) := by decide +kernel
    exact h9 k hk⟩
theorem hly_9 : ∀ w ∈ u_ws RX9 TX9 14, w ∈ h_ws := by
  intro w hw
  have h1 : w ∈ [126, 128, 130, 132, 134, 136, 138, 140, 142, 144, 146, 148, 150, 152].filterMap (fun i => tables_1[i]?) := by
    rw [show [126, 128, 130, 132, 134, 136, 138, 140, 142, 144, 146, 148, 150, 152].filterMap (fun i => tables_1[i]?) = u_ws RX9 TX9 14 by decide +kernel]
    exact hw
  obtain ⟨i, -, hi⟩ := List.mem_filterMap.mp h1
  refine h_in (List.mem_of_getElem? hi) ?_
  exact List.all_eq_true.mp (show (u_ws RX9 TX9 14).all goodWord = true by decide +kernel) w hw
theorem hcl_9 : h_CL 10 RX9 TX9 14 := ⟨by decide, by decide, rfl, hly_9, h_in (List.mem_of_getElem? (i := 20) (by decide +kernel)) rfl, h_in (List.mem_of_getElem? (i := 1) (by decide +kernel)) rfl, tyX9, tyX9_ok, nmX9, fun k hk => by
    have h9 : ∀ k, k < 14 → (h_kd 10 k = 0 ∧ tyX9 k = .int) ∨ (h_kd 10 k = 2 ∧ tyX9 k = .long) ∨ (h_kd 10 k = 1 ∧ (tyX9 k).isReference = true) := by decide +kernel
    exact h9 k hk⟩
theorem hly_10 : ∀ w ∈ u_ws RX10 TX10 43, w ∈ h_ws := by
  intro w hw
  have h1 : w ∈ [875, 877, 879, 881, 883, 885, 887, 889, 891, 893, 895, 897, 899, 901, 903, 905, 907, 909, 911, 913, 915, 917, 919, 921, 923, 925, 927, 929, 931, 933, 935, 937, 939, 941, 943, 945, 947, 949, 951, 953, 955, 957, 959].filterMap (fun i => tables_1[i]?) := by
    rw [show [875, 877, 879, 881, 883, 885, 887, 889, 891, 893, 895, 897, 899, 901, 903, 905, 907, 909, 911, 913, 915, 917, 919, 921, 923, 925, 927, 929, 931, 933, 935, 937, 939, 941, 943, 945, 947, 949, 951, 953, 955, 957, 959].filterMap (fun i => tables_1[i]?) = u_ws RX10 TX10 43 by decide +kernel]
    exact hw
  obtain ⟨i, -, hi⟩ := List.mem_filterMap.mp h1
  refine h_in (List.mem_of_getElem? hi) ?_
  exact List.all_eq_true.mp (show (u_ws RX10 TX10 43).all goodWord = true by decide +kernel) w hw
theorem hcl_10 : h_CL 11 RX10 TX10 43 := ⟨by decide, by decide, rfl, hly_10, h_in (List.mem_of_getElem? (i := 826) (by decide +kernel)) rfl, h_in (List.mem_of_getElem? (i := 6) (by decide +kernel)) rfl, tyX10, tyX10_ok, nmX10, fun k hk => by
    have h9 : ∀ k, k < 43 → (h_kd 11 k = 0 ∧ tyX10 k = .int) ∨ (h_kd 11 k = 2 ∧ tyX10 k = .long) ∨ (h_kd 11 k = 1 ∧ (tyX10 k).isReference = true) := by decide +kernel
    exact h9 k hk⟩
theorem h_at103 : h_AT 103 1 := ⟨by decide, by decide, by decide, _, _, _, rfl, fun _ => rfl⟩
theorem h_at104 : h_AT 104 2 := ⟨by decide, by decide, by decide, _, _, _, rfl, fun _ => rfl⟩
theorem h_at105 : h_AT 105 4 := ⟨by decide, by decide, by decide, _, _, _, rfl, fun _ => rfl⟩
theorem h_at106 : h_AT 106 5 := ⟨by decide, by decide, by decide, _, _, _, rfl, fun _ => rfl⟩
theorem h_at107 : h_AT 107 7 := ⟨by decide, by decide, by decide, _, _, _, rfl, fun _ => rfl⟩
theorem h_at108 : h_AT 108 8 := ⟨by decide, by decide, by decide, _, _, _, rfl, fun _ => rfl⟩
theorem ob_i : Cond.instanceMethod Lib.objectInit ∈ h_ws := h_in (List.mem_of_getElem? (i := 25) (by decide +kernel)) rfl
theorem ob_c : Cond.code Lib.objectInit ⟨#[0xb1]⟩ 1 none ∈ h_ws := h_in (List.mem_of_getElem? (i := 26) (by decide +kernel)) rfl
theorem cy_n : Cond.native arraycopyName ∈ h_ws := h_in (List.mem_of_getElem? (i := 450) (by decide +kernel)) rfl
theorem cy_s : Cond.static arraycopyName ∈ h_ws := h_in (List.mem_of_getElem? (i := 449) (by decide +kernel)) rfl
theorem cy_i : Cond.initialized "java/lang/System" ∈ h_ws := h_in (List.mem_of_getElem? (i := 13) (by decide +kernel)) rfl
theorem h_fr {R : Room} {s : State} {meth : Method} {σ : HS} {ret : Option FieldType} {F L k : Nat} (B : h_B R s meth σ ret F L) (h : k ≤ F) : k ≤ R.frames := by rw [B.2.2.2.2.1]; exact h
theorem h_lo {R : Room} {s : State} {meth : Method} {σ : HS} {ret : Option FieldType} {F L k : Nat} (B : h_B R s meth σ ret F L) (h : k ≤ L) : k ≤ R.locals := by rw [B.2.2.2.2.2]; exact h
theorem h_w0 : (([] : List Value).map fun v => v.category).sum ≤ 0 := Nat.le_refl 0
theorem h_wI {x : Int32} {l : List Value} {n : Nat} (h : (l.map fun v => v.category).sum ≤ n) : ((Value.int x :: l).map fun v => v.category).sum ≤ n + 1 := by
  rw [List.map_cons, List.sum_cons]; have : (Value.int x).category = 1 := rfl; omega
theorem h_wR {x : Option Nat} {l : List Value} {n : Nat} (h : (l.map fun v => v.category).sum ≤ n) : ((va_rf x :: l).map fun v => v.category).sum ≤ n + 1 := by
  rw [List.map_cons, List.sum_cons]; have := h_rf_cat x; omega
theorem h_wJ {x : Int64} {l : List Value} {n : Nat} (h : (l.map fun v => v.category).sum ≤ n) : ((Value.long x :: l).map fun v => v.category).sum ≤ n + 2 := by
  rw [List.map_cons, List.sum_cons]; have : (Value.long x).category = 2 := rfl; omega
theorem h_av0 : ∀ v ∈ ([] : List Value), v.category = 1 := fun _ h => nomatch h
theorem h_avI {x : Int32} {l : List Value} (h : ∀ v ∈ l, v.category = 1) : ∀ v ∈ Value.int x :: l, v.category = 1 := fun v hv => (List.mem_cons.mp hv).elim (fun e => by rw [e]; rfl) (h v)
theorem h_avR {x : Option Nat} {l : List Value} (h : ∀ v ∈ l, v.category = 1) : ∀ v ∈ va_rf x :: l, v.category = 1 := fun v hv => (List.mem_cons.mp hv).elim (fun e => by rw [e]; exact h_rf_cat x) (h v)
theorem ob_RX0 : Cond.methodLink RX0 1 Lib.objectInit ∈ h_ws := h_in (List.mem_of_getElem? (i := 615) (by decide +kernel)) rfl
theorem ff_RX0_7 : h_FF RX0 7 1 0 1 := ⟨_, _, _, hcl_0, by decide, rfl, h_in (List.mem_of_getElem? (i := 616) (by decide +kernel)) rfl, rfl, rfl⟩
theorem ff_RX0_13 : h_FF RX0 13 1 1 0 := ⟨_, _, _, hcl_0, by decide, rfl, h_in (List.mem_of_getElem? (i := 619) (by decide +kernel)) rfl, rfl, rfl⟩
theorem ff_RX0_17 : h_FF RX0 17 1 2 0 := ⟨_, _, _, hcl_0, by decide, rfl, h_in (List.mem_of_getElem? (i := 622) (by decide +kernel)) rfl, rfl, rfl⟩
theorem ff_RX0_20 : h_FF RX0 20 1 3 0 := ⟨_, _, _, hcl_0, by decide, rfl, h_in (List.mem_of_getElem? (i := 624) (by decide +kernel)) rfl, rfl, rfl⟩
theorem ff_RX0_23 : h_FF RX0 23 1 4 0 := ⟨_, _, _, hcl_0, by decide, rfl, h_in (List.mem_of_getElem? (i := 627) (by decide +kernel)) rfl, rfl, rfl⟩
theorem fl_RX0_23 : h_FL RX0 23 1 4 0 := ⟨_, _, _, hcl_0, by decide, rfl, h_in (List.mem_of_getElem? (i := 627) (by decide +kernel)) rfl⟩
theorem ob_RX1 : Cond.methodLink RX1 1 Lib.objectInit ∈ h_ws := h_in (List.mem_of_getElem? (i := 698) (by decide +kernel)) rfl
theorem ff_RX1_7 : h_FF RX1 7 2 0 1 := ⟨_, _, _, hcl_1, by decide, rfl, h_in (List.mem_of_getElem? (i := 699) (by decide +kernel)) rfl, rfl, rfl⟩
theorem ff_RX1_13 : h_FF RX1 13 2 1 0 := ⟨_, _, _, hcl_1, by decide, rfl, h_in (List.mem_of_getElem? (i := 702) (by decide +kernel)) rfl, rfl, rfl⟩
theorem ff_RX1_17 : h_FF RX1 17 2 2 0 := ⟨_, _, _, hcl_1, by decide, rfl, h_in (List.mem_of_getElem? (i := 705) (by decide +kernel)) rfl, rfl, rfl⟩
theorem ff_RX1_20 : h_FF RX1 20 2 3 0 := ⟨_, _, _, hcl_1, by decide, rfl, h_in (List.mem_of_getElem? (i := 707) (by decide +kernel)) rfl, rfl, rfl⟩
theorem fl_RX1_13 : h_FL RX1 13 2 1 0 := ⟨_, _, _, hcl_1, by decide, rfl, h_in (List.mem_of_getElem? (i := 702) (by decide +kernel)) rfl⟩
theorem fl_RX1_20 : h_FL RX1 20 2 3 0 := ⟨_, _, _, hcl_1, by decide, rfl, h_in (List.mem_of_getElem? (i := 707) (by decide +kernel)) rfl⟩
theorem ob_RX2 : Cond.methodLink RX2 1 Lib.objectInit ∈ h_ws := h_in (List.mem_of_getElem? (i := 347) (by decide +kernel)) rfl
theorem lk_RX2_9 : Cond.classLink RX2 9 RX1 ∈ h_ws := h_in (List.mem_of_getElem? (i := 348) (by decide +kernel)) rfl
theorem ao_1 : RX1 ∈ h_aos := by decide
theorem ff_RX2_11 : h_FF RX2 11 3 0 1 := ⟨_, _, _, hcl_2, by decide, rfl, h_in (List.mem_of_getElem? (i := 350) (by decide +kernel)) rfl, rfl, rfl⟩
theorem fl_RX4_13 : h_FL RX4 13 5 1 0 := ⟨_, _, _, hcl_4, by decide, rfl, h_in (List.mem_of_getElem? (i := 44) (by decide +kernel)) rfl⟩
theorem cd_X4_mask : Cond.code yX4_mask cX4_mask 1 (some .int) ∈ h_ws := h_in (List.mem_of_getElem? (i := 181) (by decide +kernel)) rfl
theorem ms_RX4_16 : h_MS RX4 16 yX4_mask cX4_mask 1 (some .int) 1 := ⟨⟨by decide, by decide, by decide +kernel⟩, h_in (List.mem_of_getElem? (i := 179) (by decide +kernel)) rfl, h_in (List.mem_of_getElem? (i := 180) (by decide +kernel)) rfl, h_in (List.mem_of_getElem? (i := 4) (by decide +kernel)) rfl, cd_X4_mask⟩
theorem fl_RX4_7 : h_FL RX4 7 5 0 0 := ⟨_, _, _, hcl_4, by decide, rfl, h_in (List.mem_of_getElem? (i := 42) (by decide +kernel)) rfl⟩
theorem fl_RX2_15 : h_FL RX2 15 3 1 0 := ⟨_, _, _, hcl_2, by decide, rfl, h_in (List.mem_of_getElem? (i := 351) (by decide +kernel)) rfl⟩
theorem fl_RX2_11 : h_FL RX2 11 3 0 1 := ⟨_, _, _, hcl_2, by decide, rfl, h_in (List.mem_of_getElem? (i := 350) (by decide +kernel)) rfl⟩
theorem cd_X1_isThere : Cond.code yX1_isThere cX1_isThere 2 (some .boolean) ∈ h_ws := h_in (List.mem_of_getElem? (i := 205) (by decide +kernel)) rfl
theorem mv_RX2_19 : h_MV RX2 19 2 yX1_isThere cX1_isThere 2 (some .boolean) 1 := ⟨⟨_, _, hcl_1⟩, ⟨by decide, by decide, by decide +kernel⟩, h_in (List.mem_of_getElem? (i := 202) (by decide +kernel)) rfl, h_in (List.mem_of_getElem? (i := 203) (by decide +kernel)) rfl, h_in (List.mem_of_getElem? (i := 204) (by decide +kernel)) rfl, cd_X1_isThere⟩
theorem fl_RX2_23 : h_FL RX2 23 2 0 1 := ⟨_, _, _, hcl_1, by decide, rfl, h_in (List.mem_of_getElem? (i := 700) (by decide +kernel)) rfl⟩
theorem cd_X4_has : Cond.code yX4_has cX4_has 2 (some .boolean) ∈ h_ws := h_in (List.mem_of_getElem? (i := 178) (by decide +kernel)) rfl
theorem mv_RX2_27 : h_MV RX2 27 5 yX4_has cX4_has 2 (some .boolean) 1 := ⟨⟨_, _, hcl_4⟩, ⟨by decide, by decide, by decide +kernel⟩, h_in (List.mem_of_getElem? (i := 532) (by decide +kernel)) rfl, h_in (List.mem_of_getElem? (i := 176) (by decide +kernel)) rfl, h_in (List.mem_of_getElem? (i := 177) (by decide +kernel)) rfl, cd_X4_has⟩
theorem fw_RX2_15 : h_FW RX2 15 3 1 0 := ⟨_, _, _, hcl_2, by decide, rfl, h_in (List.mem_of_getElem? (i := 351) (by decide +kernel)) rfl, rfl⟩
theorem cd_X4_liesIn : Cond.code yX4_liesIn cX4_liesIn 2 (some .boolean) ∈ h_ws := h_in (List.mem_of_getElem? (i := 302) (by decide +kernel)) rfl
theorem mv_RX4_23 : h_MV RX4 23 5 yX4_liesIn cX4_liesIn 2 (some .boolean) 1 := ⟨⟨_, _, hcl_4⟩, ⟨by decide, by decide, by decide +kernel⟩, h_in (List.mem_of_getElem? (i := 311) (by decide +kernel)) rfl, h_in (List.mem_of_getElem? (i := 300) (by decide +kernel)) rfl, h_in (List.mem_of_getElem? (i := 301) (by decide +kernel)) rfl, cd_X4_liesIn⟩
theorem cd_X2_remove : Cond.code yX2_remove cX2_remove 3 none ∈ h_ws := h_in (List.mem_of_getElem? (i := 725) (by decide +kernel)) rfl
theorem mv_RX2_36 : h_MV RX2 36 3 yX2_remove cX2_remove 3 none 1 := ⟨⟨_, _, hcl_2⟩, ⟨by decide, by decide, by decide +kernel⟩, h_in (List.mem_of_getElem? (i := 722) (by decide +kernel)) rfl, h_in (List.mem_of_getElem? (i := 724) (by decide +kernel)) rfl, h_inS (q := (yX2_remove, 2)) (List.mem_append_right _ (List.mem_append_left _ (List.mem_of_getElem? (i := 7) rfl))) rfl, cd_X2_remove⟩
theorem cd_X4_meets : Cond.code yX4_meets cX4_meets 2 (some .boolean) ∈ h_ws := h_in (List.mem_of_getElem? (i := 310) (by decide +kernel)) rfl
theorem mv_RX2_32 : h_MV RX2 32 5 yX4_meets cX4_meets 2 (some .boolean) 1 := ⟨⟨_, _, hcl_4⟩, ⟨by decide, by decide, by decide +kernel⟩, h_in (List.mem_of_getElem? (i := 721) (by decide +kernel)) rfl, h_in (List.mem_of_getElem? (i := 308) (by decide +kernel)) rfl, h_in (List.mem_of_getElem? (i := 309) (by decide +kernel)) rfl, cd_X4_meets⟩
theorem fl_RX2_40 : h_FL RX2 40 2 1 0 := ⟨_, _, _, hcl_1, by decide, rfl, h_in (List.mem_of_getElem? (i := 703) (by decide +kernel)) rfl⟩
theorem ob_RX3 : Cond.methodLink RX3 3 Lib.objectInit ∈ h_ws := h_in (List.mem_of_getElem? (i := 483) (by decide +kernel)) rfl
theorem ff_RX3_9 : h_FF RX3 9 4 0 0 := ⟨_, _, _, hcl_3, by decide, rfl, h_in (List.mem_of_getElem? (i := 484) (by decide +kernel)) rfl, rfl, rfl⟩
theorem ff_RX3_15 : h_FF RX3 15 4 1 0 := ⟨_, _, _, hcl_3, by decide, rfl, h_in (List.mem_of_getElem? (i := 486) (by decide +kernel)) rfl, rfl, rfl⟩
theorem ff_RX3_18 : h_FF RX3 18 4 2 0 := ⟨_, _, _, hcl_3, by decide, rfl, h_in (List.mem_of_getElem? (i := 488) (by decide +kernel)) rfl, rfl, rfl⟩
theorem fw_RX3_21 : h_FW RX3 21 4 5 0 := ⟨_, _, _, hcl_3, by decide, rfl, h_in (List.mem_of_getElem? (i := 493) (by decide +kernel)) rfl, rfl⟩
theorem fw_RX3_24 : h_FW RX3 24 4 3 0 := ⟨_, _, _, hcl_3, by decide, rfl, h_in (List.mem_of_getElem? (i := 490) (by decide +kernel)) rfl, rfl⟩
theorem fl_RX3_27 : h_FL RX3 27 4 7 0 := ⟨_, _, _, hcl_3, by decide, rfl, h_in (List.mem_of_getElem? (i := 496) (by decide +kernel)) rfl⟩
theorem fw_RX3_27 : h_FW RX3 27 4 7 0 := ⟨_, _, _, hcl_3, by decide, rfl, h_in (List.mem_of_getElem? (i := 496) (by decide +kernel)) rfl, rfl⟩
theorem fl_RX3_24 : h_FL RX3 24 4 3 0 := ⟨_, _, _, hcl_3, by decide, rfl, h_in (List.mem_of_getElem? (i := 490) (by decide +kernel)) rfl⟩
theorem ob_RX4 : Cond.methodLink RX4 1 Lib.objectInit ∈ h_ws := h_in (List.mem_of_getElem? (i := 41) (by decide +kernel)) rfl
theorem ff_RX4_7 : h_FF RX4 7 5 0 0 := ⟨_, _, _, hcl_4, by decide, rfl, h_in (List.mem_of_getElem? (i := 42) (by decide +kernel)) rfl, rfl, rfl⟩
theorem ff_RX4_13 : h_FF RX4 13 5 1 0 := ⟨_, _, _, hcl_4, by decide, rfl, h_in (List.mem_of_getElem? (i := 44) (by decide +kernel)) rfl, rfl, rfl⟩
theorem lk_RX4_8 : Cond.classLink RX4 8 RX4 ∈ h_ws := h_in (List.mem_of_getElem? (i := 289) (by decide +kernel)) rfl
theorem cd_X4_init : Cond.code yX4_init cX4_init 3 none ∈ h_ws := h_in (List.mem_of_getElem? (i := 40) (by decide +kernel)) rfl
theorem mi_RX4_20 : h_MI RX4 20 yX4_init cX4_init 3 2 := ⟨rfl, ⟨by decide, by decide, by decide +kernel⟩, h_in (List.mem_of_getElem? (i := 290) (by decide +kernel)) rfl, h_in (List.mem_of_getElem? (i := 39) (by decide +kernel)) rfl, h_in (List.mem_of_getElem? (i := 4) (by decide +kernel)) rfl, cd_X4_init⟩
theorem ob_RX5 : Cond.methodLink RX5 3 Lib.objectInit ∈ h_ws := h_in (List.mem_of_getElem? (i := 93) (by decide +kernel)) rfl
theorem ac_int : Cond.arrayClass .int ∈ h_ws := h_in (List.mem_of_getElem? (i := 109) (by decide +kernel)) rfl
theorem ff_RX5_11 : h_FF RX5 11 6 0 1 := ⟨_, _, _, hcl_5, by decide, rfl, h_in (List.mem_of_getElem? (i := 94) (by decide +kernel)) rfl, rfl, rfl⟩
theorem fl_RX5_15 : h_FL RX5 15 6 2 0 := ⟨_, _, _, hcl_5, by decide, rfl, h_in (List.mem_of_getElem? (i := 96) (by decide +kernel)) rfl⟩
theorem fl_RX5_36 : h_FL RX5 36 6 1 0 := ⟨_, _, _, hcl_5, by decide, rfl, h_in (List.mem_of_getElem? (i := 95) (by decide +kernel)) rfl⟩
theorem fl_RX5_11 : h_FL RX5 11 6 0 1 := ⟨_, _, _, hcl_5, by decide, rfl, h_in (List.mem_of_getElem? (i := 94) (by decide +kernel)) rfl⟩
theorem cd_X5_cell : Cond.code yX5_cell cX5_cell 2 (some .int) ∈ h_ws := h_in (List.mem_of_getElem? (i := 447) (by decide +kernel)) rfl
theorem mv_RX5_19 : h_MV RX5 19 6 yX5_cell cX5_cell 2 (some .int) 1 := ⟨⟨_, _, hcl_5⟩, ⟨by decide, by decide, by decide +kernel⟩, h_in (List.mem_of_getElem? (i := 444) (by decide +kernel)) rfl, h_in (List.mem_of_getElem? (i := 446) (by decide +kernel)) rfl, h_inS (q := (yX5_cell, 4)) (List.mem_append_left _ (List.mem_of_getElem? (i := 8) rfl)) rfl, cd_X5_cell⟩
theorem cy_RX5 : Cond.methodLink RX5 23 arraycopyName ∈ h_ws := h_in (List.mem_of_getElem? (i := 448) (by decide +kernel)) rfl
theorem cd_X5_set : Cond.code yX5_set cX5_set 4 none ∈ h_ws := h_in (List.mem_of_getElem? (i := 454) (by decide +kernel)) rfl
theorem mv_RX5_32 : h_MV RX5 32 6 yX5_set cX5_set 4 none 3 := ⟨⟨_, _, hcl_5⟩, ⟨by decide, by decide, by decide +kernel⟩, h_in (List.mem_of_getElem? (i := 451) (by decide +kernel)) rfl, h_in (List.mem_of_getElem? (i := 452) (by decide +kernel)) rfl, h_in (List.mem_of_getElem? (i := 453) (by decide +kernel)) rfl, cd_X5_set⟩
theorem fw_RX5_15 : h_FW RX5 15 6 2 0 := ⟨_, _, _, hcl_5, by decide, rfl, h_in (List.mem_of_getElem? (i := 96) (by decide +kernel)) rfl, rfl⟩
theorem fl_RX5_29 : h_FL RX5 29 6 3 0 := ⟨_, _, _, hcl_5, by decide, rfl, h_in (List.mem_of_getElem? (i := 98) (by decide +kernel)) rfl⟩
theorem fw_RX5_29 : h_FW RX5 29 6 3 0 := ⟨_, _, _, hcl_5, by decide, rfl, h_in (List.mem_of_getElem? (i := 98) (by decide +kernel)) rfl, rfl⟩
theorem fw_RX5_36 : h_FW RX5 36 6 1 0 := ⟨_, _, _, hcl_5, by decide, rfl, h_in (List.mem_of_getElem? (i := 95) (by decide +kernel)) rfl, rfl⟩
theorem ob_RX6 : Cond.methodLink RX6 3 Lib.objectInit ∈ h_ws := h_in (List.mem_of_getElem? (i := 56) (by decide +kernel)) rfl
theorem ff_RX6_9 : h_FF RX6 9 7 0 0 := ⟨_, _, _, hcl_6, by decide, rfl, h_in (List.mem_of_getElem? (i := 60) (by decide +kernel)) rfl, rfl, rfl⟩
theorem ff_RX6_15 : h_FF RX6 15 7 1 0 := ⟨_, _, _, hcl_6, by decide, rfl, h_in (List.mem_of_getElem? (i := 63) (by decide +kernel)) rfl, rfl, rfl⟩
theorem ff_RX6_18 : h_FF RX6 18 7 2 1 := ⟨_, _, _, hcl_6, by decide, rfl, h_in (List.mem_of_getElem? (i := 65) (by decide +kernel)) rfl, rfl, rfl⟩
theorem lk_RX6_22 : Cond.classLink RX6 22 RX0 ∈ h_ws := h_in (List.mem_of_getElem? (i := 57) (by decide +kernel)) rfl
theorem ao_0 : RX0 ∈ h_aos := by decide
theorem ff_RX6_24 : h_FF RX6 24 7 3 1 := ⟨_, _, _, hcl_6, by decide, rfl, h_in (List.mem_of_getElem? (i := 68) (by decide +kernel)) rfl, rfl, rfl⟩
theorem ac_long : Cond.arrayClass .long ∈ h_ws := h_in (List.mem_of_getElem? (i := 81) (by decide +kernel)) rfl
theorem ff_RX6_28 : h_FF RX6 28 7 4 1 := ⟨_, _, _, hcl_6, by decide, rfl, h_in (List.mem_of_getElem? (i := 69) (by decide +kernel)) rfl, rfl, rfl⟩
theorem fl_RX6_28 : h_FL RX6 28 7 4 1 := ⟨_, _, _, hcl_6, by decide, rfl, h_in (List.mem_of_getElem? (i := 69) (by decide +kernel)) rfl⟩
theorem ck_RX6_34 : Cond.constantLong RX6 34 (-9223372036854775808) ∈ h_ws := h_in (List.mem_of_getElem? (i := 59) (by decide +kernel)) rfl
theorem fl_RX6_24 : h_FL RX6 24 7 3 1 := ⟨_, _, _, hcl_6, by decide, rfl, h_in (List.mem_of_getElem? (i := 68) (by decide +kernel)) rfl⟩
theorem cd_X0_holdsAt : Cond.code yX0_holdsAt cX0_holdsAt 2 (some .boolean) ∈ h_ws := h_in (List.mem_of_getElem? (i := 174) (by decide +kernel)) rfl
theorem mv_RX6_65 : h_MV RX6 65 1 yX0_holdsAt cX0_holdsAt 2 (some .boolean) 1 := ⟨⟨_, _, hcl_0⟩, ⟨by decide, by decide, by decide +kernel⟩, h_in (List.mem_of_getElem? (i := 171) (by decide +kernel)) rfl, h_in (List.mem_of_getElem? (i := 172) (by decide +kernel)) rfl, h_in (List.mem_of_getElem? (i := 173) (by decide +kernel)) rfl, cd_X0_holdsAt⟩
theorem cd_X6_isLive : Cond.code yX6_isLive cX6_isLive 3 (some .boolean) ∈ h_ws := h_in (List.mem_of_getElem? (i := 170) (by decide +kernel)) rfl
theorem mv_RX6_40 : h_MV RX6 40 7 yX6_isLive cX6_isLive 3 (some .boolean) 2 := ⟨⟨_, _, hcl_6⟩, ⟨by decide, by decide, by decide +kernel⟩, h_in (List.mem_of_getElem? (i := 167) (by decide +kernel)) rfl, h_in (List.mem_of_getElem? (i := 169) (by decide +kernel)) rfl, h_inS (q := (yX6_isLive, 5)) (List.mem_append_left _ (List.mem_of_getElem? (i := 0) rfl)) rfl, cd_X6_isLive⟩
theorem fl_RX6_47 : h_FL RX6 47 1 0 1 := ⟨_, _, _, hcl_0, by decide, rfl, h_in (List.mem_of_getElem? (i := 617) (by decide +kernel)) rfl⟩
theorem cd_X4_same : Cond.code yX4_same cX4_same 2 (some .boolean) ∈ h_ws := h_in (List.mem_of_getElem? (i := 294) (by decide +kernel)) rfl
theorem mv_RX6_68 : h_MV RX6 68 5 yX4_same cX4_same 2 (some .boolean) 1 := ⟨⟨_, _, hcl_4⟩, ⟨by decide, by decide, by decide +kernel⟩, h_in (List.mem_of_getElem? (i := 609) (by decide +kernel)) rfl, h_in (List.mem_of_getElem? (i := 292) (by decide +kernel)) rfl, h_in (List.mem_of_getElem? (i := 293) (by decide +kernel)) rfl, cd_X4_same⟩
theorem cd_X6_slotFor : Cond.code yX6_slotFor cX6_slotFor 5 (some .int) ∈ h_ws := h_in (List.mem_of_getElem? (i := 608) (by decide +kernel)) rfl
theorem mv_RX6_36 : h_MV RX6 36 7 yX6_slotFor cX6_slotFor 5 (some .int) 2 := ⟨⟨_, _, hcl_6⟩, ⟨by decide, by decide, by decide +kernel⟩, h_in (List.mem_of_getElem? (i := 605) (by decide +kernel)) rfl, h_in (List.mem_of_getElem? (i := 607) (by decide +kernel)) rfl, h_inS (q := (yX6_slotFor, 5)) (List.mem_append_right _ (List.mem_append_left _ (List.mem_of_getElem? (i := 0) rfl))) rfl, cd_X6_slotFor⟩
theorem fl_RX6_44 : h_FL RX6 44 1 1 0 := ⟨_, _, _, hcl_0, by decide, rfl, h_in (List.mem_of_getElem? (i := 620) (by decide +kernel)) rfl⟩
theorem fl_RX6_50 : h_FL RX6 50 1 3 0 := ⟨_, _, _, hcl_0, by decide, rfl, h_in (List.mem_of_getElem? (i := 625) (by decide +kernel)) rfl⟩
theorem mv_RX6_53 : h_MV RX6 53 5 yX4_has cX4_has 2 (some .boolean) 1 := ⟨⟨_, _, hcl_4⟩, ⟨by decide, by decide, by decide +kernel⟩, h_in (List.mem_of_getElem? (i := 175) (by decide +kernel)) rfl, h_in (List.mem_of_getElem? (i := 176) (by decide +kernel)) rfl, h_in (List.mem_of_getElem? (i := 177) (by decide +kernel)) rfl, cd_X4_has⟩
theorem fl_RX6_59 : h_FL RX6 59 5 1 0 := ⟨_, _, _, hcl_4, by decide, rfl, h_in (List.mem_of_getElem? (i := 45) (by decide +kernel)) rfl⟩
theorem cd_X4_liesRound : Cond.code yX4_liesRound cX4_liesRound 3 (some .boolean) ∈ h_ws := h_in (List.mem_of_getElem? (i := 669) (by decide +kernel)) rfl
theorem mv_RX6_62 : h_MV RX6 62 5 yX4_liesRound cX4_liesRound 3 (some .boolean) 2 := ⟨⟨_, _, hcl_4⟩, ⟨by decide, by decide, by decide +kernel⟩, h_in (List.mem_of_getElem? (i := 666) (by decide +kernel)) rfl, h_in (List.mem_of_getElem? (i := 667) (by decide +kernel)) rfl, h_in (List.mem_of_getElem? (i := 668) (by decide +kernel)) rfl, cd_X4_liesRound⟩
theorem ob_RX7 : Cond.methodLink RX7 1 Lib.objectInit ∈ h_ws := h_in (List.mem_of_getElem? (i := 339) (by decide +kernel)) rfl
theorem fw_RX7_7 : h_FW RX7 7 8 0 0 := ⟨_, _, _, hcl_7, by decide, rfl, h_in (List.mem_of_getElem? (i := 357) (by decide +kernel)) rfl, rfl⟩
theorem lk_RX7_13 : Cond.classLink RX7 13 RX4 ∈ h_ws := h_in (List.mem_of_getElem? (i := 340) (by decide +kernel)) rfl
theorem ao_4 : RX4 ∈ h_aos := by decide
theorem ff_RX7_15 : h_FF RX7 15 8 2 1 := ⟨_, _, _, hcl_7, by decide, rfl, h_in (List.mem_of_getElem? (i := 360) (by decide +kernel)) rfl, rfl, rfl⟩
theorem lk_RX7_19 : Cond.classLink RX7 19 RX2 ∈ h_ws := h_in (List.mem_of_getElem? (i := 342) (by decide +kernel)) rfl
theorem cd_X2_init : Cond.code yX2_init cX2_init 1 none ∈ h_ws := h_in (List.mem_of_getElem? (i := 346) (by decide +kernel)) rfl
theorem mi_RX7_21 : h_MI RX7 21 yX2_init cX2_init 1 0 := ⟨rfl, ⟨by decide, by decide, by decide +kernel⟩, h_in (List.mem_of_getElem? (i := 344) (by decide +kernel)) rfl, h_in (List.mem_of_getElem? (i := 345) (by decide +kernel)) rfl, h_in (List.mem_of_getElem? (i := 12) (by decide +kernel)) rfl, cd_X2_init⟩
theorem ff_RX7_22 : h_FF RX7 22 8 4 1 := ⟨_, _, _, hcl_7, by decide, rfl, h_in (List.mem_of_getElem? (i := 364) (by decide +kernel)) rfl, rfl, rfl⟩
theorem fl_RX7_26 : h_FL RX7 26 8 3 0 := ⟨_, _, _, hcl_7, by decide, rfl, h_in (List.mem_of_getElem? (i := 362) (by decide +kernel)) rfl⟩
theorem fl_RX7_15 : h_FL RX7 15 8 2 1 := ⟨_, _, _, hcl_7, by decide, rfl, h_in (List.mem_of_getElem? (i := 360) (by decide +kernel)) rfl⟩
theorem fw_RX7_26 : h_FW RX7 26 8 3 0 := ⟨_, _, _, hcl_7, by decide, rfl, h_in (List.mem_of_getElem? (i := 362) (by decide +kernel)) rfl, rfl⟩
theorem mv_RX7_29 : h_MV RX7 29 5 yX4_same cX4_same 2 (some .boolean) 1 := ⟨⟨_, _, hcl_4⟩, ⟨by decide, by decide, by decide +kernel⟩, h_in (List.mem_of_getElem? (i := 406) (by decide +kernel)) rfl, h_in (List.mem_of_getElem? (i := 292) (by decide +kernel)) rfl, h_in (List.mem_of_getElem? (i := 293) (by decide +kernel)) rfl, cd_X4_same⟩
theorem mv_RX7_33 : h_MV RX7 33 5 yX4_has cX4_has 2 (some .boolean) 1 := ⟨⟨_, _, hcl_4⟩, ⟨by decide, by decide, by decide +kernel⟩, h_in (List.mem_of_getElem? (i := 523) (by decide +kernel)) rfl, h_in (List.mem_of_getElem? (i := 176) (by decide +kernel)) rfl, h_in (List.mem_of_getElem? (i := 177) (by decide +kernel)) rfl, cd_X4_has⟩
theorem ob_RX8 : Cond.methodLink RX8 3 Lib.objectInit ∈ h_ws := h_in (List.mem_of_getElem? (i := 32) (by decide +kernel)) rfl
theorem lk_RX8_9 : Cond.classLink RX8 9 RX6 ∈ h_ws := h_in (List.mem_of_getElem? (i := 33) (by decide +kernel)) rfl
theorem ao_6 : RX6 ∈ h_aos := by decide
theorem ff_RX8_11 : h_FF RX8 11 9 0 1 := ⟨_, _, _, hcl_8, by decide, rfl, h_in (List.mem_of_getElem? (i := 82) (by decide +kernel)) rfl, rfl, rfl⟩
theorem fl_RX8_11 : h_FL RX8 11 9 0 1 := ⟨_, _, _, hcl_8, by decide, rfl, h_in (List.mem_of_getElem? (i := 82) (by decide +kernel)) rfl⟩
theorem lk_RX8_17 : Cond.classLink RX8 17 RX4 ∈ h_ws := h_in (List.mem_of_getElem? (i := 36) (by decide +kernel)) rfl
theorem mi_RX8_19 : h_MI RX8 19 yX4_init cX4_init 3 2 := ⟨rfl, ⟨by decide, by decide, by decide +kernel⟩, h_in (List.mem_of_getElem? (i := 38) (by decide +kernel)) rfl, h_in (List.mem_of_getElem? (i := 39) (by decide +kernel)) rfl, h_in (List.mem_of_getElem? (i := 4) (by decide +kernel)) rfl, cd_X4_init⟩
theorem cd_X6_init : Cond.code yX6_init cX6_init 5 none ∈ h_ws := h_in (List.mem_of_getElem? (i := 55) (by decide +kernel)) rfl
theorem mi_RX8_22 : h_MI RX8 22 yX6_init cX6_init 5 3 := ⟨rfl, ⟨by decide, by decide, by decide +kernel⟩, h_in (List.mem_of_getElem? (i := 53) (by decide +kernel)) rfl, h_in (List.mem_of_getElem? (i := 54) (by decide +kernel)) rfl, h_in (List.mem_of_getElem? (i := 3) (by decide +kernel)) rfl, cd_X6_init⟩
theorem fl_RX8_25 : h_FL RX8 25 7 0 0 := ⟨_, _, _, hcl_6, by decide, rfl, h_in (List.mem_of_getElem? (i := 61) (by decide +kernel)) rfl⟩
theorem fl_RX8_80 : h_FL RX8 80 7 1 0 := ⟨_, _, _, hcl_6, by decide, rfl, h_in (List.mem_of_getElem? (i := 64) (by decide +kernel)) rfl⟩
theorem fl_RX8_29 : h_FL RX8 29 7 2 1 := ⟨_, _, _, hcl_6, by decide, rfl, h_in (List.mem_of_getElem? (i := 67) (by decide +kernel)) rfl⟩
theorem mv_RX8_33 : h_MV RX8 33 5 yX4_liesIn cX4_liesIn 2 (some .boolean) 1 := ⟨⟨_, _, hcl_4⟩, ⟨by decide, by decide, by decide +kernel⟩, h_in (List.mem_of_getElem? (i := 299) (by decide +kernel)) rfl, h_in (List.mem_of_getElem? (i := 300) (by decide +kernel)) rfl, h_in (List.mem_of_getElem? (i := 301) (by decide +kernel)) rfl, cd_X4_liesIn⟩
theorem cd_X8_isChild : Cond.code yX8_isChild cX8_isChild 3 (some .boolean) ∈ h_ws := h_in (List.mem_of_getElem? (i := 306) (by decide +kernel)) rfl
theorem mv_RX8_37 : h_MV RX8 37 9 yX8_isChild cX8_isChild 3 (some .boolean) 2 := ⟨⟨_, _, hcl_8⟩, ⟨by decide, by decide, by decide +kernel⟩, h_in (List.mem_of_getElem? (i := 303) (by decide +kernel)) rfl, h_in (List.mem_of_getElem? (i := 305) (by decide +kernel)) rfl, h_inS (q := (yX8_isChild, 1)) (List.mem_append_left _ (List.mem_of_getElem? (i := 3) rfl)) rfl, cd_X8_isChild⟩
theorem mv_RX8_41 : h_MV RX8 41 5 yX4_meets cX4_meets 2 (some .boolean) 1 := ⟨⟨_, _, hcl_4⟩, ⟨by decide, by decide, by decide +kernel⟩, h_in (List.mem_of_getElem? (i := 307) (by decide +kernel)) rfl, h_in (List.mem_of_getElem? (i := 308) (by decide +kernel)) rfl, h_in (List.mem_of_getElem? (i := 309) (by decide +kernel)) rfl, cd_X4_meets⟩
theorem cd_X8_owns : Cond.code yX8_owns cX8_owns 4 (some .boolean) ∈ h_ws := h_in (List.mem_of_getElem? (i := 298) (by decide +kernel)) rfl
theorem mv_RX8_44 : h_MV RX8 44 9 yX8_owns cX8_owns 4 (some .boolean) 2 := ⟨⟨_, _, hcl_8⟩, ⟨by decide, by decide, by decide +kernel⟩, h_in (List.mem_of_getElem? (i := 397) (by decide +kernel)) rfl, h_in (List.mem_of_getElem? (i := 296) (by decide +kernel)) rfl, h_in (List.mem_of_getElem? (i := 297) (by decide +kernel)) rfl, cd_X8_owns⟩
theorem mv_RX8_48 : h_MV RX8 48 5 yX4_has cX4_has 2 (some .boolean) 1 := ⟨⟨_, _, hcl_4⟩, ⟨by decide, by decide, by decide +kernel⟩, h_in (List.mem_of_getElem? (i := 652) (by decide +kernel)) rfl, h_in (List.mem_of_getElem? (i := 176) (by decide +kernel)) rfl, h_in (List.mem_of_getElem? (i := 177) (by decide +kernel)) rfl, cd_X4_has⟩
theorem mv_RX8_83 : h_MV RX8 83 5 yX4_liesRound cX4_liesRound 3 (some .boolean) 2 := ⟨⟨_, _, hcl_4⟩, ⟨by decide, by decide, by decide +kernel⟩, h_in (List.mem_of_getElem? (i := 674) (by decide +kernel)) rfl, h_in (List.mem_of_getElem? (i := 667) (by decide +kernel)) rfl, h_in (List.mem_of_getElem? (i := 668) (by decide +kernel)) rfl, cd_X4_liesRound⟩
theorem fl_RX8_55 : h_FL RX8 55 1 0 1 := ⟨_, _, _, hcl_0, by decide, rfl, h_in (List.mem_of_getElem? (i := 618) (by decide +kernel)) rfl⟩
theorem fl_RX8_52 : h_FL RX8 52 5 1 0 := ⟨_, _, _, hcl_4, by decide, rfl, h_in (List.mem_of_getElem? (i := 46) (by decide +kernel)) rfl⟩
theorem cd_X4_round : Cond.code yX4_round cX4_round 2 (some (.object RX4)) ∈ h_ws := h_in (List.mem_of_getElem? (i := 677) (by decide +kernel)) rfl
theorem ms_RX8_68 : h_MS RX8 68 yX4_round cX4_round 2 (some (.object RX4)) 2 := ⟨⟨by decide, by decide, by decide +kernel⟩, h_in (List.mem_of_getElem? (i := 675) (by decide +kernel)) rfl, h_in (List.mem_of_getElem? (i := 676) (by decide +kernel)) rfl, h_in (List.mem_of_getElem? (i := 4) (by decide +kernel)) rfl, cd_X4_round⟩
theorem cd_X6_hasOtherRound : Cond.code yX6_hasOtherRound cX6_hasOtherRound 6 (some .boolean) ∈ h_ws := h_in (List.mem_of_getElem? (i := 665) (by decide +kernel)) rfl
theorem mv_RX8_60 : h_MV RX8 60 7 yX6_hasOtherRound cX6_hasOtherRound 6 (some .boolean) 4 := ⟨⟨_, _, hcl_6⟩, ⟨by decide, by decide, by decide +kernel⟩, h_in (List.mem_of_getElem? (i := 662) (by decide +kernel)) rfl, h_in (List.mem_of_getElem? (i := 663) (by decide +kernel)) rfl, h_in (List.mem_of_getElem? (i := 664) (by decide +kernel)) rfl, cd_X6_hasOtherRound⟩
theorem cd_X8_hasChildRound : Cond.code yX8_hasChildRound cX8_hasChildRound 5 (some .boolean) ∈ h_ws := h_in (List.mem_of_getElem? (i := 673) (by decide +kernel)) rfl
theorem mv_RX8_64 : h_MV RX8 64 9 yX8_hasChildRound cX8_hasChildRound 5 (some .boolean) 3 := ⟨⟨_, _, hcl_8⟩, ⟨by decide, by decide, by decide +kernel⟩, h_in (List.mem_of_getElem? (i := 670) (by decide +kernel)) rfl, h_in (List.mem_of_getElem? (i := 672) (by decide +kernel)) rfl, h_inS (q := (yX8_hasChildRound, 1)) (List.mem_append_right _ (List.mem_append_left _ (List.mem_of_getElem? (i := 3) rfl))) rfl, cd_X8_hasChildRound⟩
theorem cd_X6_best : Cond.code yX6_best cX6_best 5 (some (.object RX0)) ∈ h_ws := h_in (List.mem_of_getElem? (i := 166) (by decide +kernel)) rfl
theorem mv_RX8_72 : h_MV RX8 72 7 yX6_best cX6_best 5 (some (.object RX0)) 2 := ⟨⟨_, _, hcl_6⟩, ⟨by decide, by decide, by decide +kernel⟩, h_in (List.mem_of_getElem? (i := 163) (by decide +kernel)) rfl, h_in (List.mem_of_getElem? (i := 164) (by decide +kernel)) rfl, h_in (List.mem_of_getElem? (i := 165) (by decide +kernel)) rfl, cd_X6_best⟩
theorem cd_X6_countEntries : Cond.code yX6_countEntries cX6_countEntries 4 (some .int) ∈ h_ws := h_in (List.mem_of_getElem? (i := 193) (by decide +kernel)) rfl
theorem mv_RX8_76 : h_MV RX8 76 7 yX6_countEntries cX6_countEntries 4 (some .int) 1 := ⟨⟨_, _, hcl_6⟩, ⟨by decide, by decide, by decide +kernel⟩, h_in (List.mem_of_getElem? (i := 190) (by decide +kernel)) rfl, h_in (List.mem_of_getElem? (i := 191) (by decide +kernel)) rfl, h_in (List.mem_of_getElem? (i := 192) (by decide +kernel)) rfl, cd_X6_countEntries⟩
theorem ob_RX9 : Cond.methodLink RX9 1 Lib.objectInit ∈ h_ws := h_in (List.mem_of_getElem? (i := 24) (by decide +kernel)) rfl
theorem lk_RX9_7 : Cond.classLink RX9 7 RX8 ∈ h_ws := h_in (List.mem_of_getElem? (i := 27) (by decide +kernel)) rfl
theorem cd_X8_init : Cond.code yX8_init cX8_init 1 none ∈ h_ws := h_in (List.mem_of_getElem? (i := 31) (by decide +kernel)) rfl
theorem mi_RX9_9 : h_MI RX9 9 yX8_init cX8_init 1 0 := ⟨rfl, ⟨by decide, by decide, by decide +kernel⟩, h_in (List.mem_of_getElem? (i := 29) (by decide +kernel)) rfl, h_in (List.mem_of_getElem? (i := 30) (by decide +kernel)) rfl, h_in (List.mem_of_getElem? (i := 2) (by decide +kernel)) rfl, cd_X8_init⟩
theorem ff_RX9_10 : h_FF RX9 10 10 0 1 := ⟨_, _, _, hcl_9, by decide, rfl, h_in (List.mem_of_getElem? (i := 112) (by decide +kernel)) rfl, rfl, rfl⟩
theorem lk_RX9_16 : Cond.classLink RX9 16 RX7 ∈ h_ws := h_in (List.mem_of_getElem? (i := 86) (by decide +kernel)) rfl
theorem ao_7 : RX7 ∈ h_aos := by decide
theorem ff_RX9_18 : h_FF RX9 18 10 1 1 := ⟨_, _, _, hcl_9, by decide, rfl, h_in (List.mem_of_getElem? (i := 113) (by decide +kernel)) rfl, rfl, rfl⟩
theorem ff_RX9_22 : h_FF RX9 22 10 2 1 := ⟨_, _, _, hcl_9, by decide, rfl, h_in (List.mem_of_getElem? (i := 114) (by decide +kernel)) rfl, rfl, rfl⟩
theorem ff_RX9_26 : h_FF RX9 26 10 3 1 := ⟨_, _, _, hcl_9, by decide, rfl, h_in (List.mem_of_getElem? (i := 115) (by decide +kernel)) rfl, rfl, rfl⟩
theorem lk_RX9_29 : Cond.classLink RX9 29 RX5 ∈ h_ws := h_in (List.mem_of_getElem? (i := 88) (by decide +kernel)) rfl
theorem cd_X5_init : Cond.code yX5_init cX5_init 1 none ∈ h_ws := h_in (List.mem_of_getElem? (i := 92) (by decide +kernel)) rfl
theorem mi_RX9_31 : h_MI RX9 31 yX5_init cX5_init 1 0 := ⟨rfl, ⟨by decide, by decide, by decide +kernel⟩, h_in (List.mem_of_getElem? (i := 90) (by decide +kernel)) rfl, h_in (List.mem_of_getElem? (i := 91) (by decide +kernel)) rfl, h_in (List.mem_of_getElem? (i := 5) (by decide +kernel)) rfl, cd_X5_init⟩
theorem ff_RX9_32 : h_FF RX9 32 10 4 1 := ⟨_, _, _, hcl_9, by decide, rfl, h_in (List.mem_of_getElem? (i := 116) (by decide +kernel)) rfl, rfl, rfl⟩
theorem ff_RX9_36 : h_FF RX9 36 10 5 1 := ⟨_, _, _, hcl_9, by decide, rfl, h_in (List.mem_of_getElem? (i := 117) (by decide +kernel)) rfl, rfl, rfl⟩
theorem ff_RX9_39 : h_FF RX9 39 10 6 1 := ⟨_, _, _, hcl_9, by decide, rfl, h_in (List.mem_of_getElem? (i := 118) (by decide +kernel)) rfl, rfl, rfl⟩
theorem lk_RX9_42 : Cond.classLink RX9 42 RX3 ∈ h_ws := h_in (List.mem_of_getElem? (i := 110) (by decide +kernel)) rfl
theorem ao_3 : RX3 ∈ h_aos := by decide
theorem ff_RX9_44 : h_FF RX9 44 10 7 1 := ⟨_, _, _, hcl_9, by decide, rfl, h_in (List.mem_of_getElem? (i := 119) (by decide +kernel)) rfl, rfl, rfl⟩
theorem fw_RX9_48 : h_FW RX9 48 10 10 0 := ⟨_, _, _, hcl_9, by decide, rfl, h_in (List.mem_of_getElem? (i := 122) (by decide +kernel)) rfl, rfl⟩
theorem fl_RX9_22 : h_FL RX9 22 10 2 1 := ⟨_, _, _, hcl_9, by decide, rfl, h_in (List.mem_of_getElem? (i := 114) (by decide +kernel)) rfl⟩
theorem fl_RX9_18 : h_FL RX9 18 10 1 1 := ⟨_, _, _, hcl_9, by decide, rfl, h_in (List.mem_of_getElem? (i := 113) (by decide +kernel)) rfl⟩
theorem fl_RX9_132 : h_FL RX9 132 8 0 0 := ⟨_, _, _, hcl_7, by decide, rfl, h_in (List.mem_of_getElem? (i := 358) (by decide +kernel)) rfl⟩
theorem cd_X7_holds : Cond.code yX7_holds cX7_holds 3 (some .boolean) ∈ h_ws := h_in (List.mem_of_getElem? (i := 405) (by decide +kernel)) rfl
theorem mv_RX9_277 : h_MV RX9 277 8 yX7_holds cX7_holds 3 (some .boolean) 1 := ⟨⟨_, _, hcl_7⟩, ⟨by decide, by decide, by decide +kernel⟩, h_in (List.mem_of_getElem? (i := 402) (by decide +kernel)) rfl, h_in (List.mem_of_getElem? (i := 403) (by decide +kernel)) rfl, h_in (List.mem_of_getElem? (i := 404) (by decide +kernel)) rfl, cd_X7_holds⟩
theorem ck_RX9_290 : Cond.constant RX9 290 (16777619) ∈ h_ws := h_in (List.mem_of_getElem? (i := 439) (by decide +kernel)) rfl
theorem ck_RX9_283 : Cond.constant RX9 283 (40503) ∈ h_ws := h_in (List.mem_of_getElem? (i := 435) (by decide +kernel)) rfl
theorem cd_X9_mix : Cond.code yX9_mix cX9_mix 3 (some .int) ∈ h_ws := h_in (List.mem_of_getElem? (i := 438) (by decide +kernel)) rfl
theorem ms_RX9_284 : h_MS RX9 284 yX9_mix cX9_mix 3 (some .int) 2 := ⟨⟨by decide, by decide, by decide +kernel⟩, h_in (List.mem_of_getElem? (i := 436) (by decide +kernel)) rfl, h_in (List.mem_of_getElem? (i := 437) (by decide +kernel)) rfl, h_in (List.mem_of_getElem? (i := 1) (by decide +kernel)) rfl, cd_X9_mix⟩
theorem fl_RX9_287 : h_FL RX9 287 5 0 0 := ⟨_, _, _, hcl_4, by decide, rfl, h_in (List.mem_of_getElem? (i := 43) (by decide +kernel)) rfl⟩
theorem fl_RX9_242 : h_FL RX9 242 5 1 0 := ⟨_, _, _, hcl_4, by decide, rfl, h_in (List.mem_of_getElem? (i := 47) (by decide +kernel)) rfl⟩
theorem fl_RX9_39 : h_FL RX9 39 10 6 1 := ⟨_, _, _, hcl_9, by decide, rfl, h_in (List.mem_of_getElem? (i := 118) (by decide +kernel)) rfl⟩
theorem cd_X9_tag : Cond.code yX9_tag cX9_tag 5 (some .int) ∈ h_ws := h_in (List.mem_of_getElem? (i := 434) (by decide +kernel)) rfl
theorem ms_RX9_294 : h_MS RX9 294 yX9_tag cX9_tag 5 (some .int) 4 := ⟨⟨by decide, by decide, by decide +kernel⟩, h_in (List.mem_of_getElem? (i := 432) (by decide +kernel)) rfl, h_in (List.mem_of_getElem? (i := 433) (by decide +kernel)) rfl, h_in (List.mem_of_getElem? (i := 1) (by decide +kernel)) rfl, cd_X9_tag⟩
theorem fl_RX9_32 : h_FL RX9 32 10 4 1 := ⟨_, _, _, hcl_9, by decide, rfl, h_in (List.mem_of_getElem? (i := 116) (by decide +kernel)) rfl⟩
theorem cd_X5_add : Cond.code yX5_add cX5_add 4 none ∈ h_ws := h_in (List.mem_of_getElem? (i := 443) (by decide +kernel)) rfl
theorem mv_RX9_291 : h_MV RX9 291 6 yX5_add cX5_add 4 none 3 := ⟨⟨_, _, hcl_5⟩, ⟨by decide, by decide, by decide +kernel⟩, h_in (List.mem_of_getElem? (i := 440) (by decide +kernel)) rfl, h_in (List.mem_of_getElem? (i := 441) (by decide +kernel)) rfl, h_in (List.mem_of_getElem? (i := 442) (by decide +kernel)) rfl, cd_X5_add⟩
theorem cd_X1_isHole : Cond.code yX1_isHole cX1_isHole 1 (some .boolean) ∈ h_ws := h_in (List.mem_of_getElem? (i := 540) (by decide +kernel)) rfl
theorem mv_RX9_326 : h_MV RX9 326 2 yX1_isHole cX1_isHole 1 (some .boolean) 0 := ⟨⟨_, _, hcl_1⟩, ⟨by decide, by decide, by decide +kernel⟩, h_in (List.mem_of_getElem? (i := 537) (by decide +kernel)) rfl, h_in (List.mem_of_getElem? (i := 538) (by decide +kernel)) rfl, h_in (List.mem_of_getElem? (i := 539) (by decide +kernel)) rfl, cd_X1_isHole⟩
theorem fw_RX9_215 : h_FW RX9 215 4 3 0 := ⟨_, _, _, hcl_3, by decide, rfl, h_in (List.mem_of_getElem? (i := 491) (by decide +kernel)) rfl, rfl⟩
theorem fl_RX9_245 : h_FL RX9 245 2 1 0 := ⟨_, _, _, hcl_1, by decide, rfl, h_in (List.mem_of_getElem? (i := 704) (by decide +kernel)) rfl⟩
theorem fl_RX9_304 : h_FL RX9 304 4 1 0 := ⟨_, _, _, hcl_3, by decide, rfl, h_in (List.mem_of_getElem? (i := 487) (by decide +kernel)) rfl⟩
theorem fl_RX9_172 : h_FL RX9 172 4 0 0 := ⟨_, _, _, hcl_3, by decide, rfl, h_in (List.mem_of_getElem? (i := 485) (by decide +kernel)) rfl⟩
theorem fl_RX9_305 : h_FL RX9 305 4 2 0 := ⟨_, _, _, hcl_3, by decide, rfl, h_in (List.mem_of_getElem? (i := 489) (by decide +kernel)) rfl⟩
theorem cd_X9_postShort : Cond.code yX9_postShort cX9_postShort 6 none ∈ h_ws := h_in (List.mem_of_getElem? (i := 544) (by decide +kernel)) rfl
theorem mv_RX9_308 : h_MV RX9 308 10 yX9_postShort cX9_postShort 6 none 5 := ⟨⟨_, _, hcl_9⟩, ⟨by decide, by decide, by decide +kernel⟩, h_in (List.mem_of_getElem? (i := 541) (by decide +kernel)) rfl, h_in (List.mem_of_getElem? (i := 543) (by decide +kernel)) rfl, h_inS (q := (yX9_postShort, 14)) (List.mem_append_left _ (List.mem_of_getElem? (i := 11) rfl)) rfl, cd_X9_postShort⟩
theorem fl_RX9_48 : h_FL RX9 48 10 10 0 := ⟨_, _, _, hcl_9, by decide, rfl, h_in (List.mem_of_getElem? (i := 122) (by decide +kernel)) rfl⟩
theorem cd_X9_draw : Cond.code yX9_draw cX9_draw 1 (some .int) ∈ h_ws := h_in (List.mem_of_getElem? (i := 552) (by decide +kernel)) rfl
theorem mv_RX9_298 : h_MV RX9 298 10 yX9_draw cX9_draw 1 (some .int) 0 := ⟨⟨_, _, hcl_9⟩, ⟨by decide, by decide, by decide +kernel⟩, h_in (List.mem_of_getElem? (i := 549) (by decide +kernel)) rfl, h_in (List.mem_of_getElem? (i := 551) (by decide +kernel)) rfl, h_inS (q := (yX9_draw, 14)) (List.mem_append_left _ (List.mem_of_getElem? (i := 13) rfl)) rfl, cd_X9_draw⟩
theorem fw_RX9_301 : h_FW RX9 301 4 4 0 := ⟨_, _, _, hcl_3, by decide, rfl, h_in (List.mem_of_getElem? (i := 492) (by decide +kernel)) rfl, rfl⟩
theorem fl_RX9_301 : h_FL RX9 301 4 4 0 := ⟨_, _, _, hcl_3, by decide, rfl, h_in (List.mem_of_getElem? (i := 492) (by decide +kernel)) rfl⟩
theorem cd_X7_hasEndpoint : Cond.code yX7_hasEndpoint cX7_hasEndpoint 3 (some .boolean) ∈ h_ws := h_in (List.mem_of_getElem? (i := 522) (by decide +kernel)) rfl
theorem mv_RX9_312 : h_MV RX9 312 8 yX7_hasEndpoint cX7_hasEndpoint 3 (some .boolean) 1 := ⟨⟨_, _, hcl_7⟩, ⟨by decide, by decide, by decide +kernel⟩, h_in (List.mem_of_getElem? (i := 519) (by decide +kernel)) rfl, h_in (List.mem_of_getElem? (i := 520) (by decide +kernel)) rfl, h_in (List.mem_of_getElem? (i := 521) (by decide +kernel)) rfl, cd_X7_hasEndpoint⟩
theorem fl_RX9_227 : h_FL RX9 227 8 4 1 := ⟨_, _, _, hcl_7, by decide, rfl, h_in (List.mem_of_getElem? (i := 365) (by decide +kernel)) rfl⟩
theorem fl_RX9_135 : h_FL RX9 135 10 9 0 := ⟨_, _, _, hcl_9, by decide, rfl, h_in (List.mem_of_getElem? (i := 121) (by decide +kernel)) rfl⟩
theorem cd_X2_find : Cond.code yX2_find cX2_find 4 (some (.object RX1)) ∈ h_ws := h_in (List.mem_of_getElem? (i := 531) (by decide +kernel)) rfl
theorem mv_RX9_231 : h_MV RX9 231 3 yX2_find cX2_find 4 (some (.object RX1)) 2 := ⟨⟨_, _, hcl_2⟩, ⟨by decide, by decide, by decide +kernel⟩, h_in (List.mem_of_getElem? (i := 528) (by decide +kernel)) rfl, h_in (List.mem_of_getElem? (i := 529) (by decide +kernel)) rfl, h_in (List.mem_of_getElem? (i := 530) (by decide +kernel)) rfl, cd_X2_find⟩
theorem cd_X9_postRequest : Cond.code yX9_postRequest cX9_postRequest 3 none ∈ h_ws := h_in (List.mem_of_getElem? (i := 548) (by decide +kernel)) rfl
theorem mv_RX9_322 : h_MV RX9 322 10 yX9_postRequest cX9_postRequest 3 none 2 := ⟨⟨_, _, hcl_9⟩, ⟨by decide, by decide, by decide +kernel⟩, h_in (List.mem_of_getElem? (i := 545) (by decide +kernel)) rfl, h_in (List.mem_of_getElem? (i := 547) (by decide +kernel)) rfl, h_inS (q := (yX9_postRequest, 14)) (List.mem_append_left _ (List.mem_of_getElem? (i := 12) rfl)) rfl, cd_X9_postRequest⟩
theorem cd_X9_follow : Cond.code yX9_follow cX9_follow 3 none ∈ h_ws := h_in (List.mem_of_getElem? (i := 536) (by decide +kernel)) rfl
theorem mv_RX9_318 : h_MV RX9 318 10 yX9_follow cX9_follow 3 none 2 := ⟨⟨_, _, hcl_9⟩, ⟨by decide, by decide, by decide +kernel⟩, h_in (List.mem_of_getElem? (i := 533) (by decide +kernel)) rfl, h_in (List.mem_of_getElem? (i := 535) (by decide +kernel)) rfl, h_inS (q := (yX9_follow, 14)) (List.mem_append_left _ (List.mem_of_getElem? (i := 10) rfl)) rfl, cd_X9_follow⟩
theorem cd_X3_arriveAt : Cond.code yX3_arriveAt cX3_arriveAt 2 none ∈ h_ws := h_in (List.mem_of_getElem? (i := 527) (by decide +kernel)) rfl
theorem mv_RX9_315 : h_MV RX9 315 4 yX3_arriveAt cX3_arriveAt 2 none 1 := ⟨⟨_, _, hcl_3⟩, ⟨by decide, by decide, by decide +kernel⟩, h_in (List.mem_of_getElem? (i := 524) (by decide +kernel)) rfl, h_in (List.mem_of_getElem? (i := 525) (by decide +kernel)) rfl, h_in (List.mem_of_getElem? (i := 526) (by decide +kernel)) rfl, cd_X3_arriveAt⟩
theorem fl_RX9_157 : h_FL RX9 157 10 8 0 := ⟨_, _, _, hcl_9, by decide, rfl, h_in (List.mem_of_getElem? (i := 120) (by decide +kernel)) rfl⟩
theorem fl_RX9_44 : h_FL RX9 44 10 7 1 := ⟨_, _, _, hcl_9, by decide, rfl, h_in (List.mem_of_getElem? (i := 119) (by decide +kernel)) rfl⟩
theorem fl_RX9_264 : h_FL RX9 264 10 13 0 := ⟨_, _, _, hcl_9, by decide, rfl, h_in (List.mem_of_getElem? (i := 125) (by decide +kernel)) rfl⟩
theorem fw_RX9_264 : h_FW RX9 264 10 13 0 := ⟨_, _, _, hcl_9, by decide, rfl, h_in (List.mem_of_getElem? (i := 125) (by decide +kernel)) rfl, rfl⟩
theorem cd_X9_siteAt : Cond.code yX9_siteAt cX9_siteAt 2 (some (.object RX7)) ∈ h_ws := h_in (List.mem_of_getElem? (i := 387) (by decide +kernel)) rfl
theorem mv_RX9_107 : h_MV RX9 107 10 yX9_siteAt cX9_siteAt 2 (some (.object RX7)) 1 := ⟨⟨_, _, hcl_9⟩, ⟨by decide, by decide, by decide +kernel⟩, h_in (List.mem_of_getElem? (i := 384) (by decide +kernel)) rfl, h_in (List.mem_of_getElem? (i := 386) (by decide +kernel)) rfl, h_inS (q := (yX9_siteAt, 14)) (List.mem_append_left _ (List.mem_of_getElem? (i := 5) rfl)) rfl, cd_X9_siteAt⟩
theorem cd_X3_lose : Cond.code yX3_lose cX3_lose 1 none ∈ h_ws := h_in (List.mem_of_getElem? (i := 741) (by decide +kernel)) rfl
theorem mv_RX9_405 : h_MV RX9 405 4 yX3_lose cX3_lose 1 none 0 := ⟨⟨_, _, hcl_3⟩, ⟨by decide, by decide, by decide +kernel⟩, h_in (List.mem_of_getElem? (i := 738) (by decide +kernel)) rfl, h_in (List.mem_of_getElem? (i := 739) (by decide +kernel)) rfl, h_in (List.mem_of_getElem? (i := 740) (by decide +kernel)) rfl, cd_X3_lose⟩
theorem fl_RX9_26 : h_FL RX9 26 10 3 1 := ⟨_, _, _, hcl_9, by decide, rfl, h_in (List.mem_of_getElem? (i := 115) (by decide +kernel)) rfl⟩
theorem fl_RX9_36 : h_FL RX9 36 10 5 1 := ⟨_, _, _, hcl_9, by decide, rfl, h_in (List.mem_of_getElem? (i := 117) (by decide +kernel)) rfl⟩
theorem cd_X9_postSolicit : Cond.code yX9_postSolicit cX9_postSolicit 4 none ∈ h_ws := h_in (List.mem_of_getElem? (i := 745) (by decide +kernel)) rfl
theorem mv_RX9_402 : h_MV RX9 402 10 yX9_postSolicit cX9_postSolicit 4 none 3 := ⟨⟨_, _, hcl_9⟩, ⟨by decide, by decide, by decide +kernel⟩, h_in (List.mem_of_getElem? (i := 742) (by decide +kernel)) rfl, h_in (List.mem_of_getElem? (i := 744) (by decide +kernel)) rfl, h_inS (q := (yX9_postSolicit, 14)) (List.mem_append_right _ (List.mem_append_left _ (List.mem_of_getElem? (i := 11) rfl))) rfl, cd_X9_postSolicit⟩
theorem cd_X9_packetAt : Cond.code yX9_packetAt cX9_packetAt 2 (some (.object RX3)) ∈ h_ws := h_in (List.mem_of_getElem? (i := 733) (by decide +kernel)) rfl
theorem mv_RX9_209 : h_MV RX9 209 10 yX9_packetAt cX9_packetAt 2 (some (.object RX3)) 1 := ⟨⟨_, _, hcl_9⟩, ⟨by decide, by decide, by decide +kernel⟩, h_in (List.mem_of_getElem? (i := 730) (by decide +kernel)) rfl, h_in (List.mem_of_getElem? (i := 732) (by decide +kernel)) rfl, h_inS (q := (yX9_packetAt, 14)) (List.mem_append_right _ (List.mem_append_left _ (List.mem_of_getElem? (i := 9) rfl))) rfl, cd_X9_packetAt⟩
theorem cd_X9_isPlace : Cond.code yX9_isPlace cX9_isPlace 1 (some .boolean) ∈ h_ws := h_in (List.mem_of_getElem? (i := 329) (by decide +kernel)) rfl
theorem ms_RX9_94 : h_MS RX9 94 yX9_isPlace cX9_isPlace 1 (some .boolean) 1 := ⟨⟨by decide, by decide, by decide +kernel⟩, h_in (List.mem_of_getElem? (i := 327) (by decide +kernel)) rfl, h_in (List.mem_of_getElem? (i := 328) (by decide +kernel)) rfl, h_in (List.mem_of_getElem? (i := 1) (by decide +kernel)) rfl, cd_X9_isPlace⟩
theorem cd_X9_hostOf : Cond.code yX9_hostOf cX9_hostOf 3 (some .int) ∈ h_ws := h_in (List.mem_of_getElem? (i := 333) (by decide +kernel)) rfl
theorem mv_RX9_98 : h_MV RX9 98 10 yX9_hostOf cX9_hostOf 3 (some .int) 1 := ⟨⟨_, _, hcl_9⟩, ⟨by decide, by decide, by decide +kernel⟩, h_in (List.mem_of_getElem? (i := 330) (by decide +kernel)) rfl, h_in (List.mem_of_getElem? (i := 332) (by decide +kernel)) rfl, h_inS (q := (yX9_hostOf, 14)) (List.mem_append_left _ (List.mem_of_getElem? (i := 4) rfl)) rfl, cd_X9_hostOf⟩
theorem cd_X9_passOn : Cond.code yX9_passOn cX9_passOn 6 none ∈ h_ws := h_in (List.mem_of_getElem? (i := 737) (by decide +kernel)) rfl
theorem mv_RX9_399 : h_MV RX9 399 10 yX9_passOn cX9_passOn 6 none 2 := ⟨⟨_, _, hcl_9⟩, ⟨by decide, by decide, by decide +kernel⟩, h_in (List.mem_of_getElem? (i := 734) (by decide +kernel)) rfl, h_in (List.mem_of_getElem? (i := 736) (by decide +kernel)) rfl, h_inS (q := (yX9_passOn, 14)) (List.mem_append_right _ (List.mem_append_left _ (List.mem_of_getElem? (i := 10) rfl))) rfl, cd_X9_passOn⟩
theorem cd_X4_of : Cond.code yX4_of cX4_of 2 (some (.object RX4)) ∈ h_ws := h_in (List.mem_of_getElem? (i := 288) (by decide +kernel)) rfl
theorem ms_RX9_63 : h_MS RX9 63 yX4_of cX4_of 2 (some (.object RX4)) 2 := ⟨⟨by decide, by decide, by decide +kernel⟩, h_in (List.mem_of_getElem? (i := 286) (by decide +kernel)) rfl, h_in (List.mem_of_getElem? (i := 287) (by decide +kernel)) rfl, h_in (List.mem_of_getElem? (i := 4) (by decide +kernel)) rfl, cd_X4_of⟩
theorem fl_RX9_258 : h_FL RX9 258 10 11 0 := ⟨_, _, _, hcl_9, by decide, rfl, h_in (List.mem_of_getElem? (i := 123) (by decide +kernel)) rfl⟩
theorem fw_RX9_258 : h_FW RX9 258 10 11 0 := ⟨_, _, _, hcl_9, by decide, rfl, h_in (List.mem_of_getElem? (i := 123) (by decide +kernel)) rfl, rfl⟩
theorem fl_RX9_10 : h_FL RX9 10 10 0 1 := ⟨_, _, _, hcl_9, by decide, rfl, h_in (List.mem_of_getElem? (i := 112) (by decide +kernel)) rfl⟩
theorem mv_RX9_79 : h_MV RX9 79 9 yX8_owns cX8_owns 4 (some .boolean) 2 := ⟨⟨_, _, hcl_8⟩, ⟨by decide, by decide, by decide +kernel⟩, h_in (List.mem_of_getElem? (i := 295) (by decide +kernel)) rfl, h_in (List.mem_of_getElem? (i := 296) (by decide +kernel)) rfl, h_in (List.mem_of_getElem? (i := 297) (by decide +kernel)) rfl, cd_X8_owns⟩
theorem cd_X6_isFresh : Cond.code yX6_isFresh cX6_isFresh 3 (some .boolean) ∈ h_ws := h_in (List.mem_of_getElem? (i := 600) (by decide +kernel)) rfl
theorem mv_RX9_349 : h_MV RX9 349 7 yX6_isFresh cX6_isFresh 3 (some .boolean) 2 := ⟨⟨_, _, hcl_6⟩, ⟨by decide, by decide, by decide +kernel⟩, h_in (List.mem_of_getElem? (i := 597) (by decide +kernel)) rfl, h_in (List.mem_of_getElem? (i := 598) (by decide +kernel)) rfl, h_in (List.mem_of_getElem? (i := 599) (by decide +kernel)) rfl, cd_X6_isFresh⟩
theorem cd_X6_hasRoom : Cond.code yX6_hasRoom cX6_hasRoom 5 (some .boolean) ∈ h_ws := h_in (List.mem_of_getElem? (i := 604) (by decide +kernel)) rfl
theorem mv_RX9_353 : h_MV RX9 353 7 yX6_hasRoom cX6_hasRoom 5 (some .boolean) 3 := ⟨⟨_, _, hcl_6⟩, ⟨by decide, by decide, by decide +kernel⟩, h_in (List.mem_of_getElem? (i := 601) (by decide +kernel)) rfl, h_in (List.mem_of_getElem? (i := 602) (by decide +kernel)) rfl, h_in (List.mem_of_getElem? (i := 603) (by decide +kernel)) rfl, cd_X6_hasRoom⟩
theorem lk_RX9_254 : Cond.classLink RX9 254 RX0 ∈ h_ws := h_in (List.mem_of_getElem? (i := 610) (by decide +kernel)) rfl
theorem cd_X0_init : Cond.code yX0_init cX0_init 6 none ∈ h_ws := h_in (List.mem_of_getElem? (i := 614) (by decide +kernel)) rfl
theorem mi_RX9_357 : h_MI RX9 357 yX0_init cX0_init 6 5 := ⟨rfl, ⟨by decide, by decide, by decide +kernel⟩, h_in (List.mem_of_getElem? (i := 612) (by decide +kernel)) rfl, h_in (List.mem_of_getElem? (i := 613) (by decide +kernel)) rfl, h_in (List.mem_of_getElem? (i := 17) (by decide +kernel)) rfl, cd_X0_init⟩
theorem cd_X6_keep : Cond.code yX6_keep cX6_keep 4 none ∈ h_ws := h_in (List.mem_of_getElem? (i := 642) (by decide +kernel)) rfl
theorem mv_RX9_360 : h_MV RX9 360 7 yX6_keep cX6_keep 4 none 2 := ⟨⟨_, _, hcl_6⟩, ⟨by decide, by decide, by decide +kernel⟩, h_in (List.mem_of_getElem? (i := 639) (by decide +kernel)) rfl, h_in (List.mem_of_getElem? (i := 640) (by decide +kernel)) rfl, h_in (List.mem_of_getElem? (i := 641) (by decide +kernel)) rfl, cd_X6_keep⟩
theorem fl_RX9_221 : h_FL RX9 221 4 6 0 := ⟨_, _, _, hcl_3, by decide, rfl, h_in (List.mem_of_getElem? (i := 495) (by decide +kernel)) rfl⟩
theorem fw_RX9_221 : h_FW RX9 221 4 6 0 := ⟨_, _, _, hcl_3, by decide, rfl, h_in (List.mem_of_getElem? (i := 495) (by decide +kernel)) rfl, rfl⟩
theorem fl_RX9_215 : h_FL RX9 215 4 3 0 := ⟨_, _, _, hcl_3, by decide, rfl, h_in (List.mem_of_getElem? (i := 491) (by decide +kernel)) rfl⟩
theorem cd_X9_waiting : Cond.code yX9_waiting cX9_waiting 5 (some (.object RX3)) ∈ h_ws := h_in (List.mem_of_getElem? (i := 685) (by decide +kernel)) rfl
theorem mv_RX9_381 : h_MV RX9 381 10 yX9_waiting cX9_waiting 5 (some (.object RX3)) 2 := ⟨⟨_, _, hcl_9⟩, ⟨by decide, by decide, by decide +kernel⟩, h_in (List.mem_of_getElem? (i := 682) (by decide +kernel)) rfl, h_in (List.mem_of_getElem? (i := 684) (by decide +kernel)) rfl, h_inS (q := (yX9_waiting, 14)) (List.mem_append_right _ (List.mem_append_left _ (List.mem_of_getElem? (i := 5) rfl))) rfl, cd_X9_waiting⟩
theorem fl_RX9_261 : h_FL RX9 261 10 12 0 := ⟨_, _, _, hcl_9, by decide, rfl, h_in (List.mem_of_getElem? (i := 124) (by decide +kernel)) rfl⟩
theorem fw_RX9_261 : h_FW RX9 261 10 12 0 := ⟨_, _, _, hcl_9, by decide, rfl, h_in (List.mem_of_getElem? (i := 124) (by decide +kernel)) rfl, rfl⟩
theorem mv_RX9_364 : h_MV RX9 364 5 yX4_has cX4_has 2 (some .boolean) 1 := ⟨⟨_, _, hcl_4⟩, ⟨by decide, by decide, by decide +kernel⟩, h_in (List.mem_of_getElem? (i := 647) (by decide +kernel)) rfl, h_in (List.mem_of_getElem? (i := 176) (by decide +kernel)) rfl, h_in (List.mem_of_getElem? (i := 177) (by decide +kernel)) rfl, cd_X4_has⟩
theorem cd_X9_isValue : Cond.code yX9_isValue cX9_isValue 2 (some .boolean) ∈ h_ws := h_in (List.mem_of_getElem? (i := 688) (by decide +kernel)) rfl
theorem ms_RX9_385 : h_MS RX9 385 yX9_isValue cX9_isValue 2 (some .boolean) 2 := ⟨⟨by decide, by decide, by decide +kernel⟩, h_in (List.mem_of_getElem? (i := 686) (by decide +kernel)) rfl, h_in (List.mem_of_getElem? (i := 687) (by decide +kernel)) rfl, h_in (List.mem_of_getElem? (i := 1) (by decide +kernel)) rfl, cd_X9_isValue⟩
theorem lk_RX9_238 : Cond.classLink RX9 238 RX1 ∈ h_ws := h_in (List.mem_of_getElem? (i := 693) (by decide +kernel)) rfl
theorem cd_X1_init : Cond.code yX1_init cX1_init 5 none ∈ h_ws := h_in (List.mem_of_getElem? (i := 697) (by decide +kernel)) rfl
theorem mi_RX9_392 : h_MI RX9 392 yX1_init cX1_init 5 4 := ⟨rfl, ⟨by decide, by decide, by decide +kernel⟩, h_in (List.mem_of_getElem? (i := 695) (by decide +kernel)) rfl, h_in (List.mem_of_getElem? (i := 696) (by decide +kernel)) rfl, h_in (List.mem_of_getElem? (i := 18) (by decide +kernel)) rfl, cd_X1_init⟩
theorem cd_X2_make : Cond.code yX2_make cX2_make 4 none ∈ h_ws := h_in (List.mem_of_getElem? (i := 720) (by decide +kernel)) rfl
theorem mv_RX9_395 : h_MV RX9 395 3 yX2_make cX2_make 4 none 2 := ⟨⟨_, _, hcl_2⟩, ⟨by decide, by decide, by decide +kernel⟩, h_in (List.mem_of_getElem? (i := 717) (by decide +kernel)) rfl, h_in (List.mem_of_getElem? (i := 718) (by decide +kernel)) rfl, h_in (List.mem_of_getElem? (i := 719) (by decide +kernel)) rfl, cd_X2_make⟩
theorem cd_X9_refer : Cond.code yX9_refer cX9_refer 3 none ∈ h_ws := h_in (List.mem_of_getElem? (i := 692) (by decide +kernel)) rfl
theorem mv_RX9_388 : h_MV RX9 388 10 yX9_refer cX9_refer 3 none 2 := ⟨⟨_, _, hcl_9⟩, ⟨by decide, by decide, by decide +kernel⟩, h_in (List.mem_of_getElem? (i := 689) (by decide +kernel)) rfl, h_in (List.mem_of_getElem? (i := 691) (by decide +kernel)) rfl, h_inS (q := (yX9_refer, 14)) (List.mem_append_right _ (List.mem_append_left _ (List.mem_of_getElem? (i := 6) rfl))) rfl, cd_X9_refer⟩
theorem fl_RX9_69 : h_FL RX9 69 7 2 1 := ⟨_, _, _, hcl_6, by decide, rfl, h_in (List.mem_of_getElem? (i := 66) (by decide +kernel)) rfl⟩
theorem cd_X8_childWith : Cond.code yX8_childWith cX8_childWith 4 (some (.object RX6)) ∈ h_ws := h_in (List.mem_of_getElem? (i := 651) (by decide +kernel)) rfl
theorem mv_RX9_365 : h_MV RX9 365 9 yX8_childWith cX8_childWith 4 (some (.object RX6)) 2 := ⟨⟨_, _, hcl_8⟩, ⟨by decide, by decide, by decide +kernel⟩, h_in (List.mem_of_getElem? (i := 648) (by decide +kernel)) rfl, h_in (List.mem_of_getElem? (i := 649) (by decide +kernel)) rfl, h_in (List.mem_of_getElem? (i := 650) (by decide +kernel)) rfl, cd_X8_childWith⟩
theorem mv_RX9_373 : h_MV RX9 373 7 yX6_best cX6_best 5 (some (.object RX0)) 2 := ⟨⟨_, _, hcl_6⟩, ⟨by decide, by decide, by decide +kernel⟩, h_in (List.mem_of_getElem? (i := 657) (by decide +kernel)) rfl, h_in (List.mem_of_getElem? (i := 164) (by decide +kernel)) rfl, h_in (List.mem_of_getElem? (i := 165) (by decide +kernel)) rfl, cd_X6_best⟩
theorem cd_X8_piece : Cond.code yX8_piece cX8_piece 6 (some (.object RX4)) ∈ h_ws := h_in (List.mem_of_getElem? (i := 661) (by decide +kernel)) rfl
theorem mv_RX9_376 : h_MV RX9 376 9 yX8_piece cX8_piece 6 (some (.object RX4)) 4 := ⟨⟨_, _, hcl_8⟩, ⟨by decide, by decide, by decide +kernel⟩, h_in (List.mem_of_getElem? (i := 658) (by decide +kernel)) rfl, h_in (List.mem_of_getElem? (i := 659) (by decide +kernel)) rfl, h_in (List.mem_of_getElem? (i := 660) (by decide +kernel)) rfl, cd_X8_piece⟩
theorem cd_X9_postReply : Cond.code yX9_postReply cX9_postReply 7 none ∈ h_ws := h_in (List.mem_of_getElem? (i := 656) (by decide +kernel)) rfl
theorem mv_RX9_369 : h_MV RX9 369 10 yX9_postReply cX9_postReply 7 none 6 := ⟨⟨_, _, hcl_9⟩, ⟨by decide, by decide, by decide +kernel⟩, h_in (List.mem_of_getElem? (i := 653) (by decide +kernel)) rfl, h_in (List.mem_of_getElem? (i := 655) (by decide +kernel)) rfl, h_inS (q := (yX9_postReply, 14)) (List.mem_append_right _ (List.mem_append_left _ (List.mem_of_getElem? (i := 2) rfl))) rfl, cd_X9_postReply⟩
theorem fl_RX9_379 : h_FL RX9 379 1 2 0 := ⟨_, _, _, hcl_0, by decide, rfl, h_in (List.mem_of_getElem? (i := 623) (by decide +kernel)) rfl⟩
theorem fl_RX9_380 : h_FL RX9 380 1 3 0 := ⟨_, _, _, hcl_0, by decide, rfl, h_in (List.mem_of_getElem? (i := 626) (by decide +kernel)) rfl⟩
theorem fl_RX9_150 : h_FL RX9 150 7 0 0 := ⟨_, _, _, hcl_6, by decide, rfl, h_in (List.mem_of_getElem? (i := 62) (by decide +kernel)) rfl⟩
theorem cd_X2_lose : Cond.code yX2_lose cX2_lose 5 none ∈ h_ws := h_in (List.mem_of_getElem? (i := 753) (by decide +kernel)) rfl
theorem mv_RX9_408 : h_MV RX9 408 3 yX2_lose cX2_lose 5 none 3 := ⟨⟨_, _, hcl_2⟩, ⟨by decide, by decide, by decide +kernel⟩, h_in (List.mem_of_getElem? (i := 750) (by decide +kernel)) rfl, h_in (List.mem_of_getElem? (i := 751) (by decide +kernel)) rfl, h_in (List.mem_of_getElem? (i := 752) (by decide +kernel)) rfl, cd_X2_lose⟩
theorem cd_X5_copy : Cond.code yX5_copy cX5_copy 3 none ∈ h_ws := h_in (List.mem_of_getElem? (i := 588) (by decide +kernel)) rfl
theorem mv_RX9_329 : h_MV RX9 329 6 yX5_copy cX5_copy 3 none 2 := ⟨⟨_, _, hcl_5⟩, ⟨by decide, by decide, by decide +kernel⟩, h_in (List.mem_of_getElem? (i := 585) (by decide +kernel)) rfl, h_in (List.mem_of_getElem? (i := 586) (by decide +kernel)) rfl, h_in (List.mem_of_getElem? (i := 587) (by decide +kernel)) rfl, cd_X5_copy⟩
theorem cd_X5_remove : Cond.code yX5_remove cX5_remove 3 none ∈ h_ws := h_in (List.mem_of_getElem? (i := 592) (by decide +kernel)) rfl
theorem mv_RX9_187 : h_MV RX9 187 6 yX5_remove cX5_remove 3 none 1 := ⟨⟨_, _, hcl_5⟩, ⟨by decide, by decide, by decide +kernel⟩, h_in (List.mem_of_getElem? (i := 589) (by decide +kernel)) rfl, h_in (List.mem_of_getElem? (i := 590) (by decide +kernel)) rfl, h_in (List.mem_of_getElem? (i := 591) (by decide +kernel)) rfl, cd_X5_remove⟩
theorem cd_X8_at : Cond.code yX8_at cX8_at 2 (some (.object RX6)) ∈ h_ws := h_in (List.mem_of_getElem? (i := 217) (by decide +kernel)) rfl
theorem mv_RX9_52 : h_MV RX9 52 9 yX8_at cX8_at 2 (some (.object RX6)) 1 := ⟨⟨_, _, hcl_8⟩, ⟨by decide, by decide, by decide +kernel⟩, h_in (List.mem_of_getElem? (i := 214) (by decide +kernel)) rfl, h_in (List.mem_of_getElem? (i := 215) (by decide +kernel)) rfl, h_in (List.mem_of_getElem? (i := 216) (by decide +kernel)) rfl, cd_X8_at⟩
theorem cd_X9_takeRegister : Cond.code yX9_takeRegister cX9_takeRegister 6 none ∈ h_ws := h_in (List.mem_of_getElem? (i := 596) (by decide +kernel)) rfl
theorem mv_RX9_333 : h_MV RX9 333 10 yX9_takeRegister cX9_takeRegister 6 none 1 := ⟨⟨_, _, hcl_9⟩, ⟨by decide, by decide, by decide +kernel⟩, h_in (List.mem_of_getElem? (i := 593) (by decide +kernel)) rfl, h_in (List.mem_of_getElem? (i := 595) (by decide +kernel)) rfl, h_inS (q := (yX9_takeRegister, 14)) (List.mem_append_left _ (List.mem_of_getElem? (i := 15) rfl)) rfl, cd_X9_takeRegister⟩
theorem cd_X9_takeRequest : Cond.code yX9_takeRequest cX9_takeRequest 8 none ∈ h_ws := h_in (List.mem_of_getElem? (i := 646) (by decide +kernel)) rfl
theorem mv_RX9_336 : h_MV RX9 336 10 yX9_takeRequest cX9_takeRequest 8 none 1 := ⟨⟨_, _, hcl_9⟩, ⟨by decide, by decide, by decide +kernel⟩, h_in (List.mem_of_getElem? (i := 643) (by decide +kernel)) rfl, h_in (List.mem_of_getElem? (i := 645) (by decide +kernel)) rfl, h_inS (q := (yX9_takeRequest, 14)) (List.mem_append_right _ (List.mem_append_left _ (List.mem_of_getElem? (i := 1) rfl))) rfl, cd_X9_takeRequest⟩
theorem cd_X9_takeReply : Cond.code yX9_takeReply cX9_takeReply 8 none ∈ h_ws := h_in (List.mem_of_getElem? (i := 681) (by decide +kernel)) rfl
theorem mv_RX9_339 : h_MV RX9 339 10 yX9_takeReply cX9_takeReply 8 none 1 := ⟨⟨_, _, hcl_9⟩, ⟨by decide, by decide, by decide +kernel⟩, h_in (List.mem_of_getElem? (i := 678) (by decide +kernel)) rfl, h_in (List.mem_of_getElem? (i := 680) (by decide +kernel)) rfl, h_inS (q := (yX9_takeReply, 14)) (List.mem_append_right _ (List.mem_append_left _ (List.mem_of_getElem? (i := 4) rfl))) rfl, cd_X9_takeReply⟩
theorem cd_X9_takeData : Cond.code yX9_takeData cX9_takeData 6 none ∈ h_ws := h_in (List.mem_of_getElem? (i := 729) (by decide +kernel)) rfl
theorem mv_RX9_342 : h_MV RX9 342 10 yX9_takeData cX9_takeData 6 none 1 := ⟨⟨_, _, hcl_9⟩, ⟨by decide, by decide, by decide +kernel⟩, h_in (List.mem_of_getElem? (i := 726) (by decide +kernel)) rfl, h_in (List.mem_of_getElem? (i := 728) (by decide +kernel)) rfl, h_inS (q := (yX9_takeData, 14)) (List.mem_append_right _ (List.mem_append_left _ (List.mem_of_getElem? (i := 8) rfl))) rfl, cd_X9_takeData⟩
theorem cd_X9_takeSolicit : Cond.code yX9_takeSolicit cX9_takeSolicit 2 none ∈ h_ws := h_in (List.mem_of_getElem? (i := 749) (by decide +kernel)) rfl
theorem mv_RX9_345 : h_MV RX9 345 10 yX9_takeSolicit cX9_takeSolicit 2 none 1 := ⟨⟨_, _, hcl_9⟩, ⟨by decide, by decide, by decide +kernel⟩, h_in (List.mem_of_getElem? (i := 746) (by decide +kernel)) rfl, h_in (List.mem_of_getElem? (i := 748) (by decide +kernel)) rfl, h_inS (q := (yX9_takeSolicit, 14)) (List.mem_append_right _ (List.mem_append_left _ (List.mem_of_getElem? (i := 12) rfl))) rfl, cd_X9_takeSolicit⟩
theorem cd_X8_longestEntry : Cond.code yX8_longestEntry cX8_longestEntry 6 (some (.object RX0)) ∈ h_ws := h_in (List.mem_of_getElem? (i := 162) (by decide +kernel)) rfl
theorem mv_RX9_249 : h_MV RX9 249 9 yX8_longestEntry cX8_longestEntry 6 (some (.object RX0)) 2 := ⟨⟨_, _, hcl_8⟩, ⟨by decide, by decide, by decide +kernel⟩, h_in (List.mem_of_getElem? (i := 159) (by decide +kernel)) rfl, h_in (List.mem_of_getElem? (i := 160) (by decide +kernel)) rfl, h_in (List.mem_of_getElem? (i := 161) (by decide +kernel)) rfl, cd_X8_longestEntry⟩
theorem fl_RX9_253 : h_FL RX9 253 1 1 0 := ⟨_, _, _, hcl_0, by decide, rfl, h_in (List.mem_of_getElem? (i := 621) (by decide +kernel)) rfl⟩
theorem cd_X2_countThere : Cond.code yX2_countThere cX2_countThere 4 (some .int) ∈ h_ws := h_in (List.mem_of_getElem? (i := 201) (by decide +kernel)) rfl
theorem mv_RX9_280 : h_MV RX9 280 3 yX2_countThere cX2_countThere 4 (some .int) 1 := ⟨⟨_, _, hcl_2⟩, ⟨by decide, by decide, by decide +kernel⟩, h_in (List.mem_of_getElem? (i := 198) (by decide +kernel)) rfl, h_in (List.mem_of_getElem? (i := 199) (by decide +kernel)) rfl, h_in (List.mem_of_getElem? (i := 200) (by decide +kernel)) rfl, cd_X2_countThere⟩
theorem fl_RX9_203 : h_FL RX9 203 6 2 0 := ⟨_, _, _, hcl_5, by decide, rfl, h_in (List.mem_of_getElem? (i := 97) (by decide +kernel)) rfl⟩
theorem fl_RX9_267 : h_FL RX9 267 6 3 0 := ⟨_, _, _, hcl_5, by decide, rfl, h_in (List.mem_of_getElem? (i := 99) (by decide +kernel)) rfl⟩
theorem cd_X8_countEntries : Cond.code yX8_countEntries cX8_countEntries 4 (some .int) ∈ h_ws := h_in (List.mem_of_getElem? (i := 189) (by decide +kernel)) rfl
theorem mv_RX9_270 : h_MV RX9 270 9 yX8_countEntries cX8_countEntries 4 (some .int) 1 := ⟨⟨_, _, hcl_8⟩, ⟨by decide, by decide, by decide +kernel⟩, h_in (List.mem_of_getElem? (i := 186) (by decide +kernel)) rfl, h_in (List.mem_of_getElem? (i := 187) (by decide +kernel)) rfl, h_in (List.mem_of_getElem? (i := 188) (by decide +kernel)) rfl, cd_X8_countEntries⟩
theorem cd_X9_countNotes : Cond.code yX9_countNotes cX9_countNotes 3 (some .int) ∈ h_ws := h_in (List.mem_of_getElem? (i := 197) (by decide +kernel)) rfl
theorem mv_RX9_273 : h_MV RX9 273 10 yX9_countNotes cX9_countNotes 3 (some .int) 0 := ⟨⟨_, _, hcl_9⟩, ⟨by decide, by decide, by decide +kernel⟩, h_in (List.mem_of_getElem? (i := 194) (by decide +kernel)) rfl, h_in (List.mem_of_getElem? (i := 196) (by decide +kernel)) rfl, h_inS (q := (yX9_countNotes, 14)) (List.mem_append_left _ (List.mem_of_getElem? (i := 1) rfl)) rfl, cd_X9_countNotes⟩
theorem ob_RX10 : Cond.methodLink RX10 1 Lib.objectInit ∈ h_ws := h_in (List.mem_of_getElem? (i := 830) (by decide +kernel)) rfl
theorem fw_RX10_7 : h_FW RX10 7 11 2 0 := ⟨_, _, _, hcl_10, by decide, rfl, h_in (List.mem_of_getElem? (i := 834) (by decide +kernel)) rfl, rfl⟩
theorem ac_boolean : Cond.arrayClass .boolean ∈ h_ws := h_in (List.mem_of_getElem? (i := 962) (by decide +kernel)) rfl
theorem ff_RX10_13 : h_FF RX10 13 11 3 1 := ⟨_, _, _, hcl_10, by decide, rfl, h_in (List.mem_of_getElem? (i := 835) (by decide +kernel)) rfl, rfl, rfl⟩
theorem ff_RX10_17 : h_FF RX10 17 11 4 1 := ⟨_, _, _, hcl_10, by decide, rfl, h_in (List.mem_of_getElem? (i := 836) (by decide +kernel)) rfl, rfl, rfl⟩
theorem ff_RX10_21 : h_FF RX10 21 11 5 1 := ⟨_, _, _, hcl_10, by decide, rfl, h_in (List.mem_of_getElem? (i := 837) (by decide +kernel)) rfl, rfl, rfl⟩
theorem ff_RX10_24 : h_FF RX10 24 11 6 1 := ⟨_, _, _, hcl_10, by decide, rfl, h_in (List.mem_of_getElem? (i := 838) (by decide +kernel)) rfl, rfl, rfl⟩
theorem ff_RX10_27 : h_FF RX10 27 11 7 1 := ⟨_, _, _, hcl_10, by decide, rfl, h_in (List.mem_of_getElem? (i := 839) (by decide +kernel)) rfl, rfl, rfl⟩
theorem ff_RX10_30 : h_FF RX10 30 11 8 1 := ⟨_, _, _, hcl_10, by decide, rfl, h_in (List.mem_of_getElem? (i := 840) (by decide +kernel)) rfl, rfl, rfl⟩
theorem ff_RX10_33 : h_FF RX10 33 11 9 1 := ⟨_, _, _, hcl_10, by decide, rfl, h_in (List.mem_of_getElem? (i := 841) (by decide +kernel)) rfl, rfl, rfl⟩
theorem ff_RX10_36 : h_FF RX10 36 11 10 1 := ⟨_, _, _, hcl_10, by decide, rfl, h_in (List.mem_of_getElem? (i := 842) (by decide +kernel)) rfl, rfl, rfl⟩
theorem ff_RX10_39 : h_FF RX10 39 11 11 1 := ⟨_, _, _, hcl_10, by decide, rfl, h_in (List.mem_of_getElem? (i := 843) (by decide +kernel)) rfl, rfl, rfl⟩
theorem ff_RX10_42 : h_FF RX10 42 11 12 1 := ⟨_, _, _, hcl_10, by decide, rfl, h_in (List.mem_of_getElem? (i := 844) (by decide +kernel)) rfl, rfl, rfl⟩
theorem ff_RX10_45 : h_FF RX10 45 11 13 1 := ⟨_, _, _, hcl_10, by decide, rfl, h_in (List.mem_of_getElem? (i := 845) (by decide +kernel)) rfl, rfl, rfl⟩
theorem ff_RX10_49 : h_FF RX10 49 11 14 1 := ⟨_, _, _, hcl_10, by decide, rfl, h_in (List.mem_of_getElem? (i := 846) (by decide +kernel)) rfl, rfl, rfl⟩
theorem ff_RX10_52 : h_FF RX10 52 11 15 1 := ⟨_, _, _, hcl_10, by decide, rfl, h_in (List.mem_of_getElem? (i := 847) (by decide +kernel)) rfl, rfl, rfl⟩
theorem ff_RX10_55 : h_FF RX10 55 11 16 1 := ⟨_, _, _, hcl_10, by decide, rfl, h_in (List.mem_of_getElem? (i := 848) (by decide +kernel)) rfl, rfl, rfl⟩
theorem ff_RX10_58 : h_FF RX10 58 11 17 1 := ⟨_, _, _, hcl_10, by decide, rfl, h_in (List.mem_of_getElem? (i := 849) (by decide +kernel)) rfl, rfl, rfl⟩
theorem ff_RX10_61 : h_FF RX10 61 11 18 1 := ⟨_, _, _, hcl_10, by decide, rfl, h_in (List.mem_of_getElem? (i := 850) (by decide +kernel)) rfl, rfl, rfl⟩
theorem ff_RX10_64 : h_FF RX10 64 11 19 1 := ⟨_, _, _, hcl_10, by decide, rfl, h_in (List.mem_of_getElem? (i := 851) (by decide +kernel)) rfl, rfl, rfl⟩
theorem ff_RX10_67 : h_FF RX10 67 11 20 1 := ⟨_, _, _, hcl_10, by decide, rfl, h_in (List.mem_of_getElem? (i := 852) (by decide +kernel)) rfl, rfl, rfl⟩
theorem ff_RX10_70 : h_FF RX10 70 11 21 1 := ⟨_, _, _, hcl_10, by decide, rfl, h_in (List.mem_of_getElem? (i := 853) (by decide +kernel)) rfl, rfl, rfl⟩
theorem ff_RX10_73 : h_FF RX10 73 11 22 1 := ⟨_, _, _, hcl_10, by decide, rfl, h_in (List.mem_of_getElem? (i := 854) (by decide +kernel)) rfl, rfl, rfl⟩
theorem ff_RX10_76 : h_FF RX10 76 11 23 1 := ⟨_, _, _, hcl_10, by decide, rfl, h_in (List.mem_of_getElem? (i := 855) (by decide +kernel)) rfl, rfl, rfl⟩
theorem ff_RX10_79 : h_FF RX10 79 11 24 1 := ⟨_, _, _, hcl_10, by decide, rfl, h_in (List.mem_of_getElem? (i := 856) (by decide +kernel)) rfl, rfl, rfl⟩
theorem ff_RX10_82 : h_FF RX10 82 11 26 1 := ⟨_, _, _, hcl_10, by decide, rfl, h_in (List.mem_of_getElem? (i := 858) (by decide +kernel)) rfl, rfl, rfl⟩
theorem ff_RX10_85 : h_FF RX10 85 11 27 1 := ⟨_, _, _, hcl_10, by decide, rfl, h_in (List.mem_of_getElem? (i := 859) (by decide +kernel)) rfl, rfl, rfl⟩
theorem ff_RX10_88 : h_FF RX10 88 11 29 1 := ⟨_, _, _, hcl_10, by decide, rfl, h_in (List.mem_of_getElem? (i := 861) (by decide +kernel)) rfl, rfl, rfl⟩
theorem ff_RX10_91 : h_FF RX10 91 11 30 1 := ⟨_, _, _, hcl_10, by decide, rfl, h_in (List.mem_of_getElem? (i := 862) (by decide +kernel)) rfl, rfl, rfl⟩
theorem ff_RX10_94 : h_FF RX10 94 11 31 1 := ⟨_, _, _, hcl_10, by decide, rfl, h_in (List.mem_of_getElem? (i := 863) (by decide +kernel)) rfl, rfl, rfl⟩
theorem ff_RX10_97 : h_FF RX10 97 11 32 1 := ⟨_, _, _, hcl_10, by decide, rfl, h_in (List.mem_of_getElem? (i := 864) (by decide +kernel)) rfl, rfl, rfl⟩
theorem ff_RX10_100 : h_FF RX10 100 11 33 1 := ⟨_, _, _, hcl_10, by decide, rfl, h_in (List.mem_of_getElem? (i := 865) (by decide +kernel)) rfl, rfl, rfl⟩
theorem ff_RX10_103 : h_FF RX10 103 11 34 1 := ⟨_, _, _, hcl_10, by decide, rfl, h_in (List.mem_of_getElem? (i := 866) (by decide +kernel)) rfl, rfl, rfl⟩
theorem ff_RX10_106 : h_FF RX10 106 11 35 1 := ⟨_, _, _, hcl_10, by decide, rfl, h_in (List.mem_of_getElem? (i := 867) (by decide +kernel)) rfl, rfl, rfl⟩
theorem ff_RX10_109 : h_FF RX10 109 11 37 1 := ⟨_, _, _, hcl_10, by decide, rfl, h_in (List.mem_of_getElem? (i := 869) (by decide +kernel)) rfl, rfl, rfl⟩
theorem ff_RX10_112 : h_FF RX10 112 11 38 1 := ⟨_, _, _, hcl_10, by decide, rfl, h_in (List.mem_of_getElem? (i := 870) (by decide +kernel)) rfl, rfl, rfl⟩
theorem fl_RX10_13 : h_FL RX10 13 11 3 1 := ⟨_, _, _, hcl_10, by decide, rfl, h_in (List.mem_of_getElem? (i := 835) (by decide +kernel)) rfl⟩
theorem fl_RX10_82 : h_FL RX10 82 11 26 1 := ⟨_, _, _, hcl_10, by decide, rfl, h_in (List.mem_of_getElem? (i := 858) (by decide +kernel)) rfl⟩
theorem fl_RX10_45 : h_FL RX10 45 11 13 1 := ⟨_, _, _, hcl_10, by decide, rfl, h_in (List.mem_of_getElem? (i := 845) (by decide +kernel)) rfl⟩
theorem ck_RX10_115 : Cond.constantLong RX10 115 (-3000000000) ∈ h_ws := h_in (List.mem_of_getElem? (i := 831) (by decide +kernel)) rfl
theorem fl_RX10_24 : h_FL RX10 24 11 6 1 := ⟨_, _, _, hcl_10, by decide, rfl, h_in (List.mem_of_getElem? (i := 838) (by decide +kernel)) rfl⟩
theorem fl_RX10_49 : h_FL RX10 49 11 14 1 := ⟨_, _, _, hcl_10, by decide, rfl, h_in (List.mem_of_getElem? (i := 846) (by decide +kernel)) rfl⟩
theorem fl_RX10_117 : h_FL RX10 117 11 0 0 := ⟨_, _, _, hcl_10, by decide, rfl, h_in (List.mem_of_getElem? (i := 832) (by decide +kernel)) rfl⟩
theorem cd_X10_in : Cond.code yX10_in cX10_in 3 (some .boolean) ∈ h_ws := h_in (List.mem_of_getElem? (i := 977) (by decide +kernel)) rfl
theorem ms_RX10_120 : h_MS RX10 120 yX10_in cX10_in 3 (some .boolean) 3 := ⟨⟨by decide, by decide, by decide +kernel⟩, h_in (List.mem_of_getElem? (i := 975) (by decide +kernel)) rfl, h_in (List.mem_of_getElem? (i := 976) (by decide +kernel)) rfl, h_in (List.mem_of_getElem? (i := 6) (by decide +kernel)) rfl, cd_X10_in⟩
theorem cd_X10_begin : Cond.code yX10_begin cX10_begin 3 (some .boolean) ∈ h_ws := h_in (List.mem_of_getElem? (i := 990) (by decide +kernel)) rfl
theorem ms_RX10_124 : h_MS RX10 124 yX10_begin cX10_begin 3 (some .boolean) 3 := ⟨⟨by decide, by decide, by decide +kernel⟩, h_in (List.mem_of_getElem? (i := 988) (by decide +kernel)) rfl, h_in (List.mem_of_getElem? (i := 989) (by decide +kernel)) rfl, h_in (List.mem_of_getElem? (i := 6) (by decide +kernel)) rfl, cd_X10_begin⟩
theorem fl_RX10_17 : h_FL RX10 17 11 4 1 := ⟨_, _, _, hcl_10, by decide, rfl, h_in (List.mem_of_getElem? (i := 836) (by decide +kernel)) rfl⟩
theorem fl_RX10_21 : h_FL RX10 21 11 5 1 := ⟨_, _, _, hcl_10, by decide, rfl, h_in (List.mem_of_getElem? (i := 837) (by decide +kernel)) rfl⟩
theorem cd_X10_holds : Cond.code yX10_holds cX10_holds 4 (some .boolean) ∈ h_ws := h_in (List.mem_of_getElem? (i := 987) (by decide +kernel)) rfl
theorem ms_RX10_127 : h_MS RX10 127 yX10_holds cX10_holds 4 (some .boolean) 4 := ⟨⟨by decide, by decide, by decide +kernel⟩, h_in (List.mem_of_getElem? (i := 985) (by decide +kernel)) rfl, h_in (List.mem_of_getElem? (i := 986) (by decide +kernel)) rfl, h_in (List.mem_of_getElem? (i := 6) (by decide +kernel)) rfl, cd_X10_holds⟩
theorem cd_X10_isServerAt : Cond.code yX10_isServerAt cX10_isServerAt 2 (some .boolean) ∈ h_ws := h_in (List.mem_of_getElem? (i := 974) (by decide +kernel)) rfl
theorem mv_RX10_131 : h_MV RX10 131 11 yX10_isServerAt cX10_isServerAt 2 (some .boolean) 1 := ⟨⟨_, _, hcl_10⟩, ⟨by decide, by decide, by decide +kernel⟩, h_in (List.mem_of_getElem? (i := 971) (by decide +kernel)) rfl, h_in (List.mem_of_getElem? (i := 973) (by decide +kernel)) rfl, h_inS (q := (yX10_isServerAt, 43)) (List.mem_append_right _ (List.mem_append_left _ (List.mem_of_getElem? (i := 13) rfl))) rfl, cd_X10_isServerAt⟩
theorem fw_RX10_117 : h_FW RX10 117 11 0 0 := ⟨_, _, _, hcl_10, by decide, rfl, h_in (List.mem_of_getElem? (i := 832) (by decide +kernel)) rfl, rfl⟩
theorem cd_X10_owner : Cond.code yX10_owner cX10_owner 5 (some .int) ∈ h_ws := h_in (List.mem_of_getElem? (i := 984) (by decide +kernel)) rfl
theorem mv_RX10_139 : h_MV RX10 139 11 yX10_owner cX10_owner 5 (some .int) 2 := ⟨⟨_, _, hcl_10⟩, ⟨by decide, by decide, by decide +kernel⟩, h_in (List.mem_of_getElem? (i := 981) (by decide +kernel)) rfl, h_in (List.mem_of_getElem? (i := 983) (by decide +kernel)) rfl, h_inS (q := (yX10_owner, 43)) (List.mem_append_right _ (List.mem_append_left _ (List.mem_of_getElem? (i := 14) rfl))) rfl, cd_X10_owner⟩
theorem cd_X10_isPrefix : Cond.code yX10_isPrefix cX10_isPrefix 2 (some .boolean) ∈ h_ws := h_in (List.mem_of_getElem? (i := 980) (by decide +kernel)) rfl
theorem ms_RX10_135 : h_MS RX10 135 yX10_isPrefix cX10_isPrefix 2 (some .boolean) 2 := ⟨⟨by decide, by decide, by decide +kernel⟩, h_in (List.mem_of_getElem? (i := 978) (by decide +kernel)) rfl, h_in (List.mem_of_getElem? (i := 979) (by decide +kernel)) rfl, h_in (List.mem_of_getElem? (i := 6) (by decide +kernel)) rfl, cd_X10_isPrefix⟩
theorem cd_X10_siteAt : Cond.code yX10_siteAt cX10_siteAt 3 (some .int) ∈ h_ws := h_in (List.mem_of_getElem? (i := 998) (by decide +kernel)) rfl
theorem mv_RX10_143 : h_MV RX10 143 11 yX10_siteAt cX10_siteAt 3 (some .int) 1 := ⟨⟨_, _, hcl_10⟩, ⟨by decide, by decide, by decide +kernel⟩, h_in (List.mem_of_getElem? (i := 995) (by decide +kernel)) rfl, h_in (List.mem_of_getElem? (i := 997) (by decide +kernel)) rfl, h_inS (q := (yX10_siteAt, 43)) (List.mem_append_right _ (List.mem_append_left _ (List.mem_of_getElem? (i := 15) rfl))) rfl, cd_X10_siteAt⟩
theorem cd_X10_isSite : Cond.code yX10_isSite cX10_isSite 2 (some .boolean) ∈ h_ws := h_in (List.mem_of_getElem? (i := 1006) (by decide +kernel)) rfl
theorem mv_RX10_147 : h_MV RX10 147 11 yX10_isSite cX10_isSite 2 (some .boolean) 1 := ⟨⟨_, _, hcl_10⟩, ⟨by decide, by decide, by decide +kernel⟩, h_in (List.mem_of_getElem? (i := 1003) (by decide +kernel)) rfl, h_in (List.mem_of_getElem? (i := 1005) (by decide +kernel)) rfl, h_inS (q := (yX10_isSite, 43)) (List.mem_append_right _ (List.mem_append_right _ (List.mem_append_left _ (List.mem_of_getElem? (i := 0) rfl)))) rfl, cd_X10_isSite⟩
theorem fl_RX10_55 : h_FL RX10 55 11 16 1 := ⟨_, _, _, hcl_10, by decide, rfl, h_in (List.mem_of_getElem? (i := 848) (by decide +kernel)) rfl⟩
theorem fl_RX10_52 : h_FL RX10 52 11 15 1 := ⟨_, _, _, hcl_10, by decide, rfl, h_in (List.mem_of_getElem? (i := 847) (by decide +kernel)) rfl⟩
theorem fl_RX10_58 : h_FL RX10 58 11 17 1 := ⟨_, _, _, hcl_10, by decide, rfl, h_in (List.mem_of_getElem? (i := 849) (by decide +kernel)) rfl⟩
theorem fl_RX10_85 : h_FL RX10 85 11 27 1 := ⟨_, _, _, hcl_10, by decide, rfl, h_in (List.mem_of_getElem? (i := 859) (by decide +kernel)) rfl⟩
theorem fl_RX10_150 : h_FL RX10 150 11 1 0 := ⟨_, _, _, hcl_10, by decide, rfl, h_in (List.mem_of_getElem? (i := 833) (by decide +kernel)) rfl⟩
theorem fl_RX10_153 : h_FL RX10 153 11 36 0 := ⟨_, _, _, hcl_10, by decide, rfl, h_in (List.mem_of_getElem? (i := 868) (by decide +kernel)) rfl⟩
theorem fl_RX10_109 : h_FL RX10 109 11 37 1 := ⟨_, _, _, hcl_10, by decide, rfl, h_in (List.mem_of_getElem? (i := 869) (by decide +kernel)) rfl⟩
theorem fw_RX10_153 : h_FW RX10 153 11 36 0 := ⟨_, _, _, hcl_10, by decide, rfl, h_in (List.mem_of_getElem? (i := 868) (by decide +kernel)) rfl, rfl⟩
theorem fl_RX10_156 : h_FL RX10 156 11 42 0 := ⟨_, _, _, hcl_10, by decide, rfl, h_in (List.mem_of_getElem? (i := 874) (by decide +kernel)) rfl⟩
theorem fw_RX10_156 : h_FW RX10 156 11 42 0 := ⟨_, _, _, hcl_10, by decide, rfl, h_in (List.mem_of_getElem? (i := 874) (by decide +kernel)) rfl, rfl⟩
theorem ck_RX10_159 : Cond.constant RX10 159 (16777619) ∈ h_ws := h_in (List.mem_of_getElem? (i := 1026) (by decide +kernel)) rfl
theorem ck_RX10_160 : Cond.constant RX10 160 (40503) ∈ h_ws := h_in (List.mem_of_getElem? (i := 1022) (by decide +kernel)) rfl
theorem cd_X10_mix : Cond.code yX10_mix cX10_mix 3 (some .int) ∈ h_ws := h_in (List.mem_of_getElem? (i := 1025) (by decide +kernel)) rfl
theorem ms_RX10_161 : h_MS RX10 161 yX10_mix cX10_mix 3 (some .int) 2 := ⟨⟨by decide, by decide, by decide +kernel⟩, h_in (List.mem_of_getElem? (i := 1023) (by decide +kernel)) rfl, h_in (List.mem_of_getElem? (i := 1024) (by decide +kernel)) rfl, h_in (List.mem_of_getElem? (i := 6) (by decide +kernel)) rfl, cd_X10_mix⟩
theorem fl_RX10_61 : h_FL RX10 61 11 18 1 := ⟨_, _, _, hcl_10, by decide, rfl, h_in (List.mem_of_getElem? (i := 850) (by decide +kernel)) rfl⟩
theorem cd_X10_post : Cond.code yX10_post cX10_post 9 none ∈ h_ws := h_in (List.mem_of_getElem? (i := 1018) (by decide +kernel)) rfl
theorem mv_RX10_164 : h_MV RX10 164 11 yX10_post cX10_post 9 none 7 := ⟨⟨_, _, hcl_10⟩, ⟨by decide, by decide, by decide +kernel⟩, h_in (List.mem_of_getElem? (i := 1015) (by decide +kernel)) rfl, h_in (List.mem_of_getElem? (i := 1017) (by decide +kernel)) rfl, h_inS (q := (yX10_post, 43)) (List.mem_append_right _ (List.mem_append_right _ (List.mem_append_left _ (List.mem_of_getElem? (i := 1) rfl)))) rfl, cd_X10_post⟩
theorem cd_X10_tag : Cond.code yX10_tag cX10_tag 5 (some .int) ∈ h_ws := h_in (List.mem_of_getElem? (i := 1021) (by decide +kernel)) rfl
theorem ms_RX10_168 : h_MS RX10 168 yX10_tag cX10_tag 5 (some .int) 5 := ⟨⟨by decide, by decide, by decide +kernel⟩, h_in (List.mem_of_getElem? (i := 1019) (by decide +kernel)) rfl, h_in (List.mem_of_getElem? (i := 1020) (by decide +kernel)) rfl, h_in (List.mem_of_getElem? (i := 6) (by decide +kernel)) rfl, cd_X10_tag⟩
theorem cd_X10_last : Cond.code yX10_last cX10_last 3 none ∈ h_ws := h_in (List.mem_of_getElem? (i := 1030) (by decide +kernel)) rfl
theorem mv_RX10_172 : h_MV RX10 172 11 yX10_last cX10_last 3 none 2 := ⟨⟨_, _, hcl_10⟩, ⟨by decide, by decide, by decide +kernel⟩, h_in (List.mem_of_getElem? (i := 1027) (by decide +kernel)) rfl, h_in (List.mem_of_getElem? (i := 1029) (by decide +kernel)) rfl, h_inS (q := (yX10_last, 43)) (List.mem_append_right _ (List.mem_append_right _ (List.mem_append_left _ (List.mem_of_getElem? (i := 2) rfl)))) rfl, cd_X10_last⟩
theorem fl_RX10_112 : h_FL RX10 112 11 38 1 := ⟨_, _, _, hcl_10, by decide, rfl, h_in (List.mem_of_getElem? (i := 870) (by decide +kernel)) rfl⟩
theorem fl_RX10_106 : h_FL RX10 106 11 35 1 := ⟨_, _, _, hcl_10, by decide, rfl, h_in (List.mem_of_getElem? (i := 867) (by decide +kernel)) rfl⟩
theorem fl_RX10_94 : h_FL RX10 94 11 31 1 := ⟨_, _, _, hcl_10, by decide, rfl, h_in (List.mem_of_getElem? (i := 863) (by decide +kernel)) rfl⟩
theorem fl_RX10_100 : h_FL RX10 100 11 33 1 := ⟨_, _, _, hcl_10, by decide, rfl, h_in (List.mem_of_getElem? (i := 865) (by decide +kernel)) rfl⟩
theorem fl_RX10_231 : h_FL RX10 231 11 28 0 := ⟨_, _, _, hcl_10, by decide, rfl, h_in (List.mem_of_getElem? (i := 860) (by decide +kernel)) rfl⟩
theorem fl_RX10_256 : h_FL RX10 256 11 41 0 := ⟨_, _, _, hcl_10, by decide, rfl, h_in (List.mem_of_getElem? (i := 873) (by decide +kernel)) rfl⟩
theorem fw_RX10_256 : h_FW RX10 256 11 41 0 := ⟨_, _, _, hcl_10, by decide, rfl, h_in (List.mem_of_getElem? (i := 873) (by decide +kernel)) rfl, rfl⟩
theorem cd_X10_lose : Cond.code yX10_lose cX10_lose 2 none ∈ h_ws := h_in (List.mem_of_getElem? (i := 1109) (by decide +kernel)) rfl
theorem mv_RX10_253 : h_MV RX10 253 11 yX10_lose cX10_lose 2 none 1 := ⟨⟨_, _, hcl_10⟩, ⟨by decide, by decide, by decide +kernel⟩, h_in (List.mem_of_getElem? (i := 1106) (by decide +kernel)) rfl, h_in (List.mem_of_getElem? (i := 1108) (by decide +kernel)) rfl, h_inS (q := (yX10_lose, 43)) (List.mem_append_right _ (List.mem_append_right _ (List.mem_append_right _ (List.mem_of_getElem? (i := 4) rfl)))) rfl, cd_X10_lose⟩
theorem cd_X10_hasEndpoint : Cond.code yX10_hasEndpoint cX10_hasEndpoint 4 (some .boolean) ∈ h_ws := h_in (List.mem_of_getElem? (i := 1101) (by decide +kernel)) rfl
theorem mv_RX10_234 : h_MV RX10 234 11 yX10_hasEndpoint cX10_hasEndpoint 4 (some .boolean) 2 := ⟨⟨_, _, hcl_10⟩, ⟨by decide, by decide, by decide +kernel⟩, h_in (List.mem_of_getElem? (i := 1098) (by decide +kernel)) rfl, h_in (List.mem_of_getElem? (i := 1100) (by decide +kernel)) rfl, h_inS (q := (yX10_hasEndpoint, 43)) (List.mem_append_right _ (List.mem_append_right _ (List.mem_append_right _ (List.mem_of_getElem? (i := 2) rfl)))) rfl, cd_X10_hasEndpoint⟩
theorem cd_X10_deliver : Cond.code yX10_deliver cX10_deliver 3 none ∈ h_ws := h_in (List.mem_of_getElem? (i := 1105) (by decide +kernel)) rfl
theorem mv_RX10_237 : h_MV RX10 237 11 yX10_deliver cX10_deliver 3 none 2 := ⟨⟨_, _, hcl_10⟩, ⟨by decide, by decide, by decide +kernel⟩, h_in (List.mem_of_getElem? (i := 1102) (by decide +kernel)) rfl, h_in (List.mem_of_getElem? (i := 1104) (by decide +kernel)) rfl, h_inS (q := (yX10_deliver, 43)) (List.mem_append_right _ (List.mem_append_right _ (List.mem_append_right _ (List.mem_of_getElem? (i := 3) rfl)))) rfl, cd_X10_deliver⟩
theorem fl_RX10_76 : h_FL RX10 76 11 23 1 := ⟨_, _, _, hcl_10, by decide, rfl, h_in (List.mem_of_getElem? (i := 855) (by decide +kernel)) rfl⟩
theorem fl_RX10_64 : h_FL RX10 64 11 19 1 := ⟨_, _, _, hcl_10, by decide, rfl, h_in (List.mem_of_getElem? (i := 851) (by decide +kernel)) rfl⟩
theorem fl_RX10_67 : h_FL RX10 67 11 20 1 := ⟨_, _, _, hcl_10, by decide, rfl, h_in (List.mem_of_getElem? (i := 852) (by decide +kernel)) rfl⟩
theorem cd_X10_noteFor : Cond.code yX10_noteFor cX10_noteFor 4 (some .int) ∈ h_ws := h_in (List.mem_of_getElem? (i := 1117) (by decide +kernel)) rfl
theorem mv_RX10_222 : h_MV RX10 222 11 yX10_noteFor cX10_noteFor 4 (some .int) 2 := ⟨⟨_, _, hcl_10⟩, ⟨by decide, by decide, by decide +kernel⟩, h_in (List.mem_of_getElem? (i := 1114) (by decide +kernel)) rfl, h_in (List.mem_of_getElem? (i := 1116) (by decide +kernel)) rfl, h_inS (q := (yX10_noteFor, 43)) (List.mem_append_right _ (List.mem_append_right _ (List.mem_append_right _ (List.mem_of_getElem? (i := 6) rfl)))) rfl, cd_X10_noteFor⟩
theorem fl_RX10_70 : h_FL RX10 70 11 21 1 := ⟨_, _, _, hcl_10, by decide, rfl, h_in (List.mem_of_getElem? (i := 853) (by decide +kernel)) rfl⟩
theorem fl_RX10_42 : h_FL RX10 42 11 12 1 := ⟨_, _, _, hcl_10, by decide, rfl, h_in (List.mem_of_getElem? (i := 844) (by decide +kernel)) rfl⟩
theorem fl_RX10_27 : h_FL RX10 27 11 7 1 := ⟨_, _, _, hcl_10, by decide, rfl, h_in (List.mem_of_getElem? (i := 839) (by decide +kernel)) rfl⟩
theorem fl_RX10_30 : h_FL RX10 30 11 8 1 := ⟨_, _, _, hcl_10, by decide, rfl, h_in (List.mem_of_getElem? (i := 840) (by decide +kernel)) rfl⟩
theorem fl_RX10_33 : h_FL RX10 33 11 9 1 := ⟨_, _, _, hcl_10, by decide, rfl, h_in (List.mem_of_getElem? (i := 841) (by decide +kernel)) rfl⟩
theorem fl_RX10_36 : h_FL RX10 36 11 10 1 := ⟨_, _, _, hcl_10, by decide, rfl, h_in (List.mem_of_getElem? (i := 842) (by decide +kernel)) rfl⟩
theorem fl_RX10_39 : h_FL RX10 39 11 11 1 := ⟨_, _, _, hcl_10, by decide, rfl, h_in (List.mem_of_getElem? (i := 843) (by decide +kernel)) rfl⟩
theorem fl_RX10_210 : h_FL RX10 210 11 39 0 := ⟨_, _, _, hcl_10, by decide, rfl, h_in (List.mem_of_getElem? (i := 871) (by decide +kernel)) rfl⟩
theorem fw_RX10_210 : h_FW RX10 210 11 39 0 := ⟨_, _, _, hcl_10, by decide, rfl, h_in (List.mem_of_getElem? (i := 871) (by decide +kernel)) rfl, rfl⟩
theorem cd_X10_emptyEntry : Cond.code yX10_emptyEntry cX10_emptyEntry 3 (some .int) ∈ h_ws := h_in (List.mem_of_getElem? (i := 1058) (by decide +kernel)) rfl
theorem mv_RX10_207 : h_MV RX10 207 11 yX10_emptyEntry cX10_emptyEntry 3 (some .int) 1 := ⟨⟨_, _, hcl_10⟩, ⟨by decide, by decide, by decide +kernel⟩, h_in (List.mem_of_getElem? (i := 1055) (by decide +kernel)) rfl, h_in (List.mem_of_getElem? (i := 1057) (by decide +kernel)) rfl, h_inS (q := (yX10_emptyEntry, 43)) (List.mem_append_right _ (List.mem_append_right _ (List.mem_append_left _ (List.mem_of_getElem? (i := 8) rfl)))) rfl, cd_X10_emptyEntry⟩
theorem cd_X10_entryFor : Cond.code yX10_entryFor cX10_entryFor 5 (some .int) ∈ h_ws := h_in (List.mem_of_getElem? (i := 1054) (by decide +kernel)) rfl
theorem mv_RX10_203 : h_MV RX10 203 11 yX10_entryFor cX10_entryFor 5 (some .int) 3 := ⟨⟨_, _, hcl_10⟩, ⟨by decide, by decide, by decide +kernel⟩, h_in (List.mem_of_getElem? (i := 1051) (by decide +kernel)) rfl, h_in (List.mem_of_getElem? (i := 1053) (by decide +kernel)) rfl, h_inS (q := (yX10_entryFor, 43)) (List.mem_append_right _ (List.mem_append_right _ (List.mem_append_left _ (List.mem_of_getElem? (i := 7) rfl)))) rfl, cd_X10_entryFor⟩
theorem fl_RX10_7 : h_FL RX10 7 11 2 0 := ⟨_, _, _, hcl_10, by decide, rfl, h_in (List.mem_of_getElem? (i := 834) (by decide +kernel)) rfl⟩
theorem cd_X10_draw : Cond.code yX10_draw cX10_draw 1 none ∈ h_ws := h_in (List.mem_of_getElem? (i := 1085) (by decide +kernel)) rfl
theorem mv_RX10_228 : h_MV RX10 228 11 yX10_draw cX10_draw 1 none 0 := ⟨⟨_, _, hcl_10⟩, ⟨by decide, by decide, by decide +kernel⟩, h_in (List.mem_of_getElem? (i := 1082) (by decide +kernel)) rfl, h_in (List.mem_of_getElem? (i := 1084) (by decide +kernel)) rfl, h_inS (q := (yX10_draw, 43)) (List.mem_append_right _ (List.mem_append_right _ (List.mem_append_left _ (List.mem_of_getElem? (i := 14) rfl)))) rfl, cd_X10_draw⟩
theorem fl_RX10_97 : h_FL RX10 97 11 32 1 := ⟨_, _, _, hcl_10, by decide, rfl, h_in (List.mem_of_getElem? (i := 864) (by decide +kernel)) rfl⟩
theorem fl_RX10_88 : h_FL RX10 88 11 29 1 := ⟨_, _, _, hcl_10, by decide, rfl, h_in (List.mem_of_getElem? (i := 861) (by decide +kernel)) rfl⟩
theorem fl_RX10_91 : h_FL RX10 91 11 30 1 := ⟨_, _, _, hcl_10, by decide, rfl, h_in (List.mem_of_getElem? (i := 862) (by decide +kernel)) rfl⟩
theorem fl_RX10_225 : h_FL RX10 225 11 25 0 := ⟨_, _, _, hcl_10, by decide, rfl, h_in (List.mem_of_getElem? (i := 857) (by decide +kernel)) rfl⟩
theorem fw_RX10_225 : h_FW RX10 225 11 25 0 := ⟨_, _, _, hcl_10, by decide, rfl, h_in (List.mem_of_getElem? (i := 857) (by decide +kernel)) rfl, rfl⟩
theorem fl_RX10_73 : h_FL RX10 73 11 22 1 := ⟨_, _, _, hcl_10, by decide, rfl, h_in (List.mem_of_getElem? (i := 854) (by decide +kernel)) rfl⟩
theorem fl_RX10_79 : h_FL RX10 79 11 24 1 := ⟨_, _, _, hcl_10, by decide, rfl, h_in (List.mem_of_getElem? (i := 856) (by decide +kernel)) rfl⟩
theorem cd_X10_makeNote : Cond.code yX10_makeNote cX10_makeNote 10 none ∈ h_ws := h_in (List.mem_of_getElem? (i := 1089) (by decide +kernel)) rfl
theorem mv_RX10_249 : h_MV RX10 249 11 yX10_makeNote cX10_makeNote 10 none 5 := ⟨⟨_, _, hcl_10⟩, ⟨by decide, by decide, by decide +kernel⟩, h_in (List.mem_of_getElem? (i := 1086) (by decide +kernel)) rfl, h_in (List.mem_of_getElem? (i := 1088) (by decide +kernel)) rfl, h_inS (q := (yX10_makeNote, 43)) (List.mem_append_right _ (List.mem_append_right _ (List.mem_append_left _ (List.mem_of_getElem? (i := 15) rfl)))) rfl, cd_X10_makeNote⟩
theorem cd_X10_follow : Cond.code yX10_follow cX10_follow 3 none ∈ h_ws := h_in (List.mem_of_getElem? (i := 1093) (by decide +kernel)) rfl
theorem mv_RX10_240 : h_MV RX10 240 11 yX10_follow cX10_follow 3 none 2 := ⟨⟨_, _, hcl_10⟩, ⟨by decide, by decide, by decide +kernel⟩, h_in (List.mem_of_getElem? (i := 1090) (by decide +kernel)) rfl, h_in (List.mem_of_getElem? (i := 1092) (by decide +kernel)) rfl, h_inS (q := (yX10_follow, 43)) (List.mem_append_right _ (List.mem_append_right _ (List.mem_append_right _ (List.mem_of_getElem? (i := 0) rfl)))) rfl, cd_X10_follow⟩
theorem fl_RX10_103 : h_FL RX10 103 11 34 1 := ⟨_, _, _, hcl_10, by decide, rfl, h_in (List.mem_of_getElem? (i := 866) (by decide +kernel)) rfl⟩
theorem cd_X10_ask : Cond.code yX10_ask cX10_ask 3 none ∈ h_ws := h_in (List.mem_of_getElem? (i := 1081) (by decide +kernel)) rfl
theorem mv_RX10_243 : h_MV RX10 243 11 yX10_ask cX10_ask 3 none 2 := ⟨⟨_, _, hcl_10⟩, ⟨by decide, by decide, by decide +kernel⟩, h_in (List.mem_of_getElem? (i := 1078) (by decide +kernel)) rfl, h_in (List.mem_of_getElem? (i := 1080) (by decide +kernel)) rfl, h_inS (q := (yX10_ask, 43)) (List.mem_append_right _ (List.mem_append_right _ (List.mem_append_left _ (List.mem_of_getElem? (i := 13) rfl)))) rfl, cd_X10_ask⟩
theorem fl_RX10_246 : h_FL RX10 246 11 40 0 := ⟨_, _, _, hcl_10, by decide, rfl, h_in (List.mem_of_getElem? (i := 872) (by decide +kernel)) rfl⟩
theorem fw_RX10_246 : h_FW RX10 246 11 40 0 := ⟨_, _, _, hcl_10, by decide, rfl, h_in (List.mem_of_getElem? (i := 872) (by decide +kernel)) rfl, rfl⟩
theorem cd_X10_best : Cond.code yX10_best cX10_best 5 (some .int) ∈ h_ws := h_in (List.mem_of_getElem? (i := 1066) (by decide +kernel)) rfl
theorem mv_RX10_213 : h_MV RX10 213 11 yX10_best cX10_best 5 (some .int) 2 := ⟨⟨_, _, hcl_10⟩, ⟨by decide, by decide, by decide +kernel⟩, h_in (List.mem_of_getElem? (i := 1063) (by decide +kernel)) rfl, h_in (List.mem_of_getElem? (i := 1065) (by decide +kernel)) rfl, h_inS (q := (yX10_best, 43)) (List.mem_append_right _ (List.mem_append_right _ (List.mem_append_left _ (List.mem_of_getElem? (i := 10) rfl)))) rfl, cd_X10_best⟩
theorem cd_X10_isCrowded : Cond.code yX10_isCrowded cX10_isCrowded 6 (some .boolean) ∈ h_ws := h_in (List.mem_of_getElem? (i := 1070) (by decide +kernel)) rfl
theorem mv_RX10_216 : h_MV RX10 216 11 yX10_isCrowded cX10_isCrowded 6 (some .boolean) 4 := ⟨⟨_, _, hcl_10⟩, ⟨by decide, by decide, by decide +kernel⟩, h_in (List.mem_of_getElem? (i := 1067) (by decide +kernel)) rfl, h_in (List.mem_of_getElem? (i := 1069) (by decide +kernel)) rfl, h_inS (q := (yX10_isCrowded, 43)) (List.mem_append_right _ (List.mem_append_right _ (List.mem_append_left _ (List.mem_of_getElem? (i := 11) rfl)))) rfl, cd_X10_isCrowded⟩
theorem cd_X10_cutTo : Cond.code yX10_cutTo cX10_cutTo 4 (some .int) ∈ h_ws := h_in (List.mem_of_getElem? (i := 1073) (by decide +kernel)) rfl
theorem ms_RX10_219 : h_MS RX10 219 yX10_cutTo cX10_cutTo 4 (some .int) 2 := ⟨⟨by decide, by decide, by decide +kernel⟩, h_in (List.mem_of_getElem? (i := 1071) (by decide +kernel)) rfl, h_in (List.mem_of_getElem? (i := 1072) (by decide +kernel)) rfl, h_in (List.mem_of_getElem? (i := 6) (by decide +kernel)) rfl, cd_X10_cutTo⟩
theorem cd_X10_forget : Cond.code yX10_forget cX10_forget 5 none ∈ h_ws := h_in (List.mem_of_getElem? (i := 1113) (by decide +kernel)) rfl
theorem mv_RX10_199 : h_MV RX10 199 11 yX10_forget cX10_forget 5 none 3 := ⟨⟨_, _, hcl_10⟩, ⟨by decide, by decide, by decide +kernel⟩, h_in (List.mem_of_getElem? (i := 1110) (by decide +kernel)) rfl, h_in (List.mem_of_getElem? (i := 1112) (by decide +kernel)) rfl, h_inS (q := (yX10_forget, 43)) (List.mem_append_right _ (List.mem_append_right _ (List.mem_append_right _ (List.mem_of_getElem? (i := 5) rfl)))) rfl, cd_X10_forget⟩
theorem cd_X10_came : Cond.code yX10_came cX10_came 7 none ∈ h_ws := h_in (List.mem_of_getElem? (i := 1097) (by decide +kernel)) rfl
theorem mv_RX10_196 : h_MV RX10 196 11 yX10_came cX10_came 7 none 0 := ⟨⟨_, _, hcl_10⟩, ⟨by decide, by decide, by decide +kernel⟩, h_in (List.mem_of_getElem? (i := 1094) (by decide +kernel)) rfl, h_in (List.mem_of_getElem? (i := 1096) (by decide +kernel)) rfl, h_inS (q := (yX10_came, 43)) (List.mem_append_right _ (List.mem_append_right _ (List.mem_append_right _ (List.mem_of_getElem? (i := 1) rfl)))) rfl, cd_X10_came⟩
theorem cd_X10_replied : Cond.code yX10_replied cX10_replied 5 none ∈ h_ws := h_in (List.mem_of_getElem? (i := 1077) (by decide +kernel)) rfl
theorem mv_RX10_193 : h_MV RX10 193 11 yX10_replied cX10_replied 5 none 0 := ⟨⟨_, _, hcl_10⟩, ⟨by decide, by decide, by decide +kernel⟩, h_in (List.mem_of_getElem? (i := 1074) (by decide +kernel)) rfl, h_in (List.mem_of_getElem? (i := 1076) (by decide +kernel)) rfl, h_inS (q := (yX10_replied, 43)) (List.mem_append_right _ (List.mem_append_right _ (List.mem_append_left _ (List.mem_of_getElem? (i := 12) rfl)))) rfl, cd_X10_replied⟩
theorem cd_X10_requested : Cond.code yX10_requested cX10_requested 7 none ∈ h_ws := h_in (List.mem_of_getElem? (i := 1062) (by decide +kernel)) rfl
theorem mv_RX10_190 : h_MV RX10 190 11 yX10_requested cX10_requested 7 none 0 := ⟨⟨_, _, hcl_10⟩, ⟨by decide, by decide, by decide +kernel⟩, h_in (List.mem_of_getElem? (i := 1059) (by decide +kernel)) rfl, h_in (List.mem_of_getElem? (i := 1061) (by decide +kernel)) rfl, h_inS (q := (yX10_requested, 43)) (List.mem_append_right _ (List.mem_append_right _ (List.mem_append_left _ (List.mem_of_getElem? (i := 9) rfl)))) rfl, cd_X10_requested⟩
theorem cd_X10_registered : Cond.code yX10_registered cX10_registered 5 none ∈ h_ws := h_in (List.mem_of_getElem? (i := 1050) (by decide +kernel)) rfl
theorem mv_RX10_187 : h_MV RX10 187 11 yX10_registered cX10_registered 5 none 0 := ⟨⟨_, _, hcl_10⟩, ⟨by decide, by decide, by decide +kernel⟩, h_in (List.mem_of_getElem? (i := 1047) (by decide +kernel)) rfl, h_in (List.mem_of_getElem? (i := 1049) (by decide +kernel)) rfl, h_inS (q := (yX10_registered, 43)) (List.mem_append_right _ (List.mem_append_right _ (List.mem_append_left _ (List.mem_of_getElem? (i := 6) rfl)))) rfl, cd_X10_registered⟩
theorem cd_X10_isMessage : Cond.code yX10_isMessage cX10_isMessage 2 (some .boolean) ∈ h_ws := h_in (List.mem_of_getElem? (i := 1038) (by decide +kernel)) rfl
theorem mv_RX10_176 : h_MV RX10 176 11 yX10_isMessage cX10_isMessage 2 (some .boolean) 1 := ⟨⟨_, _, hcl_10⟩, ⟨by decide, by decide, by decide +kernel⟩, h_in (List.mem_of_getElem? (i := 1035) (by decide +kernel)) rfl, h_in (List.mem_of_getElem? (i := 1037) (by decide +kernel)) rfl, h_inS (q := (yX10_isMessage, 43)) (List.mem_append_right _ (List.mem_append_right _ (List.mem_append_left _ (List.mem_of_getElem? (i := 3) rfl)))) rfl, cd_X10_isMessage⟩
theorem cd_X10_take : Cond.code yX10_take cX10_take 3 none ∈ h_ws := h_in (List.mem_of_getElem? (i := 1042) (by decide +kernel)) rfl
theorem mv_RX10_179 : h_MV RX10 179 11 yX10_take cX10_take 3 none 1 := ⟨⟨_, _, hcl_10⟩, ⟨by decide, by decide, by decide +kernel⟩, h_in (List.mem_of_getElem? (i := 1039) (by decide +kernel)) rfl, h_in (List.mem_of_getElem? (i := 1041) (by decide +kernel)) rfl, h_inS (q := (yX10_take, 43)) (List.mem_append_right _ (List.mem_append_right _ (List.mem_append_left _ (List.mem_of_getElem? (i := 4) rfl)))) rfl, cd_X10_take⟩
theorem cd_X10_arrive : Cond.code yX10_arrive cX10_arrive 1 none ∈ h_ws := h_in (List.mem_of_getElem? (i := 1046) (by decide +kernel)) rfl
theorem mv_RX10_183 : h_MV RX10 183 11 yX10_arrive cX10_arrive 1 none 0 := ⟨⟨_, _, hcl_10⟩, ⟨by decide, by decide, by decide +kernel⟩, h_in (List.mem_of_getElem? (i := 1043) (by decide +kernel)) rfl, h_in (List.mem_of_getElem? (i := 1045) (by decide +kernel)) rfl, h_inS (q := (yX10_arrive, 43)) (List.mem_append_right _ (List.mem_append_right _ (List.mem_append_left _ (List.mem_of_getElem? (i := 5) rfl)))) rfl, cd_X10_arrive⟩
theorem fw_RX10_150 : h_FW RX10 150 11 1 0 := ⟨_, _, _, hcl_10, by decide, rfl, h_in (List.mem_of_getElem? (i := 833) (by decide +kernel)) rfl, rfl⟩
theorem ck_RX10_186 : Cond.constant RX10 186 (1000000) ∈ h_ws := h_in (List.mem_of_getElem? (i := 1142) (by decide +kernel)) rfl
theorem fw_RX10_231 : h_FW RX10 231 11 28 0 := ⟨_, _, _, hcl_10, by decide, rfl, h_in (List.mem_of_getElem? (i := 860) (by decide +kernel)) rfl, rfl⟩
end
section
/-! X0_init -/
theorem dX0_init_0 : decode cX0_init 0 = .ok (.aload_n 0, 1) := by decide +kernel
theorem dX0_init_1 : decode cX0_init 1 = .ok (.invokespecial 1, 3) := by decide +kernel
theorem dX0_init_4 : decode cX0_init 4 = .ok (.aload_n 0, 1) := by decide +kernel
theorem dX0_init_5 : decode cX0_init 5 = .ok (.aload_n 1, 1) := by decide +kernel
theorem dX0_init_6 : decode cX0_init 6 = .ok (.putfield 7, 3) := by decide +kernel
theorem dX0_init_9 : decode cX0_init 9 = .ok (.aload_n 0, 1) := by decide +kernel
theorem dX0_init_10 : decode cX0_init 10 = .ok (.iload_n 2, 1) := by decide +kernel
theorem dX0_init_11 : decode cX0_init 11 = .ok (.putfield 13, 3) := by decide +kernel
theorem dX0_init_14 : decode cX0_init 14 = .ok (.aload_n 0, 1) := by decide +kernel
theorem dX0_init_15 : decode cX0_init 15 = .ok (.iload_n 3, 1) := by decide +kernel
theorem dX0_init_16 : decode cX0_init 16 = .ok (.putfield 17, 3) := by decide +kernel
theorem dX0_init_19 : decode cX0_init 19 = .ok (.aload_n 0, 1) := by decide +kernel
theorem dX0_init_20 : decode cX0_init 20 = .ok (.iload 4, 2) := by decide +kernel
theorem dX0_init_22 : decode cX0_init 22 = .ok (.putfield 20, 3) := by decide +kernel
theorem dX0_init_25 : decode cX0_init 25 = .ok (.aload_n 0, 1) := by decide +kernel
theorem dX0_init_26 : decode cX0_init 26 = .ok (.iload 5, 2) := by decide +kernel
theorem dX0_init_28 : decode cX0_init 28 = .ok (.sipush 180, 3) := by decide +kernel
theorem dX0_init_31 : decode cX0_init 31 = .ok (.iadd, 1) := by decide +kernel
theorem dX0_init_32 : decode cX0_init 32 = .ok (.putfield 23, 3) := by decide +kernel
theorem dX0_init_35 : decode cX0_init 35 = .ok (.return_, 1) := by decide +kernel
def f_X0_init (σ : HS) (a0 : Option Nat) (a1 : Option Nat) (a2 : Int32) (a3 : Int32) (a4 : Int32) (a5 : Int32) : Option (Unit × HS) :=
  h_b1 a0 fun y1 =>
  h_b1 (h_pR σ a0 1 0 a1) fun s3 =>
  h_b1 (h_pI s3 a0 1 1 a2) fun s5 =>
  h_b1 (h_pI s5 a0 1 2 a3) fun s7 =>
  h_b1 (h_pI s7 a0 1 3 a4) fun s9 =>
  h_b1 (h_pI s9 a0 1 4 (a5 + 180)) fun s11 =>
  some ((), s11)
set_option maxHeartbeats 4000000 in
set_option maxRecDepth 100000 in
theorem m_X0_init (l : Launch) (D : va_G) (dA : Nat → ClassId) (bs : Nat) {σ σ' : HS} {a0 : Option Nat} {a1 : Option Nat} {a2 : Int32} {a3 : Int32} {a4 : Int32} {a5 : Int32} (h : f_X0_init σ a0 a1 a2 a3 a4 a5 = some ((), σ')) : MetC l yX0_init cX0_init 6 none 1 12 D dA bs [va_rf a0, va_rf a1, .int a2, .int a3, .int a4, .int a5] none σ σ' := by
  refine MetC.of (by decide) (h_avR (h_avR (h_avI (h_avI (h_avI (h_avI h_av0)))))) (Nat.le_of_ble_eq_true rfl) ?_
  intro p e R s m args below meth c C B hnm
  unfold f_X0_init at h
  refine V_sub (lv' := [(0, va_rf a0), (1, va_rf a1), (2, .int a2), (3, .int a3), (4, .int a4), (5, .int a5)]) [0, 1, 2, 3, 4, 5] rfl ?_
  refine V_aload_n C 0 dX0_init_0 rfl rfl ?_
  obtain ⟨y1, e2, h⟩ := h_b1_some h
  refine V_objInit C ob_RX0 ob_i ob_c dX0_init_1 e2 (h_fr B (by decide)) (h_lo B (by decide)) ?_
  refine V_aload_n C 0 dX0_init_4 rfl rfl ?_
  refine V_aload_n C 1 dX0_init_5 rfl rfl ?_
  obtain ⟨s3, e4, h⟩ := h_b1_some h
  refine V_putFR C hnm ff_RX0_7 dX0_init_6 e4 ?_
  refine V_aload_n C 0 dX0_init_9 rfl rfl ?_
  refine V_iload_n C 2 dX0_init_10 rfl rfl ?_
  obtain ⟨s5, e6, h⟩ := h_b1_some h
  refine V_putFI C hnm ff_RX0_13 dX0_init_11 e6 ?_
  refine V_aload_n C 0 dX0_init_14 rfl rfl ?_
  refine V_iload_n C 3 dX0_init_15 rfl rfl ?_
  obtain ⟨s7, e8, h⟩ := h_b1_some h
  refine V_putFI C hnm ff_RX0_17 dX0_init_16 e8 ?_
  refine V_aload_n C 0 dX0_init_19 rfl rfl ?_
  refine V_iload C 4 dX0_init_20 rfl ?_
  obtain ⟨s9, e10, h⟩ := h_b1_some h
  refine V_putFI C hnm ff_RX0_20 dX0_init_22 e10 ?_
  refine V_aload_n C 0 dX0_init_25 rfl rfl ?_
  refine V_iload C 5 dX0_init_26 rfl ?_
  refine V_sipush (v := 180) C dX0_init_28 (by decide) ?_
  refine V_iadd C dX0_init_31 ?_
  obtain ⟨s11, e12, h⟩ := h_b1_some h
  refine V_putFI C hnm ff_RX0_23 dX0_init_32 e12 ?_
  cases h
  exact V_vret C B dX0_init_35
/-! X0_holdsAt -/
theorem dX0_holdsAt_0 : decode cX0_holdsAt 0 = .ok (.iload_n 1, 1) := by decide +kernel
theorem dX0_holdsAt_1 : decode cX0_holdsAt 1 = .ok (.aload_n 0, 1) := by decide +kernel
theorem dX0_holdsAt_2 : decode cX0_holdsAt 2 = .ok (.getfield 23, 3) := by decide +kernel
theorem dX0_holdsAt_5 : decode cX0_holdsAt 5 = .ok (.if_icmp .ge 7, 3) := by decide +kernel
theorem dX0_holdsAt_8 : decode cX0_holdsAt 8 = .ok (.iconst 1, 1) := by decide +kernel
theorem dX0_holdsAt_9 : decode cX0_holdsAt 9 = .ok (.goto 4, 3) := by decide +kernel
theorem dX0_holdsAt_12 : decode cX0_holdsAt 12 = .ok (.iconst 0, 1) := by decide +kernel
theorem dX0_holdsAt_13 : decode cX0_holdsAt 13 = .ok (.ireturn, 1) := by decide +kernel
def f_X0_holdsAt (σ : HS) (a0 : Option Nat) (a1 : Int32) : Option (Int32 × HS) :=
  h_b1 (h_gI σ a0 1 4) fun x1 =>
  if x1 ≤ a1 then
    some (0, σ)
  else
    some (1, σ)
set_option maxHeartbeats 4000000 in
set_option maxRecDepth 100000 in
theorem m_X0_holdsAt (l : Launch) (D : va_G) (dA : Nat → ClassId) (bs : Nat) {σ σ' : HS} {a0 : Option Nat} {a1 : Int32} {r : Int32} (h : f_X0_holdsAt σ a0 a1 = some (r, σ')) : MetC l yX0_holdsAt cX0_holdsAt 2 (some .boolean) 0 0 D dA bs [va_rf a0, .int a1] (some (.int r)) σ σ' := by
  refine MetC.of (by decide) (h_avR (h_avI h_av0)) (Nat.le_of_ble_eq_true rfl) ?_
  intro p e R s m args below meth c C B hnm
  unfold f_X0_holdsAt at h
  refine V_sub (lv' := [(0, va_rf a0), (1, .int a1)]) [0, 1] rfl ?_
  refine V_iload_n C 1 dX0_holdsAt_0 rfl rfl ?_
  refine V_aload_n C 0 dX0_holdsAt_1 rfl rfl ?_
  obtain ⟨x1, e2, h⟩ := h_b1_some h
  refine V_getI C fl_RX0_23 dX0_holdsAt_2 e2 ?_
  refine V_icmp_ge (tgt := 12) C dX0_holdsAt_5 (by decide) (fun c3 => ?_) (fun c3 => ?_)
  · rw [if_pos c3] at h
    refine V_iconst (v := 0) C dX0_holdsAt_12 (by decide) ?_
    cases h
    exact V_zret C B dX0_holdsAt_13 (Or.inl rfl)
  · rw [if_neg c3] at h
    refine V_iconst (v := 1) C dX0_holdsAt_8 (by decide) ?_
    refine V_goto (tgt := 13) C dX0_holdsAt_9 (by decide) ?_
    cases h
    exact V_zret C B dX0_holdsAt_13 (Or.inr rfl)
/-! X1_init -/
theorem dX1_init_0 : decode cX1_init 0 = .ok (.aload_n 0, 1) := by decide +kernel
theorem dX1_init_1 : decode cX1_init 1 = .ok (.invokespecial 1, 3) := by decide +kernel
theorem dX1_init_4 : decode cX1_init 4 = .ok (.aload_n 0, 1) := by decide +kernel
theorem dX1_init_5 : decode cX1_init 5 = .ok (.aload_n 1, 1) := by decide +kernel
theorem dX1_init_6 : decode cX1_init 6 = .ok (.putfield 7, 3) := by decide +kernel
theorem dX1_init_9 : decode cX1_init 9 = .ok (.aload_n 0, 1) := by decide +kernel
theorem dX1_init_10 : decode cX1_init 10 = .ok (.iload_n 2, 1) := by decide +kernel
theorem dX1_init_11 : decode cX1_init 11 = .ok (.putfield 13, 3) := by decide +kernel
theorem dX1_init_14 : decode cX1_init 14 = .ok (.aload_n 0, 1) := by decide +kernel
theorem dX1_init_15 : decode cX1_init 15 = .ok (.iload_n 3, 1) := by decide +kernel
theorem dX1_init_16 : decode cX1_init 16 = .ok (.putfield 17, 3) := by decide +kernel
theorem dX1_init_19 : decode cX1_init 19 = .ok (.aload_n 0, 1) := by decide +kernel
theorem dX1_init_20 : decode cX1_init 20 = .ok (.iload 4, 2) := by decide +kernel
theorem dX1_init_22 : decode cX1_init 22 = .ok (.bipush 60, 2) := by decide +kernel
theorem dX1_init_24 : decode cX1_init 24 = .ok (.iadd, 1) := by decide +kernel
theorem dX1_init_25 : decode cX1_init 25 = .ok (.putfield 20, 3) := by decide +kernel
theorem dX1_init_28 : decode cX1_init 28 = .ok (.return_, 1) := by decide +kernel
def f_X1_init (σ : HS) (a0 : Option Nat) (a1 : Option Nat) (a2 : Int32) (a3 : Int32) (a4 : Int32) : Option (Unit × HS) :=
  h_b1 a0 fun y1 =>
  h_b1 (h_pR σ a0 2 0 a1) fun s3 =>
  h_b1 (h_pI s3 a0 2 1 a2) fun s5 =>
  h_b1 (h_pI s5 a0 2 2 a3) fun s7 =>
  h_b1 (h_pI s7 a0 2 3 (a4 + 60)) fun s9 =>
  some ((), s9)
set_option maxHeartbeats 4000000 in
set_option maxRecDepth 100000 in
theorem m_X1_init (l : Launch) (D : va_G) (dA : Nat → ClassId) (bs : Nat) {σ σ' : HS} {a0 : Option Nat} {a1 : Option Nat} {a2 : Int32} {a3 : Int32} {a4 : Int32} (h : f_X1_init σ a0 a1 a2 a3 a4 = some ((), σ')) : MetC l yX1_init cX1_init 5 none 1 12 D dA bs [va_rf a0, va_rf a1, .int a2, .int a3, .int a4] none σ σ' := by
  refine MetC.of (by decide) (h_avR (h_avR (h_avI (h_avI (h_avI h_av0))))) (Nat.le_of_ble_eq_true rfl) ?_
  intro p e R s m args below meth c C B hnm
  unfold f_X1_init at h
  refine V_sub (lv' := [(0, va_rf a0), (1, va_rf a1), (2, .int a2), (3, .int a3), (4, .int a4)]) [0, 1, 2, 3, 4] rfl ?_
  refine V_aload_n C 0 dX1_init_0 rfl rfl ?_
  obtain ⟨y1, e2, h⟩ := h_b1_some h
  refine V_objInit C ob_RX1 ob_i ob_c dX1_init_1 e2 (h_fr B (by decide)) (h_lo B (by decide)) ?_
  refine V_aload_n C 0 dX1_init_4 rfl rfl ?_
  refine V_aload_n C 1 dX1_init_5 rfl rfl ?_
  obtain ⟨s3, e4, h⟩ := h_b1_some h
  refine V_putFR C hnm ff_RX1_7 dX1_init_6 e4 ?_
  refine V_aload_n C 0 dX1_init_9 rfl rfl ?_
  refine V_iload_n C 2 dX1_init_10 rfl rfl ?_
  obtain ⟨s5, e6, h⟩ := h_b1_some h
  refine V_putFI C hnm ff_RX1_13 dX1_init_11 e6 ?_
  refine V_aload_n C 0 dX1_init_14 rfl rfl ?_
  refine V_iload_n C 3 dX1_init_15 rfl rfl ?_
  obtain ⟨s7, e8, h⟩ := h_b1_some h
  refine V_putFI C hnm ff_RX1_17 dX1_init_16 e8 ?_
  refine V_aload_n C 0 dX1_init_19 rfl rfl ?_
  refine V_iload C 4 dX1_init_20 rfl ?_
  refine V_bipush (v := 60) C dX1_init_22 (by decide) ?_
  refine V_iadd C dX1_init_24 ?_
  obtain ⟨s9, e10, h⟩ := h_b1_some h
  refine V_putFI C hnm ff_RX1_20 dX1_init_25 e10 ?_
  cases h
  exact V_vret C B dX1_init_28
/-! X1_isHole -/
theorem dX1_isHole_0 : decode cX1_isHole 0 = .ok (.aload_n 0, 1) := by decide +kernel
theorem dX1_isHole_1 : decode cX1_isHole 1 = .ok (.getfield 13, 3) := by decide +kernel
theorem dX1_isHole_4 : decode cX1_isHole 4 = .ok (.iconst (-1), 1) := by decide +kernel
theorem dX1_isHole_5 : decode cX1_isHole 5 = .ok (.if_icmp .ne 7, 3) := by decide +kernel
theorem dX1_isHole_8 : decode cX1_isHole 8 = .ok (.iconst 1, 1) := by decide +kernel
theorem dX1_isHole_9 : decode cX1_isHole 9 = .ok (.goto 4, 3) := by decide +kernel
theorem dX1_isHole_12 : decode cX1_isHole 12 = .ok (.iconst 0, 1) := by decide +kernel
theorem dX1_isHole_13 : decode cX1_isHole 13 = .ok (.ireturn, 1) := by decide +kernel
def f_X1_isHole (σ : HS) (a0 : Option Nat) : Option (Int32 × HS) :=
  h_b1 (h_gI σ a0 2 1) fun x1 =>
  if x1 = (-1) then
    some (1, σ)
  else
    some (0, σ)
set_option maxHeartbeats 4000000 in
set_option maxRecDepth 100000 in
theorem m_X1_isHole (l : Launch) (D : va_G) (dA : Nat → ClassId) (bs : Nat) {σ σ' : HS} {a0 : Option Nat} {r : Int32} (h : f_X1_isHole σ a0 = some (r, σ')) : MetC l yX1_isHole cX1_isHole 1 (some .boolean) 0 0 D dA bs [va_rf a0] (some (.int r)) σ σ' := by
  refine MetC.of (by decide) (h_avR h_av0) (Nat.le_of_ble_eq_true rfl) ?_
  intro p e R s m args below meth c C B hnm
  unfold f_X1_isHole at h
  refine V_sub (lv' := [(0, va_rf a0)]) [0] rfl ?_
  refine V_aload_n C 0 dX1_isHole_0 rfl rfl ?_
  obtain ⟨x1, e2, h⟩ := h_b1_some h
  refine V_getI C fl_RX1_13 dX1_isHole_1 e2 ?_
  refine V_iconst (v := (-1)) C dX1_isHole_4 (by decide) ?_
  refine V_icmp_ne (tgt := 12) C dX1_isHole_5 (by decide) (fun c3 => ?_) (fun c3 => ?_)
  · rw [if_neg c3] at h
    refine V_iconst (v := 0) C dX1_isHole_12 (by decide) ?_
    cases h
    exact V_zret C B dX1_isHole_13 (Or.inl rfl)
  · rw [if_pos c3] at h
    refine V_iconst (v := 1) C dX1_isHole_8 (by decide) ?_
    refine V_goto (tgt := 13) C dX1_isHole_9 (by decide) ?_
    cases h
    exact V_zret C B dX1_isHole_13 (Or.inr rfl)
/-! X1_isThere -/
theorem dX1_isThere_0 : decode cX1_isThere 0 = .ok (.iload_n 1, 1) := by decide +kernel
theorem dX1_isThere_1 : decode cX1_isThere 1 = .ok (.aload_n 0, 1) := by decide +kernel
theorem dX1_isThere_2 : decode cX1_isThere 2 = .ok (.getfield 20, 3) := by decide +kernel
theorem dX1_isThere_5 : decode cX1_isThere 5 = .ok (.if_icmp .ge 7, 3) := by decide +kernel
theorem dX1_isThere_8 : decode cX1_isThere 8 = .ok (.iconst 1, 1) := by decide +kernel
theorem dX1_isThere_9 : decode cX1_isThere 9 = .ok (.goto 4, 3) := by decide +kernel
theorem dX1_isThere_12 : decode cX1_isThere 12 = .ok (.iconst 0, 1) := by decide +kernel
theorem dX1_isThere_13 : decode cX1_isThere 13 = .ok (.ireturn, 1) := by decide +kernel
def f_X1_isThere (σ : HS) (a0 : Option Nat) (a1 : Int32) : Option (Int32 × HS) :=
  h_b1 (h_gI σ a0 2 3) fun x1 =>
  if x1 ≤ a1 then
    some (0, σ)
  else
    some (1, σ)
set_option maxHeartbeats 4000000 in
set_option maxRecDepth 100000 in
theorem m_X1_isThere (l : Launch) (D : va_G) (dA : Nat → ClassId) (bs : Nat) {σ σ' : HS} {a0 : Option Nat} {a1 : Int32} {r : Int32} (h : f_X1_isThere σ a0 a1 = some (r, σ')) : MetC l yX1_isThere cX1_isThere 2 (some .boolean) 0 0 D dA bs [va_rf a0, .int a1] (some (.int r)) σ σ' := by
  refine MetC.of (by decide) (h_avR (h_avI h_av0)) (Nat.le_of_ble_eq_true rfl) ?_
  intro p e R s m args below meth c C B hnm
  unfold f_X1_isThere at h
  refine V_sub (lv' := [(0, va_rf a0), (1, .int a1)]) [0, 1] rfl ?_
  refine V_iload_n C 1 dX1_isThere_0 rfl rfl ?_
  refine V_aload_n C 0 dX1_isThere_1 rfl rfl ?_
  obtain ⟨x1, e2, h⟩ := h_b1_some h
  refine V_getI C fl_RX1_20 dX1_isThere_2 e2 ?_
  refine V_icmp_ge (tgt := 12) C dX1_isThere_5 (by decide) (fun c3 => ?_) (fun c3 => ?_)
  · rw [if_pos c3] at h
    refine V_iconst (v := 0) C dX1_isThere_12 (by decide) ?_
    cases h
    exact V_zret C B dX1_isThere_13 (Or.inl rfl)
  · rw [if_neg c3] at h
    refine V_iconst (v := 1) C dX1_isThere_8 (by decide) ?_
    refine V_goto (tgt := 13) C dX1_isThere_9 (by decide) ?_
    cases h
    exact V_zret C B dX1_isThere_13 (Or.inr rfl)
/-! X2_init -/
theorem dX2_init_0 : decode cX2_init 0 = .ok (.aload_n 0, 1) := by decide +kernel
theorem dX2_init_1 : decode cX2_init 1 = .ok (.invokespecial 1, 3) := by decide +kernel
theorem dX2_init_4 : decode cX2_init 4 = .ok (.aload_n 0, 1) := by decide +kernel
theorem dX2_init_5 : decode cX2_init 5 = .ok (.bipush 6, 2) := by decide +kernel
theorem dX2_init_7 : decode cX2_init 7 = .ok (.anewarray 9, 3) := by decide +kernel
theorem dX2_init_10 : decode cX2_init 10 = .ok (.putfield 11, 3) := by decide +kernel
theorem dX2_init_13 : decode cX2_init 13 = .ok (.return_, 1) := by decide +kernel
def f_X2_init (σ : HS) (a0 : Option Nat) : Option (Unit × HS) :=
  h_b1 a0 fun y1 =>
  h_bd (h_mkA σ 104 6) fun x3 s4 =>
  h_b1 (h_pR s4 a0 3 0 x3) fun s6 =>
  some ((), s6)
set_option maxHeartbeats 4000000 in
set_option maxRecDepth 100000 in
theorem m_X2_init (l : Launch) (D : va_G) (dA : Nat → ClassId) (bs : Nat) {σ σ' : HS} {a0 : Option Nat} (h : f_X2_init σ a0 = some ((), σ')) : MetC l yX2_init cX2_init 1 none 1 12 D dA bs [va_rf a0] none σ σ' := by
  refine MetC.of (by decide) (h_avR h_av0) (Nat.le_of_ble_eq_true rfl) ?_
  intro p e R s m args below meth c C B hnm
  unfold f_X2_init at h
  refine V_sub (lv' := [(0, va_rf a0)]) [0] rfl ?_
  refine V_aload_n C 0 dX2_init_0 rfl rfl ?_
  obtain ⟨y1, e2, h⟩ := h_b1_some h
  refine V_objInit C ob_RX2 ob_i ob_c dX2_init_1 e2 (h_fr B (by decide)) (h_lo B (by decide)) ?_
  refine V_aload_n C 0 dX2_init_4 rfl rfl ?_
  refine V_bipush (v := 6) C dX2_init_5 (by decide) ?_
  obtain ⟨x3, s4, e5, h⟩ := h_bd_some h
  refine V_anew (u := 2) C (by decide) rfl rfl lk_RX2_9 ao_1 dX2_init_7 e5 ?_
  obtain ⟨s6, e7, h⟩ := h_b1_some h
  refine V_putFR C hnm ff_RX2_11 dX2_init_10 e7 ?_
  cases h
  exact V_vret C B dX2_init_13
/-! X4_mask -/
theorem dX4_mask_0 : decode cX4_mask 0 = .ok (.iload_n 0, 1) := by decide +kernel
theorem dX4_mask_1 : decode cX4_mask 1 = .ok (.ifCond .gt 7, 3) := by decide +kernel
theorem dX4_mask_4 : decode cX4_mask 4 = .ok (.iconst 0, 1) := by decide +kernel
theorem dX4_mask_5 : decode cX4_mask 5 = .ok (.goto 9, 3) := by decide +kernel
theorem dX4_mask_8 : decode cX4_mask 8 = .ok (.iconst (-1), 1) := by decide +kernel
theorem dX4_mask_9 : decode cX4_mask 9 = .ok (.bipush 32, 2) := by decide +kernel
theorem dX4_mask_11 : decode cX4_mask 11 = .ok (.iload_n 0, 1) := by decide +kernel
theorem dX4_mask_12 : decode cX4_mask 12 = .ok (.isub, 1) := by decide +kernel
theorem dX4_mask_13 : decode cX4_mask 13 = .ok (.ishl, 1) := by decide +kernel
theorem dX4_mask_14 : decode cX4_mask 14 = .ok (.ireturn, 1) := by decide +kernel
def f_X4_mask (σ : HS) (a0 : Int32) : Option (Int32 × HS) :=
  if 0 < a0 then
    some (((-1) <<< ((32 - a0) &&& 31)), σ)
  else
    some (0, σ)
set_option maxHeartbeats 4000000 in
set_option maxRecDepth 100000 in
theorem m_X4_mask (l : Launch) (D : va_G) (dA : Nat → ClassId) (bs : Nat) {σ σ' : HS} {a0 : Int32} {r : Int32} (h : f_X4_mask σ a0 = some (r, σ')) : MetC l yX4_mask cX4_mask 1 (some .int) 0 0 D dA bs [.int a0] (some (.int r)) σ σ' := by
  refine MetC.of (by decide) (h_avI h_av0) (Nat.le_of_ble_eq_true rfl) ?_
  intro p e R s m args below meth c C B hnm
  unfold f_X4_mask at h
  refine V_sub (lv' := [(0, .int a0)]) [0] rfl ?_
  refine V_iload_n C 0 dX4_mask_0 rfl rfl ?_
  refine V_if_gt (tgt := 8) C dX4_mask_1 (by decide) (fun c1 => ?_) (fun c1 => ?_)
  · rw [if_pos c1] at h
    refine V_iconst (v := (-1)) C dX4_mask_8 (by decide) ?_
    refine V_bipush (v := 32) C dX4_mask_9 (by decide) ?_
    refine V_iload_n C 0 dX4_mask_11 rfl rfl ?_
    refine V_isub C dX4_mask_12 ?_
    refine V_ishl C dX4_mask_13 ?_
    cases h
    exact V_iret C B dX4_mask_14
  · rw [if_neg c1] at h
    refine V_iconst (v := 0) C dX4_mask_4 (by decide) ?_
    refine V_goto (tgt := 14) C dX4_mask_5 (by decide) ?_
    cases h
    exact V_iret C B dX4_mask_14
/-! X4_has -/
theorem dX4_has_0 : decode cX4_has 0 = .ok (.iload_n 1, 1) := by decide +kernel
theorem dX4_has_1 : decode cX4_has 1 = .ok (.aload_n 0, 1) := by decide +kernel
theorem dX4_has_2 : decode cX4_has 2 = .ok (.getfield 13, 3) := by decide +kernel
theorem dX4_has_5 : decode cX4_has 5 = .ok (.invokestatic 16, 3) := by decide +kernel
theorem dX4_has_8 : decode cX4_has 8 = .ok (.iand, 1) := by decide +kernel
theorem dX4_has_9 : decode cX4_has 9 = .ok (.aload_n 0, 1) := by decide +kernel
theorem dX4_has_10 : decode cX4_has 10 = .ok (.getfield 7, 3) := by decide +kernel
theorem dX4_has_13 : decode cX4_has 13 = .ok (.if_icmp .ne 7, 3) := by decide +kernel
theorem dX4_has_16 : decode cX4_has 16 = .ok (.iconst 1, 1) := by decide +kernel
theorem dX4_has_17 : decode cX4_has 17 = .ok (.goto 4, 3) := by decide +kernel
theorem dX4_has_20 : decode cX4_has 20 = .ok (.iconst 0, 1) := by decide +kernel
theorem dX4_has_21 : decode cX4_has 21 = .ok (.ireturn, 1) := by decide +kernel
def f_X4_has (σ : HS) (a0 : Option Nat) (a1 : Int32) : Option (Int32 × HS) :=
  h_b1 (h_gI σ a0 5 1) fun x1 =>
  h_bd (f_X4_mask σ x1) fun r3 s4 =>
  h_b1 (h_gI s4 a0 5 0) fun x6 =>
  if (a1 &&& r3) = x6 then
    some (1, s4)
  else
    some (0, s4)
set_option maxHeartbeats 4000000 in
set_option maxRecDepth 100000 in
theorem m_X4_has (l : Launch) (D : va_G) (dA : Nat → ClassId) (bs : Nat) {σ σ' : HS} {a0 : Option Nat} {a1 : Int32} {r : Int32} (h : f_X4_has σ a0 a1 = some (r, σ')) : MetC l yX4_has cX4_has 2 (some .boolean) 1 20 D dA bs [va_rf a0, .int a1] (some (.int r)) σ σ' := by
  refine MetC.of (by decide) (h_avR (h_avI h_av0)) (Nat.le_of_ble_eq_true rfl) ?_
  intro p e R s m args below meth c C B hnm
  unfold f_X4_has at h
  refine V_sub (lv' := [(0, va_rf a0), (1, .int a1)]) [0, 1] rfl ?_
  refine V_iload_n C 1 dX4_has_0 rfl rfl ?_
  refine V_aload_n C 0 dX4_has_1 rfl rfl ?_
  obtain ⟨x1, e2, h⟩ := h_b1_some h
  refine V_getI C fl_RX4_13 dX4_has_2 e2 ?_
  obtain ⟨r3, s4, e5, h⟩ := h_bd_some h
  refine V_cS (As := [.int x1]) (rest := [.int a1]) C ms_RX4_16 (m_X4_mask l D dA bs e5) rfl rfl (Nat.le_trans (h_wI h_w0) (by decide)) (h_fr B (by decide)) (h_lo B (by decide)) dX4_has_5 ?_
  refine V_iand C dX4_has_8 ?_
  refine V_aload_n C 0 dX4_has_9 rfl rfl ?_
  obtain ⟨x6, e7, h⟩ := h_b1_some h
  refine V_getI C fl_RX4_7 dX4_has_10 e7 ?_
  refine V_icmp_ne (tgt := 20) C dX4_has_13 (by decide) (fun c8 => ?_) (fun c8 => ?_)
  · rw [if_neg c8] at h
    refine V_iconst (v := 0) C dX4_has_20 (by decide) ?_
    cases h
    exact V_zret C B dX4_has_21 (Or.inl rfl)
  · rw [if_pos c8] at h
    refine V_iconst (v := 1) C dX4_has_16 (by decide) ?_
    refine V_goto (tgt := 21) C dX4_has_17 (by decide) ?_
    cases h
    exact V_zret C B dX4_has_21 (Or.inr rfl)
/-! X2_find -/
theorem dX2_find_0 : decode cX2_find 0 = .ok (.iconst 0, 1) := by decide +kernel
theorem dX2_find_1 : decode cX2_find 1 = .ok (.istore_n 3, 1) := by decide +kernel
theorem dX2_find_2 : decode cX2_find 2 = .ok (.iload_n 3, 1) := by decide +kernel
theorem dX2_find_3 : decode cX2_find 3 = .ok (.aload_n 0, 1) := by decide +kernel
theorem dX2_find_4 : decode cX2_find 4 = .ok (.getfield 15, 3) := by decide +kernel
theorem dX2_find_7 : decode cX2_find 7 = .ok (.if_icmp .ge 45, 3) := by decide +kernel
theorem dX2_find_10 : decode cX2_find 10 = .ok (.aload_n 0, 1) := by decide +kernel
theorem dX2_find_11 : decode cX2_find 11 = .ok (.getfield 11, 3) := by decide +kernel
theorem dX2_find_14 : decode cX2_find 14 = .ok (.iload_n 3, 1) := by decide +kernel
theorem dX2_find_15 : decode cX2_find 15 = .ok (.aaload, 1) := by decide +kernel
theorem dX2_find_16 : decode cX2_find 16 = .ok (.iload_n 2, 1) := by decide +kernel
theorem dX2_find_17 : decode cX2_find 17 = .ok (.invokevirtual 19, 3) := by decide +kernel
theorem dX2_find_20 : decode cX2_find 20 = .ok (.ifCond .eq 26, 3) := by decide +kernel
theorem dX2_find_23 : decode cX2_find 23 = .ok (.aload_n 0, 1) := by decide +kernel
theorem dX2_find_24 : decode cX2_find 24 = .ok (.getfield 11, 3) := by decide +kernel
theorem dX2_find_27 : decode cX2_find 27 = .ok (.iload_n 3, 1) := by decide +kernel
theorem dX2_find_28 : decode cX2_find 28 = .ok (.aaload, 1) := by decide +kernel
theorem dX2_find_29 : decode cX2_find 29 = .ok (.getfield 23, 3) := by decide +kernel
theorem dX2_find_32 : decode cX2_find 32 = .ok (.iload_n 1, 1) := by decide +kernel
theorem dX2_find_33 : decode cX2_find 33 = .ok (.invokevirtual 27, 3) := by decide +kernel
theorem dX2_find_36 : decode cX2_find 36 = .ok (.ifCond .eq 10, 3) := by decide +kernel
theorem dX2_find_39 : decode cX2_find 39 = .ok (.aload_n 0, 1) := by decide +kernel
theorem dX2_find_40 : decode cX2_find 40 = .ok (.getfield 11, 3) := by decide +kernel
theorem dX2_find_43 : decode cX2_find 43 = .ok (.iload_n 3, 1) := by decide +kernel
theorem dX2_find_44 : decode cX2_find 44 = .ok (.aaload, 1) := by decide +kernel
theorem dX2_find_45 : decode cX2_find 45 = .ok (.areturn, 1) := by decide +kernel
theorem dX2_find_46 : decode cX2_find 46 = .ok (.iinc 3 1, 3) := by decide +kernel
theorem dX2_find_49 : decode cX2_find 49 = .ok (.goto (-47), 3) := by decide +kernel
theorem dX2_find_52 : decode cX2_find 52 = .ok (.aconst_null, 1) := by decide +kernel
theorem dX2_find_53 : decode cX2_find 53 = .ok (.areturn, 1) := by decide +kernel
def g_X2_find_2 : Nat → HS → Option Nat → Int32 → Int32 → Int32 → Option (Option Nat × HS)
  | 0, _, _, _, _, _ => none
  | n + 1, σ, l0, l1, l2, l3 =>
    h_b1 (h_gI σ l0 3 1) fun x1 =>
    if x1 ≤ l3 then
      some (none, σ)
    else
      h_b1 (h_gR σ l0 3 0) fun x4 =>
      h_b1 (h_aR σ x4 104 l3) fun x6 =>
      h_b1 (h_rcv σ x6 2) fun y11 =>
      h_bd (f_X1_isThere σ x6 l2) fun r8 s9 =>
      if r8 = 0 then
        g_X2_find_2 n s9 l0 l1 l2 (l3 + 1)
      else
        h_b1 (h_gR s9 l0 3 0) fun x14 =>
        h_b1 (h_aR s9 x14 104 l3) fun x16 =>
        h_b1 (h_gR s9 x16 2 0) fun x18 =>
        h_b1 (h_rcv s9 x18 5) fun y23 =>
        h_bd (f_X4_has s9 x18 l1) fun r20 s21 =>
        if r20 = 0 then
          g_X2_find_2 n s21 l0 l1 l2 (l3 + 1)
        else
          h_b1 (h_gR s21 l0 3 0) fun x26 =>
          h_b1 (h_aR s21 x26 104 l3) fun x28 =>
          some (x28, s21)
def f_X2_find (σ : HS) (a0 : Option Nat) (a1 : Int32) (a2 : Int32) : Option (Option Nat × HS) :=
  g_X2_find_2 h_hN σ a0 a1 a2 0
set_option maxHeartbeats 4000000 in
set_option maxRecDepth 100000 in
theorem w_X2_find_2 {p : Program} {l : Launch} {e : Env} {R : Room} {s : State} {m : MethodId} {args : Array Value} {below : List Frame} {meth : Method} {c : Code} {D : va_G} {dA : Nat → ClassId} {bs : Nat} (C : h_C p m c cX2_find 4 s args RX2 D dA) {σ0 : HS} (B : h_B R s meth σ0 (some (.object RX1)) 2 41) {σ' : HS} {r : Option Nat} : ∀ (n : Nat) (σ : HS) (l0 : Option Nat) (l1 : Int32) (l2 : Int32) (l3 : Int32), g_X2_find_2 n σ l0 l1 l2 l3 = some (r, σ') → V p l e R s m args below meth c D dA bs 4 (MQ below (h_Q D dA bs (some (va_rf r)) σ0 σ') args s R.cells R.slots (fun q => bs ≤ q)) σ 2 [(0, va_rf l0), (1, .int l1), (2, .int l2), (3, .int l3)] [] := by
  intro n
  induction n with
  | zero =>
    intro σ l0 l1 l2 l3 h
    rw [g_X2_find_2] at h
    cases h
  | succ n ih =>
    intro σ l0 l1 l2 l3 h
    rw [g_X2_find_2] at h
    refine V_iload_n C 3 dX2_find_2 rfl rfl ?_
    refine V_aload_n C 0 dX2_find_3 rfl rfl ?_
    obtain ⟨x1, e2, h⟩ := h_b1_some h
    refine V_getI C fl_RX2_15 dX2_find_4 e2 ?_
    refine V_icmp_ge (tgt := 52) C dX2_find_7 (by decide) (fun c3 => ?_) (fun c3 => ?_)
    · rw [if_pos c3] at h
      refine V_null C dX2_find_52 ?_
      cases h
      exact V_aret C B dX2_find_53
    · rw [if_neg c3] at h
      refine V_aload_n C 0 dX2_find_10 rfl rfl ?_
      obtain ⟨x4, e5, h⟩ := h_b1_some h
      refine V_getR C fl_RX2_11 dX2_find_11 e5 ?_
      refine V_iload_n C 3 dX2_find_14 rfl rfl ?_
      obtain ⟨x6, e7, h⟩ := h_b1_some h
      refine V_aald C h_at104 dX2_find_15 e7 ?_
      refine V_iload_n C 2 dX2_find_16 rfl rfl ?_
      obtain ⟨y11, e12, h⟩ := h_b1_some h
      obtain ⟨r8, s9, e10, h⟩ := h_bd_some h
      refine V_cV (As := [.int l2]) (rest := []) C mv_RX2_19 (m_X1_isThere l D dA bs e10) e12 rfl rfl (Nat.le_trans h_w0 (by decide)) (h_fr B (by decide)) (h_lo B (by decide)) dX2_find_17 ?_
      refine V_if_eq (tgt := 46) C dX2_find_20 (by decide) (fun c13 => ?_) (fun c13 => ?_)
      · rw [if_pos c13] at h
        refine V_iinc (v := (l3 + 1)) (lv' := [(3, .int (l3 + 1)), (0, va_rf l0), (1, .int l1), (2, .int l2)]) C 3 dX2_find_46 rfl rfl (by decide) rfl ?_
        refine V_goto (tgt := 2) C dX2_find_49 (by decide) ?_
        exact V_sub [1, 2, 3, 0] rfl (ih s9 l0 l1 l2 (l3 + 1) h)
      · rw [if_neg c13] at h
        refine V_aload_n C 0 dX2_find_23 rfl rfl ?_
        obtain ⟨x14, e15, h⟩ := h_b1_some h
        refine V_getR C fl_RX2_11 dX2_find_24 e15 ?_
        refine V_iload_n C 3 dX2_find_27 rfl rfl ?_
        obtain ⟨x16, e17, h⟩ := h_b1_some h
        refine V_aald C h_at104 dX2_find_28 e17 ?_
        obtain ⟨x18, e19, h⟩ := h_b1_some h
        refine V_getR C fl_RX2_23 dX2_find_29 e19 ?_
        refine V_iload_n C 1 dX2_find_32 rfl rfl ?_
        obtain ⟨y23, e24, h⟩ := h_b1_some h
        obtain ⟨r20, s21, e22, h⟩ := h_bd_some h
        refine V_cV (As := [.int l1]) (rest := []) C mv_RX2_27 (m_X4_has l D dA bs e22) e24 rfl rfl (Nat.le_trans h_w0 (by decide)) (h_fr B (by decide)) (h_lo B (by decide)) dX2_find_33 ?_
        refine V_if_eq (tgt := 46) C dX2_find_36 (by decide) (fun c25 => ?_) (fun c25 => ?_)
        · rw [if_pos c25] at h
          refine V_iinc (v := (l3 + 1)) (lv' := [(3, .int (l3 + 1)), (0, va_rf l0), (1, .int l1), (2, .int l2)]) C 3 dX2_find_46 rfl rfl (by decide) rfl ?_
          refine V_goto (tgt := 2) C dX2_find_49 (by decide) ?_
          exact V_sub [1, 2, 3, 0] rfl (ih s21 l0 l1 l2 (l3 + 1) h)
        · rw [if_neg c25] at h
          refine V_aload_n C 0 dX2_find_39 rfl rfl ?_
          obtain ⟨x26, e27, h⟩ := h_b1_some h
          refine V_getR C fl_RX2_11 dX2_find_40 e27 ?_
          refine V_iload_n C 3 dX2_find_43 rfl rfl ?_
          obtain ⟨x28, e29, h⟩ := h_b1_some h
          refine V_aald C h_at104 dX2_find_44 e29 ?_
          cases h
          exact V_aret C B dX2_find_45
set_option maxHeartbeats 4000000 in
set_option maxRecDepth 100000 in
theorem m_X2_find (l : Launch) (D : va_G) (dA : Nat → ClassId) (bs : Nat) {σ σ' : HS} {a0 : Option Nat} {a1 : Int32} {a2 : Int32} {r : Option Nat} (h : f_X2_find σ a0 a1 a2 = some (r, σ')) : MetC l yX2_find cX2_find 4 (some (.object RX1)) 2 41 D dA bs [va_rf a0, .int a1, .int a2] (some (va_rf r)) σ σ' := by
  refine MetC.of (by decide) (h_avR (h_avI (h_avI h_av0))) (Nat.le_of_ble_eq_true rfl) ?_
  intro p e R s m args below meth c C B hnm
  unfold f_X2_find at h
  refine V_sub (lv' := [(0, va_rf a0), (1, .int a1), (2, .int a2)]) [0, 1, 2] rfl ?_
  refine V_iconst (v := 0) C dX2_find_0 (by decide) ?_
  refine V_istore_n (lv' := [(3, .int 0), (0, va_rf a0), (1, .int a1), (2, .int a2)]) C dX2_find_1 rfl (by decide) rfl ?_
  exact V_sub [1, 2, 3, 0] rfl (w_X2_find_2 C B h_hN σ a0 a1 a2 0 h)
/-! X2_remove -/
theorem dX2_remove_0 : decode cX2_remove 0 = .ok (.iload_n 1, 1) := by decide +kernel
theorem dX2_remove_1 : decode cX2_remove 1 = .ok (.istore_n 2, 1) := by decide +kernel
theorem dX2_remove_2 : decode cX2_remove 2 = .ok (.iload_n 2, 1) := by decide +kernel
theorem dX2_remove_3 : decode cX2_remove 3 = .ok (.aload_n 0, 1) := by decide +kernel
theorem dX2_remove_4 : decode cX2_remove 4 = .ok (.getfield 15, 3) := by decide +kernel
theorem dX2_remove_7 : decode cX2_remove 7 = .ok (.iconst 1, 1) := by decide +kernel
theorem dX2_remove_8 : decode cX2_remove 8 = .ok (.isub, 1) := by decide +kernel
theorem dX2_remove_9 : decode cX2_remove 9 = .ok (.if_icmp .ge 23, 3) := by decide +kernel
theorem dX2_remove_12 : decode cX2_remove 12 = .ok (.aload_n 0, 1) := by decide +kernel
theorem dX2_remove_13 : decode cX2_remove 13 = .ok (.getfield 11, 3) := by decide +kernel
theorem dX2_remove_16 : decode cX2_remove 16 = .ok (.iload_n 2, 1) := by decide +kernel
theorem dX2_remove_17 : decode cX2_remove 17 = .ok (.aload_n 0, 1) := by decide +kernel
theorem dX2_remove_18 : decode cX2_remove 18 = .ok (.getfield 11, 3) := by decide +kernel
theorem dX2_remove_21 : decode cX2_remove 21 = .ok (.iload_n 2, 1) := by decide +kernel
theorem dX2_remove_22 : decode cX2_remove 22 = .ok (.iconst 1, 1) := by decide +kernel
theorem dX2_remove_23 : decode cX2_remove 23 = .ok (.iadd, 1) := by decide +kernel
theorem dX2_remove_24 : decode cX2_remove 24 = .ok (.aaload, 1) := by decide +kernel
theorem dX2_remove_25 : decode cX2_remove 25 = .ok (.aastore, 1) := by decide +kernel
theorem dX2_remove_26 : decode cX2_remove 26 = .ok (.iinc 2 1, 3) := by decide +kernel
theorem dX2_remove_29 : decode cX2_remove 29 = .ok (.goto (-27), 3) := by decide +kernel
theorem dX2_remove_32 : decode cX2_remove 32 = .ok (.aload_n 0, 1) := by decide +kernel
theorem dX2_remove_33 : decode cX2_remove 33 = .ok (.dup, 1) := by decide +kernel
theorem dX2_remove_34 : decode cX2_remove 34 = .ok (.getfield 15, 3) := by decide +kernel
theorem dX2_remove_37 : decode cX2_remove 37 = .ok (.iconst 1, 1) := by decide +kernel
theorem dX2_remove_38 : decode cX2_remove 38 = .ok (.isub, 1) := by decide +kernel
theorem dX2_remove_39 : decode cX2_remove 39 = .ok (.putfield 15, 3) := by decide +kernel
theorem dX2_remove_42 : decode cX2_remove 42 = .ok (.return_, 1) := by decide +kernel
def g_X2_remove_2 : Nat → HS → Option Nat → Int32 → Option (Unit × HS)
  | 0, _, _, _ => none
  | n + 1, σ, l0, l2 =>
    h_b1 (h_gI σ l0 3 1) fun x1 =>
    if (x1 - 1) ≤ l2 then
      h_b1 (h_gI σ l0 3 1) fun x4 =>
      h_b1 (h_pI σ l0 3 1 (x4 - 1)) fun s6 =>
      some ((), s6)
    else
      h_b1 (h_gR σ l0 3 0) fun x8 =>
      h_b1 (h_gR σ l0 3 0) fun x10 =>
      h_b1 (h_aR σ x10 104 (l2 + 1)) fun x12 =>
      h_b1 (h_sR σ x8 104 2 l2 x12) fun s14 =>
      g_X2_remove_2 n s14 l0 (l2 + 1)
def f_X2_remove (σ : HS) (a0 : Option Nat) (a1 : Int32) : Option (Unit × HS) :=
  g_X2_remove_2 h_hN σ a0 a1
set_option maxHeartbeats 4000000 in
set_option maxRecDepth 100000 in
theorem w_X2_remove_2 {p : Program} {l : Launch} {e : Env} {R : Room} {s : State} {m : MethodId} {args : Array Value} {below : List Frame} {meth : Method} {c : Code} {D : va_G} {dA : Nat → ClassId} {bs : Nat} (C : h_C p m c cX2_remove 3 s args RX2 D dA) {σ0 : HS} (B : h_B R s meth σ0 none 0 0) {σ' : HS} : ∀ (n : Nat) (σ : HS) (l0 : Option Nat) (l2 : Int32), g_X2_remove_2 n σ l0 l2 = some ((), σ') → V p l e R s m args below meth c D dA bs 3 (MQ below (h_Q D dA bs none σ0 σ') args s R.cells R.slots (fun q => bs ≤ q)) σ 2 [(0, va_rf l0), (2, .int l2)] [] := by
  intro n
  induction n with
  | zero =>
    intro σ l0 l2 h
    rw [g_X2_remove_2] at h
    cases h
  | succ n ih =>
    intro σ l0 l2 h
    rw [g_X2_remove_2] at h
    refine V_iload_n C 1 dX2_remove_2 rfl rfl ?_
    refine V_aload_n C 0 dX2_remove_3 rfl rfl ?_
    obtain ⟨x1, e2, h⟩ := h_b1_some h
    refine V_getI C fl_RX2_15 dX2_remove_4 e2 ?_
    refine V_iconst (v := 1) C dX2_remove_7 (by decide) ?_
    refine V_isub C dX2_remove_8 ?_
    refine V_icmp_ge (tgt := 32) C dX2_remove_9 (by decide) (fun c3 => ?_) (fun c3 => ?_)
    · rw [if_pos c3] at h
      refine V_aload_n C 0 dX2_remove_32 rfl rfl ?_
      refine V_dupR C dX2_remove_33 ?_
      obtain ⟨x4, e5, h⟩ := h_b1_some h
      refine V_getI C fl_RX2_15 dX2_remove_34 e5 ?_
      refine V_iconst (v := 1) C dX2_remove_37 (by decide) ?_
      refine V_isub C dX2_remove_38 ?_
      obtain ⟨s6, e7, h⟩ := h_b1_some h
      refine V_putI C fw_RX2_15 dX2_remove_39 e7 ?_
      cases h
      exact V_vret C B dX2_remove_42
    · rw [if_neg c3] at h
      refine V_aload_n C 0 dX2_remove_12 rfl rfl ?_
      obtain ⟨x8, e9, h⟩ := h_b1_some h
      refine V_getR C fl_RX2_11 dX2_remove_13 e9 ?_
      refine V_iload_n C 1 dX2_remove_16 rfl rfl ?_
      refine V_aload_n C 0 dX2_remove_17 rfl rfl ?_
      obtain ⟨x10, e11, h⟩ := h_b1_some h
      refine V_getR C fl_RX2_11 dX2_remove_18 e11 ?_
      refine V_iload_n C 1 dX2_remove_21 rfl rfl ?_
      refine V_iconst (v := 1) C dX2_remove_22 (by decide) ?_
      refine V_iadd C dX2_remove_23 ?_
      obtain ⟨x12, e13, h⟩ := h_b1_some h
      refine V_aald C h_at104 dX2_remove_24 e13 ?_
      obtain ⟨s14, e15, h⟩ := h_b1_some h
      refine V_aast C h_at104 dX2_remove_25 e15 ?_
      refine V_iinc (v := (l2 + 1)) (lv' := [(2, .int (l2 + 1)), (0, va_rf l0)]) C 1 dX2_remove_26 rfl rfl (by decide) rfl ?_
      refine V_goto (tgt := 2) C dX2_remove_29 (by decide) ?_
      exact V_sub [1, 0] rfl (ih s14 l0 (l2 + 1) h)
set_option maxHeartbeats 4000000 in
set_option maxRecDepth 100000 in
theorem m_X2_remove (l : Launch) (D : va_G) (dA : Nat → ClassId) (bs : Nat) {σ σ' : HS} {a0 : Option Nat} {a1 : Int32} (h : f_X2_remove σ a0 a1 = some ((), σ')) : MetC l yX2_remove cX2_remove 3 none 0 0 D dA bs [va_rf a0, .int a1] none σ σ' := by
  refine MetC.of (by decide) (h_avR (h_avI h_av0)) (Nat.le_of_ble_eq_true rfl) ?_
  intro p e R s m args below meth c C B hnm
  unfold f_X2_remove at h
  refine V_sub (lv' := [(0, va_rf a0), (1, .int a1)]) [0, 1] rfl ?_
  refine V_iload_n C 1 dX2_remove_0 rfl rfl ?_
  refine V_istore_n (lv' := [(2, .int a1), (0, va_rf a0), (1, .int a1)]) C dX2_remove_1 rfl (by decide) rfl ?_
  exact V_sub [1, 0] rfl (w_X2_remove_2 C B h_hN σ a0 a1 h)
/-! X4_liesIn -/
theorem dX4_liesIn_0 : decode cX4_liesIn 0 = .ok (.aload_n 0, 1) := by decide +kernel
theorem dX4_liesIn_1 : decode cX4_liesIn 1 = .ok (.getfield 13, 3) := by decide +kernel
theorem dX4_liesIn_4 : decode cX4_liesIn 4 = .ok (.aload_n 1, 1) := by decide +kernel
theorem dX4_liesIn_5 : decode cX4_liesIn 5 = .ok (.getfield 13, 3) := by decide +kernel
theorem dX4_liesIn_8 : decode cX4_liesIn 8 = .ok (.if_icmp .lt 26, 3) := by decide +kernel
theorem dX4_liesIn_11 : decode cX4_liesIn 11 = .ok (.aload_n 0, 1) := by decide +kernel
theorem dX4_liesIn_12 : decode cX4_liesIn 12 = .ok (.getfield 7, 3) := by decide +kernel
theorem dX4_liesIn_15 : decode cX4_liesIn 15 = .ok (.aload_n 1, 1) := by decide +kernel
theorem dX4_liesIn_16 : decode cX4_liesIn 16 = .ok (.getfield 13, 3) := by decide +kernel
theorem dX4_liesIn_19 : decode cX4_liesIn 19 = .ok (.invokestatic 16, 3) := by decide +kernel
theorem dX4_liesIn_22 : decode cX4_liesIn 22 = .ok (.iand, 1) := by decide +kernel
theorem dX4_liesIn_23 : decode cX4_liesIn 23 = .ok (.aload_n 1, 1) := by decide +kernel
theorem dX4_liesIn_24 : decode cX4_liesIn 24 = .ok (.getfield 7, 3) := by decide +kernel
theorem dX4_liesIn_27 : decode cX4_liesIn 27 = .ok (.if_icmp .ne 7, 3) := by decide +kernel
theorem dX4_liesIn_30 : decode cX4_liesIn 30 = .ok (.iconst 1, 1) := by decide +kernel
theorem dX4_liesIn_31 : decode cX4_liesIn 31 = .ok (.goto 4, 3) := by decide +kernel
theorem dX4_liesIn_34 : decode cX4_liesIn 34 = .ok (.iconst 0, 1) := by decide +kernel
theorem dX4_liesIn_35 : decode cX4_liesIn 35 = .ok (.ireturn, 1) := by decide +kernel
def f_X4_liesIn (σ : HS) (a0 : Option Nat) (a1 : Option Nat) : Option (Int32 × HS) :=
  h_b1 (h_gI σ a0 5 1) fun x1 =>
  h_b1 (h_gI σ a1 5 1) fun x3 =>
  if x1 < x3 then
    some (0, σ)
  else
    h_b1 (h_gI σ a0 5 0) fun x6 =>
    h_b1 (h_gI σ a1 5 1) fun x8 =>
    h_bd (f_X4_mask σ x8) fun r10 s11 =>
    h_b1 (h_gI s11 a1 5 0) fun x13 =>
    if (x6 &&& r10) = x13 then
      some (1, s11)
    else
      some (0, s11)
set_option maxHeartbeats 4000000 in
set_option maxRecDepth 100000 in
theorem m_X4_liesIn (l : Launch) (D : va_G) (dA : Nat → ClassId) (bs : Nat) {σ σ' : HS} {a0 : Option Nat} {a1 : Option Nat} {r : Int32} (h : f_X4_liesIn σ a0 a1 = some (r, σ')) : MetC l yX4_liesIn cX4_liesIn 2 (some .boolean) 1 20 D dA bs [va_rf a0, va_rf a1] (some (.int r)) σ σ' := by
  refine MetC.of (by decide) (h_avR (h_avR h_av0)) (Nat.le_of_ble_eq_true rfl) ?_
  intro p e R s m args below meth c C B hnm
  unfold f_X4_liesIn at h
  refine V_sub (lv' := [(0, va_rf a0), (1, va_rf a1)]) [0, 1] rfl ?_
  refine V_aload_n C 0 dX4_liesIn_0 rfl rfl ?_
  obtain ⟨x1, e2, h⟩ := h_b1_some h
  refine V_getI C fl_RX4_13 dX4_liesIn_1 e2 ?_
  refine V_aload_n C 1 dX4_liesIn_4 rfl rfl ?_
  obtain ⟨x3, e4, h⟩ := h_b1_some h
  refine V_getI C fl_RX4_13 dX4_liesIn_5 e4 ?_
  refine V_icmp_lt (tgt := 34) C dX4_liesIn_8 (by decide) (fun c5 => ?_) (fun c5 => ?_)
  · rw [if_pos c5] at h
    refine V_iconst (v := 0) C dX4_liesIn_34 (by decide) ?_
    cases h
    exact V_zret C B dX4_liesIn_35 (Or.inl rfl)
  · rw [if_neg c5] at h
    refine V_aload_n C 0 dX4_liesIn_11 rfl rfl ?_
    obtain ⟨x6, e7, h⟩ := h_b1_some h
    refine V_getI C fl_RX4_7 dX4_liesIn_12 e7 ?_
    refine V_aload_n C 1 dX4_liesIn_15 rfl rfl ?_
    obtain ⟨x8, e9, h⟩ := h_b1_some h
    refine V_getI C fl_RX4_13 dX4_liesIn_16 e9 ?_
    obtain ⟨r10, s11, e12, h⟩ := h_bd_some h
    refine V_cS (As := [.int x8]) (rest := [.int x6]) C ms_RX4_16 (m_X4_mask l D dA bs e12) rfl rfl (Nat.le_trans (h_wI h_w0) (by decide)) (h_fr B (by decide)) (h_lo B (by decide)) dX4_liesIn_19 ?_
    refine V_iand C dX4_liesIn_22 ?_
    refine V_aload_n C 1 dX4_liesIn_23 rfl rfl ?_
    obtain ⟨x13, e14, h⟩ := h_b1_some h
    refine V_getI C fl_RX4_7 dX4_liesIn_24 e14 ?_
    refine V_icmp_ne (tgt := 34) C dX4_liesIn_27 (by decide) (fun c15 => ?_) (fun c15 => ?_)
    · rw [if_neg c15] at h
      refine V_iconst (v := 0) C dX4_liesIn_34 (by decide) ?_
      cases h
      exact V_zret C B dX4_liesIn_35 (Or.inl rfl)
    · rw [if_pos c15] at h
      refine V_iconst (v := 1) C dX4_liesIn_30 (by decide) ?_
      refine V_goto (tgt := 35) C dX4_liesIn_31 (by decide) ?_
      cases h
      exact V_zret C B dX4_liesIn_35 (Or.inr rfl)
/-! X4_meets -/
theorem dX4_meets_0 : decode cX4_meets 0 = .ok (.aload_n 0, 1) := by decide +kernel
theorem dX4_meets_1 : decode cX4_meets 1 = .ok (.aload_n 1, 1) := by decide +kernel
theorem dX4_meets_2 : decode cX4_meets 2 = .ok (.invokevirtual 23, 3) := by decide +kernel
theorem dX4_meets_5 : decode cX4_meets 5 = .ok (.ifCond .ne 11, 3) := by decide +kernel
theorem dX4_meets_8 : decode cX4_meets 8 = .ok (.aload_n 1, 1) := by decide +kernel
theorem dX4_meets_9 : decode cX4_meets 9 = .ok (.aload_n 0, 1) := by decide +kernel
theorem dX4_meets_10 : decode cX4_meets 10 = .ok (.invokevirtual 23, 3) := by decide +kernel
theorem dX4_meets_13 : decode cX4_meets 13 = .ok (.ifCond .eq 7, 3) := by decide +kernel
theorem dX4_meets_16 : decode cX4_meets 16 = .ok (.iconst 1, 1) := by decide +kernel
theorem dX4_meets_17 : decode cX4_meets 17 = .ok (.goto 4, 3) := by decide +kernel
theorem dX4_meets_20 : decode cX4_meets 20 = .ok (.iconst 0, 1) := by decide +kernel
theorem dX4_meets_21 : decode cX4_meets 21 = .ok (.ireturn, 1) := by decide +kernel
def f_X4_meets (σ : HS) (a0 : Option Nat) (a1 : Option Nat) : Option (Int32 × HS) :=
  h_b1 (h_rcv σ a0 5) fun y4 =>
  h_bd (f_X4_liesIn σ a0 a1) fun r1 s2 =>
  if r1 = 0 then
    h_b1 (h_rcv s2 a1 5) fun y10 =>
    h_bd (f_X4_liesIn s2 a1 a0) fun r7 s8 =>
    if r7 = 0 then
      some (0, s8)
    else
      some (1, s8)
  else
    some (1, s2)
set_option maxHeartbeats 4000000 in
set_option maxRecDepth 100000 in
theorem m_X4_meets (l : Launch) (D : va_G) (dA : Nat → ClassId) (bs : Nat) {σ σ' : HS} {a0 : Option Nat} {a1 : Option Nat} {r : Int32} (h : f_X4_meets σ a0 a1 = some (r, σ')) : MetC l yX4_meets cX4_meets 2 (some .boolean) 2 41 D dA bs [va_rf a0, va_rf a1] (some (.int r)) σ σ' := by
  refine MetC.of (by decide) (h_avR (h_avR h_av0)) (Nat.le_of_ble_eq_true rfl) ?_
  intro p e R s m args below meth c C B hnm
  unfold f_X4_meets at h
  refine V_sub (lv' := [(0, va_rf a0), (1, va_rf a1)]) [0, 1] rfl ?_
  refine V_aload_n C 0 dX4_meets_0 rfl rfl ?_
  refine V_aload_n C 1 dX4_meets_1 rfl rfl ?_
  obtain ⟨y4, e5, h⟩ := h_b1_some h
  obtain ⟨r1, s2, e3, h⟩ := h_bd_some h
  refine V_cV (As := [va_rf a1]) (rest := []) C mv_RX4_23 (m_X4_liesIn l D dA bs e3) e5 rfl rfl (Nat.le_trans h_w0 (by decide)) (h_fr B (by decide)) (h_lo B (by decide)) dX4_meets_2 ?_
  refine V_if_ne (tgt := 16) C dX4_meets_5 (by decide) (fun c6 => ?_) (fun c6 => ?_)
  · rw [if_neg c6] at h
    refine V_iconst (v := 1) C dX4_meets_16 (by decide) ?_
    refine V_goto (tgt := 21) C dX4_meets_17 (by decide) ?_
    cases h
    exact V_zret C B dX4_meets_21 (Or.inr rfl)
  · rw [if_pos c6] at h
    refine V_aload_n C 1 dX4_meets_8 rfl rfl ?_
    refine V_aload_n C 0 dX4_meets_9 rfl rfl ?_
    obtain ⟨y10, e11, h⟩ := h_b1_some h
    obtain ⟨r7, s8, e9, h⟩ := h_bd_some h
    refine V_cV (As := [va_rf a0]) (rest := []) C mv_RX4_23 (m_X4_liesIn l D dA bs e9) e11 rfl rfl (Nat.le_trans h_w0 (by decide)) (h_fr B (by decide)) (h_lo B (by decide)) dX4_meets_10 ?_
    refine V_if_eq (tgt := 20) C dX4_meets_13 (by decide) (fun c12 => ?_) (fun c12 => ?_)
    · rw [if_pos c12] at h
      refine V_iconst (v := 0) C dX4_meets_20 (by decide) ?_
      cases h
      exact V_zret C B dX4_meets_21 (Or.inl rfl)
    · rw [if_neg c12] at h
      refine V_iconst (v := 1) C dX4_meets_16 (by decide) ?_
      refine V_goto (tgt := 21) C dX4_meets_17 (by decide) ?_
      cases h
      exact V_zret C B dX4_meets_21 (Or.inr rfl)
/-! X2_make -/
theorem dX2_make_0 : decode cX2_make 0 = .ok (.aload_n 0, 1) := by decide +kernel
theorem dX2_make_1 : decode cX2_make 1 = .ok (.getfield 15, 3) := by decide +kernel
theorem dX2_make_4 : decode cX2_make 4 = .ok (.iconst 1, 1) := by decide +kernel
theorem dX2_make_5 : decode cX2_make 5 = .ok (.isub, 1) := by decide +kernel
theorem dX2_make_6 : decode cX2_make 6 = .ok (.istore_n 3, 1) := by decide +kernel
theorem dX2_make_7 : decode cX2_make 7 = .ok (.iload_n 3, 1) := by decide +kernel
theorem dX2_make_8 : decode cX2_make 8 = .ok (.ifCond .lt 46, 3) := by decide +kernel
theorem dX2_make_11 : decode cX2_make 11 = .ok (.aload_n 0, 1) := by decide +kernel
theorem dX2_make_12 : decode cX2_make 12 = .ok (.getfield 11, 3) := by decide +kernel
theorem dX2_make_15 : decode cX2_make 15 = .ok (.iload_n 3, 1) := by decide +kernel
theorem dX2_make_16 : decode cX2_make 16 = .ok (.aaload, 1) := by decide +kernel
theorem dX2_make_17 : decode cX2_make 17 = .ok (.iload_n 2, 1) := by decide +kernel
theorem dX2_make_18 : decode cX2_make 18 = .ok (.invokevirtual 19, 3) := by decide +kernel
theorem dX2_make_21 : decode cX2_make 21 = .ok (.ifCond .eq 22, 3) := by decide +kernel
theorem dX2_make_24 : decode cX2_make 24 = .ok (.aload_n 0, 1) := by decide +kernel
theorem dX2_make_25 : decode cX2_make 25 = .ok (.getfield 11, 3) := by decide +kernel
theorem dX2_make_28 : decode cX2_make 28 = .ok (.iload_n 3, 1) := by decide +kernel
theorem dX2_make_29 : decode cX2_make 29 = .ok (.aaload, 1) := by decide +kernel
theorem dX2_make_30 : decode cX2_make 30 = .ok (.getfield 23, 3) := by decide +kernel
theorem dX2_make_33 : decode cX2_make 33 = .ok (.aload_n 1, 1) := by decide +kernel
theorem dX2_make_34 : decode cX2_make 34 = .ok (.getfield 23, 3) := by decide +kernel
theorem dX2_make_37 : decode cX2_make 37 = .ok (.invokevirtual 32, 3) := by decide +kernel
theorem dX2_make_40 : decode cX2_make 40 = .ok (.ifCond .eq 8, 3) := by decide +kernel
theorem dX2_make_43 : decode cX2_make 43 = .ok (.aload_n 0, 1) := by decide +kernel
theorem dX2_make_44 : decode cX2_make 44 = .ok (.iload_n 3, 1) := by decide +kernel
theorem dX2_make_45 : decode cX2_make 45 = .ok (.invokevirtual 36, 3) := by decide +kernel
theorem dX2_make_48 : decode cX2_make 48 = .ok (.iinc 3 (-1), 3) := by decide +kernel
theorem dX2_make_51 : decode cX2_make 51 = .ok (.goto (-44), 3) := by decide +kernel
theorem dX2_make_54 : decode cX2_make 54 = .ok (.aload_n 0, 1) := by decide +kernel
theorem dX2_make_55 : decode cX2_make 55 = .ok (.getfield 15, 3) := by decide +kernel
theorem dX2_make_58 : decode cX2_make 58 = .ok (.bipush 6, 2) := by decide +kernel
theorem dX2_make_60 : decode cX2_make 60 = .ok (.if_icmp .lt 8, 3) := by decide +kernel
theorem dX2_make_63 : decode cX2_make 63 = .ok (.aload_n 0, 1) := by decide +kernel
theorem dX2_make_64 : decode cX2_make 64 = .ok (.iconst 0, 1) := by decide +kernel
theorem dX2_make_65 : decode cX2_make 65 = .ok (.invokevirtual 36, 3) := by decide +kernel
theorem dX2_make_68 : decode cX2_make 68 = .ok (.aload_n 0, 1) := by decide +kernel
theorem dX2_make_69 : decode cX2_make 69 = .ok (.getfield 11, 3) := by decide +kernel
theorem dX2_make_72 : decode cX2_make 72 = .ok (.aload_n 0, 1) := by decide +kernel
theorem dX2_make_73 : decode cX2_make 73 = .ok (.getfield 15, 3) := by decide +kernel
theorem dX2_make_76 : decode cX2_make 76 = .ok (.aload_n 1, 1) := by decide +kernel
theorem dX2_make_77 : decode cX2_make 77 = .ok (.aastore, 1) := by decide +kernel
theorem dX2_make_78 : decode cX2_make 78 = .ok (.aload_n 0, 1) := by decide +kernel
theorem dX2_make_79 : decode cX2_make 79 = .ok (.dup, 1) := by decide +kernel
theorem dX2_make_80 : decode cX2_make 80 = .ok (.getfield 15, 3) := by decide +kernel
theorem dX2_make_83 : decode cX2_make 83 = .ok (.iconst 1, 1) := by decide +kernel
theorem dX2_make_84 : decode cX2_make 84 = .ok (.iadd, 1) := by decide +kernel
theorem dX2_make_85 : decode cX2_make 85 = .ok (.putfield 15, 3) := by decide +kernel
theorem dX2_make_88 : decode cX2_make 88 = .ok (.return_, 1) := by decide +kernel
def j_X2_make_68 (σ : HS) (l0 : Option Nat) (l1 : Option Nat) : Option (Unit × HS) :=
  h_b1 (h_gR σ l0 3 0) fun x7 =>
  h_b1 (h_gI σ l0 3 1) fun x9 =>
  h_b1 (h_sR σ x7 104 2 x9 l1) fun s11 =>
  h_b1 (h_gI s11 l0 3 1) fun x13 =>
  h_b1 (h_pI s11 l0 3 1 (x13 + 1)) fun s15 =>
  some ((), s15)
def g_X2_make_7 : Nat → HS → Option Nat → Option Nat → Int32 → Int32 → Option (Unit × HS)
  | 0, _, _, _, _, _ => none
  | n + 1, σ, l0, l1, l2, l3 =>
    if l3 < 0 then
      h_b1 (h_gI σ l0 3 1) fun x4 =>
      if x4 < 6 then
        j_X2_make_68 σ l0 l1 
      else
        h_b1 (h_rcv σ l0 3) fun y20 =>
        h_bd (f_X2_remove σ l0 0) fun _ s18 =>
        j_X2_make_68 s18 l0 l1 
    else
      h_b1 (h_gR σ l0 3 0) fun x22 =>
      h_b1 (h_aR σ x22 104 l3) fun x24 =>
      h_b1 (h_rcv σ x24 2) fun y29 =>
      h_bd (f_X1_isThere σ x24 l2) fun r26 s27 =>
      if r26 = 0 then
        h_b1 (h_rcv s27 l0 3) fun y35 =>
        h_bd (f_X2_remove s27 l0 l3) fun _ s33 =>
        g_X2_make_7 n s33 l0 l1 l2 (l3 + (-1))
      else
        h_b1 (h_gR s27 l0 3 0) fun x37 =>
        h_b1 (h_aR s27 x37 104 l3) fun x39 =>
        h_b1 (h_gR s27 x39 2 0) fun x41 =>
        h_b1 (h_gR s27 l1 2 0) fun x43 =>
        h_b1 (h_rcv s27 x41 5) fun y48 =>
        h_bd (f_X4_meets s27 x41 x43) fun r45 s46 =>
        if r45 = 0 then
          g_X2_make_7 n s46 l0 l1 l2 (l3 + (-1))
        else
          h_b1 (h_rcv s46 l0 3) fun y54 =>
          h_bd (f_X2_remove s46 l0 l3) fun _ s52 =>
          g_X2_make_7 n s52 l0 l1 l2 (l3 + (-1))
def f_X2_make (σ : HS) (a0 : Option Nat) (a1 : Option Nat) (a2 : Int32) : Option (Unit × HS) :=
  h_b1 (h_gI σ a0 3 1) fun x1 =>
  g_X2_make_7 h_hN σ a0 a1 a2 (x1 - 1)
set_option maxHeartbeats 4000000 in
set_option maxRecDepth 100000 in
theorem jw_X2_make_68 {p : Program} {l : Launch} {e : Env} {R : Room} {s : State} {m : MethodId} {args : Array Value} {below : List Frame} {meth : Method} {c : Code} {D : va_G} {dA : Nat → ClassId} {bs : Nat} (C : h_C p m c cX2_make 4 s args RX2 D dA) {σ0 : HS} (B : h_B R s meth σ0 none 3 62) {σ' : HS} : ∀ (σ : HS) (l0 : Option Nat) (l1 : Option Nat), j_X2_make_68 σ l0 l1 = some ((), σ') → V p l e R s m args below meth c D dA bs 4 (MQ below (h_Q D dA bs none σ0 σ') args s R.cells R.slots (fun q => bs ≤ q)) σ 68 [(0, va_rf l0), (1, va_rf l1)] [] := by
  intro σ l0 l1 h
  unfold j_X2_make_68 at h
  refine V_aload_n C 0 dX2_make_68 rfl rfl ?_
  obtain ⟨x7, e8, h⟩ := h_b1_some h
  refine V_getR C fl_RX2_11 dX2_make_69 e8 ?_
  refine V_aload_n C 0 dX2_make_72 rfl rfl ?_
  obtain ⟨x9, e10, h⟩ := h_b1_some h
  refine V_getI C fl_RX2_15 dX2_make_73 e10 ?_
  refine V_aload_n C 1 dX2_make_76 rfl rfl ?_
  obtain ⟨s11, e12, h⟩ := h_b1_some h
  refine V_aast C h_at104 dX2_make_77 e12 ?_
  refine V_aload_n C 0 dX2_make_78 rfl rfl ?_
  refine V_dupR C dX2_make_79 ?_
  obtain ⟨x13, e14, h⟩ := h_b1_some h
  refine V_getI C fl_RX2_15 dX2_make_80 e14 ?_
  refine V_iconst (v := 1) C dX2_make_83 (by decide) ?_
  refine V_iadd C dX2_make_84 ?_
  obtain ⟨s15, e16, h⟩ := h_b1_some h
  refine V_putI C fw_RX2_15 dX2_make_85 e16 ?_
  cases h
  exact V_vret C B dX2_make_88
set_option maxHeartbeats 4000000 in
set_option maxRecDepth 100000 in
theorem w_X2_make_7 {p : Program} {l : Launch} {e : Env} {R : Room} {s : State} {m : MethodId} {args : Array Value} {below : List Frame} {meth : Method} {c : Code} {D : va_G} {dA : Nat → ClassId} {bs : Nat} (C : h_C p m c cX2_make 4 s args RX2 D dA) {σ0 : HS} (B : h_B R s meth σ0 none 3 62) {σ' : HS} : ∀ (n : Nat) (σ : HS) (l0 : Option Nat) (l1 : Option Nat) (l2 : Int32) (l3 : Int32), g_X2_make_7 n σ l0 l1 l2 l3 = some ((), σ') → V p l e R s m args below meth c D dA bs 4 (MQ below (h_Q D dA bs none σ0 σ') args s R.cells R.slots (fun q => bs ≤ q)) σ 7 [(0, va_rf l0), (1, va_rf l1), (2, .int l2), (3, .int l3)] [] := by
  intro n
  induction n with
  | zero =>
    intro σ l0 l1 l2 l3 h
    rw [g_X2_make_7] at h
    cases h
  | succ n ih =>
    intro σ l0 l1 l2 l3 h
    rw [g_X2_make_7] at h
    refine V_iload_n C 3 dX2_make_7 rfl rfl ?_
    refine V_if_lt (tgt := 54) C dX2_make_8 (by decide) (fun c3 => ?_) (fun c3 => ?_)
    · rw [if_pos c3] at h
      refine V_aload_n C 0 dX2_make_54 rfl rfl ?_
      obtain ⟨x4, e5, h⟩ := h_b1_some h
      refine V_getI C fl_RX2_15 dX2_make_55 e5 ?_
      refine V_bipush (v := 6) C dX2_make_58 (by decide) ?_
      refine V_icmp_lt (tgt := 68) C dX2_make_60 (by decide) (fun c6 => ?_) (fun c6 => ?_)
      · rw [if_pos c6] at h
        exact V_sub [0, 1] rfl (jw_X2_make_68 C B σ l0 l1  h)
      · rw [if_neg c6] at h
        refine V_aload_n C 0 dX2_make_63 rfl rfl ?_
        refine V_iconst (v := 0) C dX2_make_64 (by decide) ?_
        obtain ⟨y20, e21, h⟩ := h_b1_some h
        obtain ⟨r17, s18, e19, h⟩ := h_bd_some h
        refine V_cV (As := [.int 0]) (rest := []) C mv_RX2_36 (m_X2_remove l D dA bs e19) e21 rfl rfl (Nat.le_trans h_w0 (by decide)) (h_fr B (by decide)) (h_lo B (by decide)) dX2_make_65 ?_
        exact V_sub [0, 1] rfl (jw_X2_make_68 C B s18 l0 l1  h)
    · rw [if_neg c3] at h
      refine V_aload_n C 0 dX2_make_11 rfl rfl ?_
      obtain ⟨x22, e23, h⟩ := h_b1_some h
      refine V_getR C fl_RX2_11 dX2_make_12 e23 ?_
      refine V_iload_n C 3 dX2_make_15 rfl rfl ?_
      obtain ⟨x24, e25, h⟩ := h_b1_some h
      refine V_aald C h_at104 dX2_make_16 e25 ?_
      refine V_iload_n C 2 dX2_make_17 rfl rfl ?_
      obtain ⟨y29, e30, h⟩ := h_b1_some h
      obtain ⟨r26, s27, e28, h⟩ := h_bd_some h
      refine V_cV (As := [.int l2]) (rest := []) C mv_RX2_19 (m_X1_isThere l D dA bs e28) e30 rfl rfl (Nat.le_trans h_w0 (by decide)) (h_fr B (by decide)) (h_lo B (by decide)) dX2_make_18 ?_
      refine V_if_eq (tgt := 43) C dX2_make_21 (by decide) (fun c31 => ?_) (fun c31 => ?_)
      · rw [if_pos c31] at h
        refine V_aload_n C 0 dX2_make_43 rfl rfl ?_
        refine V_iload_n C 3 dX2_make_44 rfl rfl ?_
        obtain ⟨y35, e36, h⟩ := h_b1_some h
        obtain ⟨r32, s33, e34, h⟩ := h_bd_some h
        refine V_cV (As := [.int l3]) (rest := []) C mv_RX2_36 (m_X2_remove l D dA bs e34) e36 rfl rfl (Nat.le_trans h_w0 (by decide)) (h_fr B (by decide)) (h_lo B (by decide)) dX2_make_45 ?_
        refine V_iinc (v := (l3 + (-1))) (lv' := [(3, .int (l3 + (-1))), (0, va_rf l0), (1, va_rf l1), (2, .int l2)]) C 3 dX2_make_48 rfl rfl (by decide) rfl ?_
        refine V_goto (tgt := 7) C dX2_make_51 (by decide) ?_
        exact V_sub [1, 2, 3, 0] rfl (ih s33 l0 l1 l2 (l3 + (-1)) h)
      · rw [if_neg c31] at h
        refine V_aload_n C 0 dX2_make_24 rfl rfl ?_
        obtain ⟨x37, e38, h⟩ := h_b1_some h
        refine V_getR C fl_RX2_11 dX2_make_25 e38 ?_
        refine V_iload_n C 3 dX2_make_28 rfl rfl ?_
        obtain ⟨x39, e40, h⟩ := h_b1_some h
        refine V_aald C h_at104 dX2_make_29 e40 ?_
        obtain ⟨x41, e42, h⟩ := h_b1_some h
        refine V_getR C fl_RX2_23 dX2_make_30 e42 ?_
        refine V_aload_n C 1 dX2_make_33 rfl rfl ?_
        obtain ⟨x43, e44, h⟩ := h_b1_some h
        refine V_getR C fl_RX2_23 dX2_make_34 e44 ?_
        obtain ⟨y48, e49, h⟩ := h_b1_some h
        obtain ⟨r45, s46, e47, h⟩ := h_bd_some h
        refine V_cV (As := [va_rf x43]) (rest := []) C mv_RX2_32 (m_X4_meets l D dA bs e47) e49 rfl rfl (Nat.le_trans h_w0 (by decide)) (h_fr B (by decide)) (h_lo B (by decide)) dX2_make_37 ?_
        refine V_if_eq (tgt := 48) C dX2_make_40 (by decide) (fun c50 => ?_) (fun c50 => ?_)
        · rw [if_pos c50] at h
          refine V_iinc (v := (l3 + (-1))) (lv' := [(3, .int (l3 + (-1))), (0, va_rf l0), (1, va_rf l1), (2, .int l2)]) C 3 dX2_make_48 rfl rfl (by decide) rfl ?_
          refine V_goto (tgt := 7) C dX2_make_51 (by decide) ?_
          exact V_sub [1, 2, 3, 0] rfl (ih s46 l0 l1 l2 (l3 + (-1)) h)
        · rw [if_neg c50] at h
          refine V_aload_n C 0 dX2_make_43 rfl rfl ?_
          refine V_iload_n C 3 dX2_make_44 rfl rfl ?_
          obtain ⟨y54, e55, h⟩ := h_b1_some h
          obtain ⟨r51, s52, e53, h⟩ := h_bd_some h
          refine V_cV (As := [.int l3]) (rest := []) C mv_RX2_36 (m_X2_remove l D dA bs e53) e55 rfl rfl (Nat.le_trans h_w0 (by decide)) (h_fr B (by decide)) (h_lo B (by decide)) dX2_make_45 ?_
          refine V_iinc (v := (l3 + (-1))) (lv' := [(3, .int (l3 + (-1))), (0, va_rf l0), (1, va_rf l1), (2, .int l2)]) C 3 dX2_make_48 rfl rfl (by decide) rfl ?_
          refine V_goto (tgt := 7) C dX2_make_51 (by decide) ?_
          exact V_sub [1, 2, 3, 0] rfl (ih s52 l0 l1 l2 (l3 + (-1)) h)
set_option maxHeartbeats 4000000 in
set_option maxRecDepth 100000 in
theorem m_X2_make (l : Launch) (D : va_G) (dA : Nat → ClassId) (bs : Nat) {σ σ' : HS} {a0 : Option Nat} {a1 : Option Nat} {a2 : Int32} (h : f_X2_make σ a0 a1 a2 = some ((), σ')) : MetC l yX2_make cX2_make 4 none 3 62 D dA bs [va_rf a0, va_rf a1, .int a2] none σ σ' := by
  refine MetC.of (by decide) (h_avR (h_avR (h_avI h_av0))) (Nat.le_of_ble_eq_true rfl) ?_
  intro p e R s m args below meth c C B hnm
  unfold f_X2_make at h
  refine V_sub (lv' := [(0, va_rf a0), (1, va_rf a1), (2, .int a2)]) [0, 1, 2] rfl ?_
  refine V_aload_n C 0 dX2_make_0 rfl rfl ?_
  obtain ⟨x1, e2, h⟩ := h_b1_some h
  refine V_getI C fl_RX2_15 dX2_make_1 e2 ?_
  refine V_iconst (v := 1) C dX2_make_4 (by decide) ?_
  refine V_isub C dX2_make_5 ?_
  refine V_istore_n (lv' := [(3, .int (x1 - 1)), (0, va_rf a0), (1, va_rf a1), (2, .int a2)]) C dX2_make_6 rfl (by decide) rfl ?_
  exact V_sub [1, 2, 3, 0] rfl (w_X2_make_7 C B h_hN σ a0 a1 a2 (x1 - 1) h)
/-! X2_lose -/
theorem dX2_lose_0 : decode cX2_lose 0 = .ok (.aload_n 0, 1) := by decide +kernel
theorem dX2_lose_1 : decode cX2_lose 1 = .ok (.getfield 15, 3) := by decide +kernel
theorem dX2_lose_4 : decode cX2_lose 4 = .ok (.iconst 1, 1) := by decide +kernel
theorem dX2_lose_5 : decode cX2_lose 5 = .ok (.isub, 1) := by decide +kernel
theorem dX2_lose_6 : decode cX2_lose 6 = .ok (.istore 4, 2) := by decide +kernel
theorem dX2_lose_8 : decode cX2_lose 8 = .ok (.iload 4, 2) := by decide +kernel
theorem dX2_lose_10 : decode cX2_lose 10 = .ok (.ifCond .lt 60, 3) := by decide +kernel
theorem dX2_lose_13 : decode cX2_lose 13 = .ok (.aload_n 0, 1) := by decide +kernel
theorem dX2_lose_14 : decode cX2_lose 14 = .ok (.getfield 11, 3) := by decide +kernel
theorem dX2_lose_17 : decode cX2_lose 17 = .ok (.iload 4, 2) := by decide +kernel
theorem dX2_lose_19 : decode cX2_lose 19 = .ok (.aaload, 1) := by decide +kernel
theorem dX2_lose_20 : decode cX2_lose 20 = .ok (.iload_n 3, 1) := by decide +kernel
theorem dX2_lose_21 : decode cX2_lose 21 = .ok (.invokevirtual 19, 3) := by decide +kernel
theorem dX2_lose_24 : decode cX2_lose 24 = .ok (.ifCond .eq 34, 3) := by decide +kernel
theorem dX2_lose_27 : decode cX2_lose 27 = .ok (.aload_n 0, 1) := by decide +kernel
theorem dX2_lose_28 : decode cX2_lose 28 = .ok (.getfield 11, 3) := by decide +kernel
theorem dX2_lose_31 : decode cX2_lose 31 = .ok (.iload 4, 2) := by decide +kernel
theorem dX2_lose_33 : decode cX2_lose 33 = .ok (.aaload, 1) := by decide +kernel
theorem dX2_lose_34 : decode cX2_lose 34 = .ok (.getfield 23, 3) := by decide +kernel
theorem dX2_lose_37 : decode cX2_lose 37 = .ok (.iload_n 1, 1) := by decide +kernel
theorem dX2_lose_38 : decode cX2_lose 38 = .ok (.invokevirtual 27, 3) := by decide +kernel
theorem dX2_lose_41 : decode cX2_lose 41 = .ok (.ifCond .eq 23, 3) := by decide +kernel
theorem dX2_lose_44 : decode cX2_lose 44 = .ok (.aload_n 0, 1) := by decide +kernel
theorem dX2_lose_45 : decode cX2_lose 45 = .ok (.getfield 11, 3) := by decide +kernel
theorem dX2_lose_48 : decode cX2_lose 48 = .ok (.iload 4, 2) := by decide +kernel
theorem dX2_lose_50 : decode cX2_lose 50 = .ok (.aaload, 1) := by decide +kernel
theorem dX2_lose_51 : decode cX2_lose 51 = .ok (.getfield 40, 3) := by decide +kernel
theorem dX2_lose_54 : decode cX2_lose 54 = .ok (.iload_n 2, 1) := by decide +kernel
theorem dX2_lose_55 : decode cX2_lose 55 = .ok (.if_icmp .ne 9, 3) := by decide +kernel
theorem dX2_lose_58 : decode cX2_lose 58 = .ok (.aload_n 0, 1) := by decide +kernel
theorem dX2_lose_59 : decode cX2_lose 59 = .ok (.iload 4, 2) := by decide +kernel
theorem dX2_lose_61 : decode cX2_lose 61 = .ok (.invokevirtual 36, 3) := by decide +kernel
theorem dX2_lose_64 : decode cX2_lose 64 = .ok (.iinc 4 (-1), 3) := by decide +kernel
theorem dX2_lose_67 : decode cX2_lose 67 = .ok (.goto (-59), 3) := by decide +kernel
theorem dX2_lose_70 : decode cX2_lose 70 = .ok (.return_, 1) := by decide +kernel
def g_X2_lose_8 : Nat → HS → Option Nat → Int32 → Int32 → Int32 → Int32 → Option (Unit × HS)
  | 0, _, _, _, _, _, _ => none
  | n + 1, σ, l0, l1, l2, l3, l4 =>
    if l4 < 0 then
      some ((), σ)
    else
      h_b1 (h_gR σ l0 3 0) fun x4 =>
      h_b1 (h_aR σ x4 104 l4) fun x6 =>
      h_b1 (h_rcv σ x6 2) fun y11 =>
      h_bd (f_X1_isThere σ x6 l3) fun r8 s9 =>
      if r8 = 0 then
        h_b1 (h_rcv s9 l0 3) fun y17 =>
        h_bd (f_X2_remove s9 l0 l4) fun _ s15 =>
        g_X2_lose_8 n s15 l0 l1 l2 l3 (l4 + (-1))
      else
        h_b1 (h_gR s9 l0 3 0) fun x19 =>
        h_b1 (h_aR s9 x19 104 l4) fun x21 =>
        h_b1 (h_gR s9 x21 2 0) fun x23 =>
        h_b1 (h_rcv s9 x23 5) fun y28 =>
        h_bd (f_X4_has s9 x23 l1) fun r25 s26 =>
        if r25 = 0 then
          g_X2_lose_8 n s26 l0 l1 l2 l3 (l4 + (-1))
        else
          h_b1 (h_gR s26 l0 3 0) fun x31 =>
          h_b1 (h_aR s26 x31 104 l4) fun x33 =>
          h_b1 (h_gI s26 x33 2 1) fun x35 =>
          if x35 = l2 then
            h_b1 (h_rcv s26 l0 3) fun y41 =>
            h_bd (f_X2_remove s26 l0 l4) fun _ s39 =>
            g_X2_lose_8 n s39 l0 l1 l2 l3 (l4 + (-1))
          else
            g_X2_lose_8 n s26 l0 l1 l2 l3 (l4 + (-1))
def f_X2_lose (σ : HS) (a0 : Option Nat) (a1 : Int32) (a2 : Int32) (a3 : Int32) : Option (Unit × HS) :=
  h_b1 (h_gI σ a0 3 1) fun x1 =>
  g_X2_lose_8 h_hN σ a0 a1 a2 a3 (x1 - 1)
set_option maxHeartbeats 4000000 in
set_option maxRecDepth 100000 in
theorem w_X2_lose_8 {p : Program} {l : Launch} {e : Env} {R : Room} {s : State} {m : MethodId} {args : Array Value} {below : List Frame} {meth : Method} {c : Code} {D : va_G} {dA : Nat → ClassId} {bs : Nat} (C : h_C p m c cX2_lose 5 s args RX2 D dA) {σ0 : HS} (B : h_B R s meth σ0 none 2 41) {σ' : HS} : ∀ (n : Nat) (σ : HS) (l0 : Option Nat) (l1 : Int32) (l2 : Int32) (l3 : Int32) (l4 : Int32), g_X2_lose_8 n σ l0 l1 l2 l3 l4 = some ((), σ') → V p l e R s m args below meth c D dA bs 5 (MQ below (h_Q D dA bs none σ0 σ') args s R.cells R.slots (fun q => bs ≤ q)) σ 8 [(0, va_rf l0), (1, .int l1), (2, .int l2), (3, .int l3), (4, .int l4)] [] := by
  intro n
  induction n with
  | zero =>
    intro σ l0 l1 l2 l3 l4 h
    rw [g_X2_lose_8] at h
    cases h
  | succ n ih =>
    intro σ l0 l1 l2 l3 l4 h
    rw [g_X2_lose_8] at h
    refine V_iload C 4 dX2_lose_8 rfl ?_
    refine V_if_lt (tgt := 70) C dX2_lose_10 (by decide) (fun c3 => ?_) (fun c3 => ?_)
    · rw [if_pos c3] at h
      cases h
      exact V_vret C B dX2_lose_70
    · rw [if_neg c3] at h
      refine V_aload_n C 0 dX2_lose_13 rfl rfl ?_
      obtain ⟨x4, e5, h⟩ := h_b1_some h
      refine V_getR C fl_RX2_11 dX2_lose_14 e5 ?_
      refine V_iload C 4 dX2_lose_17 rfl ?_
      obtain ⟨x6, e7, h⟩ := h_b1_some h
      refine V_aald C h_at104 dX2_lose_19 e7 ?_
      refine V_iload_n C 3 dX2_lose_20 rfl rfl ?_
      obtain ⟨y11, e12, h⟩ := h_b1_some h
      obtain ⟨r8, s9, e10, h⟩ := h_bd_some h
      refine V_cV (As := [.int l3]) (rest := []) C mv_RX2_19 (m_X1_isThere l D dA bs e10) e12 rfl rfl (Nat.le_trans h_w0 (by decide)) (h_fr B (by decide)) (h_lo B (by decide)) dX2_lose_21 ?_
      refine V_if_eq (tgt := 58) C dX2_lose_24 (by decide) (fun c13 => ?_) (fun c13 => ?_)
      · rw [if_pos c13] at h
        refine V_aload_n C 0 dX2_lose_58 rfl rfl ?_
        refine V_iload C 4 dX2_lose_59 rfl ?_
        obtain ⟨y17, e18, h⟩ := h_b1_some h
        obtain ⟨r14, s15, e16, h⟩ := h_bd_some h
        refine V_cV (As := [.int l4]) (rest := []) C mv_RX2_36 (m_X2_remove l D dA bs e16) e18 rfl rfl (Nat.le_trans h_w0 (by decide)) (h_fr B (by decide)) (h_lo B (by decide)) dX2_lose_61 ?_
        refine V_iinc (v := (l4 + (-1))) (lv' := [(4, .int (l4 + (-1))), (0, va_rf l0), (1, .int l1), (2, .int l2), (3, .int l3)]) C 4 dX2_lose_64 rfl rfl (by decide) rfl ?_
        refine V_goto (tgt := 8) C dX2_lose_67 (by decide) ?_
        exact V_sub [1, 2, 3, 4, 0] rfl (ih s15 l0 l1 l2 l3 (l4 + (-1)) h)
      · rw [if_neg c13] at h
        refine V_aload_n C 0 dX2_lose_27 rfl rfl ?_
        obtain ⟨x19, e20, h⟩ := h_b1_some h
        refine V_getR C fl_RX2_11 dX2_lose_28 e20 ?_
        refine V_iload C 4 dX2_lose_31 rfl ?_
        obtain ⟨x21, e22, h⟩ := h_b1_some h
        refine V_aald C h_at104 dX2_lose_33 e22 ?_
        obtain ⟨x23, e24, h⟩ := h_b1_some h
        refine V_getR C fl_RX2_23 dX2_lose_34 e24 ?_
        refine V_iload_n C 1 dX2_lose_37 rfl rfl ?_
        obtain ⟨y28, e29, h⟩ := h_b1_some h
        obtain ⟨r25, s26, e27, h⟩ := h_bd_some h
        refine V_cV (As := [.int l1]) (rest := []) C mv_RX2_27 (m_X4_has l D dA bs e27) e29 rfl rfl (Nat.le_trans h_w0 (by decide)) (h_fr B (by decide)) (h_lo B (by decide)) dX2_lose_38 ?_
        refine V_if_eq (tgt := 64) C dX2_lose_41 (by decide) (fun c30 => ?_) (fun c30 => ?_)
        · rw [if_pos c30] at h
          refine V_iinc (v := (l4 + (-1))) (lv' := [(4, .int (l4 + (-1))), (0, va_rf l0), (1, .int l1), (2, .int l2), (3, .int l3)]) C 4 dX2_lose_64 rfl rfl (by decide) rfl ?_
          refine V_goto (tgt := 8) C dX2_lose_67 (by decide) ?_
          exact V_sub [1, 2, 3, 4, 0] rfl (ih s26 l0 l1 l2 l3 (l4 + (-1)) h)
        · rw [if_neg c30] at h
          refine V_aload_n C 0 dX2_lose_44 rfl rfl ?_
          obtain ⟨x31, e32, h⟩ := h_b1_some h
          refine V_getR C fl_RX2_11 dX2_lose_45 e32 ?_
          refine V_iload C 4 dX2_lose_48 rfl ?_
          obtain ⟨x33, e34, h⟩ := h_b1_some h
          refine V_aald C h_at104 dX2_lose_50 e34 ?_
          obtain ⟨x35, e36, h⟩ := h_b1_some h
          refine V_getI C fl_RX2_40 dX2_lose_51 e36 ?_
          refine V_iload_n C 2 dX2_lose_54 rfl rfl ?_
          refine V_icmp_ne (tgt := 64) C dX2_lose_55 (by decide) (fun c37 => ?_) (fun c37 => ?_)
          · rw [if_neg c37] at h
            refine V_iinc (v := (l4 + (-1))) (lv' := [(4, .int (l4 + (-1))), (0, va_rf l0), (1, .int l1), (2, .int l2), (3, .int l3)]) C 4 dX2_lose_64 rfl rfl (by decide) rfl ?_
            refine V_goto (tgt := 8) C dX2_lose_67 (by decide) ?_
            exact V_sub [1, 2, 3, 4, 0] rfl (ih s26 l0 l1 l2 l3 (l4 + (-1)) h)
          · rw [if_pos c37] at h
            refine V_aload_n C 0 dX2_lose_58 rfl rfl ?_
            refine V_iload C 4 dX2_lose_59 rfl ?_
            obtain ⟨y41, e42, h⟩ := h_b1_some h
            obtain ⟨r38, s39, e40, h⟩ := h_bd_some h
            refine V_cV (As := [.int l4]) (rest := []) C mv_RX2_36 (m_X2_remove l D dA bs e40) e42 rfl rfl (Nat.le_trans h_w0 (by decide)) (h_fr B (by decide)) (h_lo B (by decide)) dX2_lose_61 ?_
            refine V_iinc (v := (l4 + (-1))) (lv' := [(4, .int (l4 + (-1))), (0, va_rf l0), (1, .int l1), (2, .int l2), (3, .int l3)]) C 4 dX2_lose_64 rfl rfl (by decide) rfl ?_
            refine V_goto (tgt := 8) C dX2_lose_67 (by decide) ?_
            exact V_sub [1, 2, 3, 4, 0] rfl (ih s39 l0 l1 l2 l3 (l4 + (-1)) h)
set_option maxHeartbeats 4000000 in
set_option maxRecDepth 100000 in
theorem m_X2_lose (l : Launch) (D : va_G) (dA : Nat → ClassId) (bs : Nat) {σ σ' : HS} {a0 : Option Nat} {a1 : Int32} {a2 : Int32} {a3 : Int32} (h : f_X2_lose σ a0 a1 a2 a3 = some ((), σ')) : MetC l yX2_lose cX2_lose 5 none 2 41 D dA bs [va_rf a0, .int a1, .int a2, .int a3] none σ σ' := by
  refine MetC.of (by decide) (h_avR (h_avI (h_avI (h_avI h_av0)))) (Nat.le_of_ble_eq_true rfl) ?_
  intro p e R s m args below meth c C B hnm
  unfold f_X2_lose at h
  refine V_sub (lv' := [(0, va_rf a0), (1, .int a1), (2, .int a2), (3, .int a3)]) [0, 1, 2, 3] rfl ?_
  refine V_aload_n C 0 dX2_lose_0 rfl rfl ?_
  obtain ⟨x1, e2, h⟩ := h_b1_some h
  refine V_getI C fl_RX2_15 dX2_lose_1 e2 ?_
  refine V_iconst (v := 1) C dX2_lose_4 (by decide) ?_
  refine V_isub C dX2_lose_5 ?_
  refine V_istore (lv' := [(4, .int (x1 - 1)), (0, va_rf a0), (1, .int a1), (2, .int a2), (3, .int a3)]) C dX2_lose_6 (by decide) rfl ?_
  exact V_sub [1, 2, 3, 4, 0] rfl (w_X2_lose_8 C B h_hN σ a0 a1 a2 a3 (x1 - 1) h)
/-! X2_countThere -/
theorem dX2_countThere_0 : decode cX2_countThere 0 = .ok (.iconst 0, 1) := by decide +kernel
theorem dX2_countThere_1 : decode cX2_countThere 1 = .ok (.istore_n 2, 1) := by decide +kernel
theorem dX2_countThere_2 : decode cX2_countThere 2 = .ok (.iconst 0, 1) := by decide +kernel
theorem dX2_countThere_3 : decode cX2_countThere 3 = .ok (.istore_n 3, 1) := by decide +kernel
theorem dX2_countThere_4 : decode cX2_countThere 4 = .ok (.iload_n 3, 1) := by decide +kernel
theorem dX2_countThere_5 : decode cX2_countThere 5 = .ok (.aload_n 0, 1) := by decide +kernel
theorem dX2_countThere_6 : decode cX2_countThere 6 = .ok (.getfield 15, 3) := by decide +kernel
theorem dX2_countThere_9 : decode cX2_countThere 9 = .ok (.if_icmp .ge 25, 3) := by decide +kernel
theorem dX2_countThere_12 : decode cX2_countThere 12 = .ok (.aload_n 0, 1) := by decide +kernel
theorem dX2_countThere_13 : decode cX2_countThere 13 = .ok (.getfield 11, 3) := by decide +kernel
theorem dX2_countThere_16 : decode cX2_countThere 16 = .ok (.iload_n 3, 1) := by decide +kernel
theorem dX2_countThere_17 : decode cX2_countThere 17 = .ok (.aaload, 1) := by decide +kernel
theorem dX2_countThere_18 : decode cX2_countThere 18 = .ok (.iload_n 1, 1) := by decide +kernel
theorem dX2_countThere_19 : decode cX2_countThere 19 = .ok (.invokevirtual 19, 3) := by decide +kernel
theorem dX2_countThere_22 : decode cX2_countThere 22 = .ok (.ifCond .eq 6, 3) := by decide +kernel
theorem dX2_countThere_25 : decode cX2_countThere 25 = .ok (.iinc 2 1, 3) := by decide +kernel
theorem dX2_countThere_28 : decode cX2_countThere 28 = .ok (.iinc 3 1, 3) := by decide +kernel
theorem dX2_countThere_31 : decode cX2_countThere 31 = .ok (.goto (-27), 3) := by decide +kernel
theorem dX2_countThere_34 : decode cX2_countThere 34 = .ok (.iload_n 2, 1) := by decide +kernel
theorem dX2_countThere_35 : decode cX2_countThere 35 = .ok (.ireturn, 1) := by decide +kernel
def g_X2_countThere_4 : Nat → HS → Option Nat → Int32 → Int32 → Int32 → Option (Int32 × HS)
  | 0, _, _, _, _, _ => none
  | n + 1, σ, l0, l1, l2, l3 =>
    h_b1 (h_gI σ l0 3 1) fun x1 =>
    if x1 ≤ l3 then
      some (l2, σ)
    else
      h_b1 (h_gR σ l0 3 0) fun x4 =>
      h_b1 (h_aR σ x4 104 l3) fun x6 =>
      h_b1 (h_rcv σ x6 2) fun y11 =>
      h_bd (f_X1_isThere σ x6 l1) fun r8 s9 =>
      if r8 = 0 then
        g_X2_countThere_4 n s9 l0 l1 l2 (l3 + 1)
      else
        g_X2_countThere_4 n s9 l0 l1 (l2 + 1) (l3 + 1)
def f_X2_countThere (σ : HS) (a0 : Option Nat) (a1 : Int32) : Option (Int32 × HS) :=
  g_X2_countThere_4 h_hN σ a0 a1 0 0
set_option maxHeartbeats 4000000 in
set_option maxRecDepth 100000 in
theorem w_X2_countThere_4 {p : Program} {l : Launch} {e : Env} {R : Room} {s : State} {m : MethodId} {args : Array Value} {below : List Frame} {meth : Method} {c : Code} {D : va_G} {dA : Nat → ClassId} {bs : Nat} (C : h_C p m c cX2_countThere 4 s args RX2 D dA) {σ0 : HS} (B : h_B R s meth σ0 (some .int) 1 21) {σ' : HS} {r : Int32} : ∀ (n : Nat) (σ : HS) (l0 : Option Nat) (l1 : Int32) (l2 : Int32) (l3 : Int32), g_X2_countThere_4 n σ l0 l1 l2 l3 = some (r, σ') → V p l e R s m args below meth c D dA bs 4 (MQ below (h_Q D dA bs (some (.int r)) σ0 σ') args s R.cells R.slots (fun q => bs ≤ q)) σ 4 [(0, va_rf l0), (1, .int l1), (2, .int l2), (3, .int l3)] [] := by
  intro n
  induction n with
  | zero =>
    intro σ l0 l1 l2 l3 h
    rw [g_X2_countThere_4] at h
    cases h
  | succ n ih =>
    intro σ l0 l1 l2 l3 h
    rw [g_X2_countThere_4] at h
    refine V_iload_n C 3 dX2_countThere_4 rfl rfl ?_
    refine V_aload_n C 0 dX2_countThere_5 rfl rfl ?_
    obtain ⟨x1, e2, h⟩ := h_b1_some h
    refine V_getI C fl_RX2_15 dX2_countThere_6 e2 ?_
    refine V_icmp_ge (tgt := 34) C dX2_countThere_9 (by decide) (fun c3 => ?_) (fun c3 => ?_)
    · rw [if_pos c3] at h
      refine V_iload_n C 2 dX2_countThere_34 rfl rfl ?_
      cases h
      exact V_iret C B dX2_countThere_35
    · rw [if_neg c3] at h
      refine V_aload_n C 0 dX2_countThere_12 rfl rfl ?_
      obtain ⟨x4, e5, h⟩ := h_b1_some h
      refine V_getR C fl_RX2_11 dX2_countThere_13 e5 ?_
      refine V_iload_n C 3 dX2_countThere_16 rfl rfl ?_
      obtain ⟨x6, e7, h⟩ := h_b1_some h
      refine V_aald C h_at104 dX2_countThere_17 e7 ?_
      refine V_iload_n C 1 dX2_countThere_18 rfl rfl ?_
      obtain ⟨y11, e12, h⟩ := h_b1_some h
      obtain ⟨r8, s9, e10, h⟩ := h_bd_some h
      refine V_cV (As := [.int l1]) (rest := []) C mv_RX2_19 (m_X1_isThere l D dA bs e10) e12 rfl rfl (Nat.le_trans h_w0 (by decide)) (h_fr B (by decide)) (h_lo B (by decide)) dX2_countThere_19 ?_
      refine V_if_eq (tgt := 28) C dX2_countThere_22 (by decide) (fun c13 => ?_) (fun c13 => ?_)
      · rw [if_pos c13] at h
        refine V_iinc (v := (l3 + 1)) (lv' := [(3, .int (l3 + 1)), (0, va_rf l0), (1, .int l1), (2, .int l2)]) C 3 dX2_countThere_28 rfl rfl (by decide) rfl ?_
        refine V_goto (tgt := 4) C dX2_countThere_31 (by decide) ?_
        exact V_sub [1, 2, 3, 0] rfl (ih s9 l0 l1 l2 (l3 + 1) h)
      · rw [if_neg c13] at h
        refine V_iinc (v := (l2 + 1)) (lv' := [(2, .int (l2 + 1)), (0, va_rf l0), (1, .int l1), (3, .int l3)]) C 2 dX2_countThere_25 rfl rfl (by decide) rfl ?_
        refine V_iinc (v := (l3 + 1)) (lv' := [(3, .int (l3 + 1)), (2, .int (l2 + 1)), (0, va_rf l0), (1, .int l1)]) C 3 dX2_countThere_28 rfl rfl (by decide) rfl ?_
        refine V_goto (tgt := 4) C dX2_countThere_31 (by decide) ?_
        exact V_sub [2, 3, 1, 0] rfl (ih s9 l0 l1 (l2 + 1) (l3 + 1) h)
set_option maxHeartbeats 4000000 in
set_option maxRecDepth 100000 in
theorem m_X2_countThere (l : Launch) (D : va_G) (dA : Nat → ClassId) (bs : Nat) {σ σ' : HS} {a0 : Option Nat} {a1 : Int32} {r : Int32} (h : f_X2_countThere σ a0 a1 = some (r, σ')) : MetC l yX2_countThere cX2_countThere 4 (some .int) 1 21 D dA bs [va_rf a0, .int a1] (some (.int r)) σ σ' := by
  refine MetC.of (by decide) (h_avR (h_avI h_av0)) (Nat.le_of_ble_eq_true rfl) ?_
  intro p e R s m args below meth c C B hnm
  unfold f_X2_countThere at h
  refine V_sub (lv' := [(0, va_rf a0), (1, .int a1)]) [0, 1] rfl ?_
  refine V_iconst (v := 0) C dX2_countThere_0 (by decide) ?_
  refine V_istore_n (lv' := [(2, .int 0), (0, va_rf a0), (1, .int a1)]) C dX2_countThere_1 rfl (by decide) rfl ?_
  refine V_iconst (v := 0) C dX2_countThere_2 (by decide) ?_
  refine V_istore_n (lv' := [(3, .int 0), (2, .int 0), (0, va_rf a0), (1, .int a1)]) C dX2_countThere_3 rfl (by decide) rfl ?_
  exact V_sub [2, 3, 1, 0] rfl (w_X2_countThere_4 C B h_hN σ a0 a1 0 0 h)
/-! X3_init -/
theorem dX3_init_0 : decode cX3_init 0 = .ok (.aload_n 0, 1) := by decide +kernel
theorem dX3_init_1 : decode cX3_init 1 = .ok (.invokespecial 3, 3) := by decide +kernel
theorem dX3_init_4 : decode cX3_init 4 = .ok (.aload_n 0, 1) := by decide +kernel
theorem dX3_init_5 : decode cX3_init 5 = .ok (.iload_n 1, 1) := by decide +kernel
theorem dX3_init_6 : decode cX3_init 6 = .ok (.putfield 9, 3) := by decide +kernel
theorem dX3_init_9 : decode cX3_init 9 = .ok (.aload_n 0, 1) := by decide +kernel
theorem dX3_init_10 : decode cX3_init 10 = .ok (.iload_n 2, 1) := by decide +kernel
theorem dX3_init_11 : decode cX3_init 11 = .ok (.putfield 15, 3) := by decide +kernel
theorem dX3_init_14 : decode cX3_init 14 = .ok (.aload_n 0, 1) := by decide +kernel
theorem dX3_init_15 : decode cX3_init 15 = .ok (.iload_n 3, 1) := by decide +kernel
theorem dX3_init_16 : decode cX3_init 16 = .ok (.putfield 18, 3) := by decide +kernel
theorem dX3_init_19 : decode cX3_init 19 = .ok (.aload_n 0, 1) := by decide +kernel
theorem dX3_init_20 : decode cX3_init 20 = .ok (.iconst (-1), 1) := by decide +kernel
theorem dX3_init_21 : decode cX3_init 21 = .ok (.putfield 21, 3) := by decide +kernel
theorem dX3_init_24 : decode cX3_init 24 = .ok (.return_, 1) := by decide +kernel
def f_X3_init (σ : HS) (a0 : Option Nat) (a1 : Int32) (a2 : Int32) (a3 : Int32) : Option (Unit × HS) :=
  h_b1 a0 fun y1 =>
  h_b1 (h_pI σ a0 4 0 a1) fun s3 =>
  h_b1 (h_pI s3 a0 4 1 a2) fun s5 =>
  h_b1 (h_pI s5 a0 4 2 a3) fun s7 =>
  h_b1 (h_pI s7 a0 4 5 (-1)) fun s9 =>
  some ((), s9)
set_option maxHeartbeats 4000000 in
set_option maxRecDepth 100000 in
theorem m_X3_init (l : Launch) (D : va_G) (dA : Nat → ClassId) (bs : Nat) {σ σ' : HS} {a0 : Option Nat} {a1 : Int32} {a2 : Int32} {a3 : Int32} (h : f_X3_init σ a0 a1 a2 a3 = some ((), σ')) : MetC l yX3_init cX3_init 4 none 1 12 D dA bs [va_rf a0, .int a1, .int a2, .int a3] none σ σ' := by
  refine MetC.of (by decide) (h_avR (h_avI (h_avI (h_avI h_av0)))) (Nat.le_of_ble_eq_true rfl) ?_
  intro p e R s m args below meth c C B hnm
  unfold f_X3_init at h
  refine V_sub (lv' := [(0, va_rf a0), (1, .int a1), (2, .int a2), (3, .int a3)]) [0, 1, 2, 3] rfl ?_
  refine V_aload_n C 0 dX3_init_0 rfl rfl ?_
  obtain ⟨y1, e2, h⟩ := h_b1_some h
  refine V_objInit C ob_RX3 ob_i ob_c dX3_init_1 e2 (h_fr B (by decide)) (h_lo B (by decide)) ?_
  refine V_aload_n C 0 dX3_init_4 rfl rfl ?_
  refine V_iload_n C 1 dX3_init_5 rfl rfl ?_
  obtain ⟨s3, e4, h⟩ := h_b1_some h
  refine V_putFI C hnm ff_RX3_9 dX3_init_6 e4 ?_
  refine V_aload_n C 0 dX3_init_9 rfl rfl ?_
  refine V_iload_n C 2 dX3_init_10 rfl rfl ?_
  obtain ⟨s5, e6, h⟩ := h_b1_some h
  refine V_putFI C hnm ff_RX3_15 dX3_init_11 e6 ?_
  refine V_aload_n C 0 dX3_init_14 rfl rfl ?_
  refine V_iload_n C 3 dX3_init_15 rfl rfl ?_
  obtain ⟨s7, e8, h⟩ := h_b1_some h
  refine V_putFI C hnm ff_RX3_18 dX3_init_16 e8 ?_
  refine V_aload_n C 0 dX3_init_19 rfl rfl ?_
  refine V_iconst (v := (-1)) C dX3_init_20 (by decide) ?_
  obtain ⟨s9, e10, h⟩ := h_b1_some h
  refine V_putI C fw_RX3_21 dX3_init_21 e10 ?_
  cases h
  exact V_vret C B dX3_init_24
/-! X3_arriveAt -/
theorem dX3_arriveAt_0 : decode cX3_arriveAt 0 = .ok (.aload_n 0, 1) := by decide +kernel
theorem dX3_arriveAt_1 : decode cX3_arriveAt 1 = .ok (.iconst 2, 1) := by decide +kernel
theorem dX3_arriveAt_2 : decode cX3_arriveAt 2 = .ok (.putfield 24, 3) := by decide +kernel
theorem dX3_arriveAt_5 : decode cX3_arriveAt 5 = .ok (.aload_n 0, 1) := by decide +kernel
theorem dX3_arriveAt_6 : decode cX3_arriveAt 6 = .ok (.getfield 27, 3) := by decide +kernel
theorem dX3_arriveAt_9 : decode cX3_arriveAt 9 = .ok (.ifCond .ne 8, 3) := by decide +kernel
theorem dX3_arriveAt_12 : decode cX3_arriveAt 12 = .ok (.aload_n 0, 1) := by decide +kernel
theorem dX3_arriveAt_13 : decode cX3_arriveAt 13 = .ok (.iload_n 1, 1) := by decide +kernel
theorem dX3_arriveAt_14 : decode cX3_arriveAt 14 = .ok (.putfield 21, 3) := by decide +kernel
theorem dX3_arriveAt_17 : decode cX3_arriveAt 17 = .ok (.aload_n 0, 1) := by decide +kernel
theorem dX3_arriveAt_18 : decode cX3_arriveAt 18 = .ok (.dup, 1) := by decide +kernel
theorem dX3_arriveAt_19 : decode cX3_arriveAt 19 = .ok (.getfield 27, 3) := by decide +kernel
theorem dX3_arriveAt_22 : decode cX3_arriveAt 22 = .ok (.iconst 1, 1) := by decide +kernel
theorem dX3_arriveAt_23 : decode cX3_arriveAt 23 = .ok (.iadd, 1) := by decide +kernel
theorem dX3_arriveAt_24 : decode cX3_arriveAt 24 = .ok (.putfield 27, 3) := by decide +kernel
theorem dX3_arriveAt_27 : decode cX3_arriveAt 27 = .ok (.return_, 1) := by decide +kernel
def f_X3_arriveAt (σ : HS) (a0 : Option Nat) (a1 : Int32) : Option (Unit × HS) :=
  h_b1 (h_pI σ a0 4 3 2) fun s1 =>
  h_b1 (h_gI s1 a0 4 7) fun x3 =>
  if x3 = 0 then
    h_b1 (h_pI s1 a0 4 5 a1) fun s10 =>
    h_b1 (h_gI s10 a0 4 7) fun x12 =>
    h_b1 (h_pI s10 a0 4 7 (x12 + 1)) fun s14 =>
    some ((), s14)
  else
    h_b1 (h_gI s1 a0 4 7) fun x6 =>
    h_b1 (h_pI s1 a0 4 7 (x6 + 1)) fun s8 =>
    some ((), s8)
set_option maxHeartbeats 4000000 in
set_option maxRecDepth 100000 in
theorem m_X3_arriveAt (l : Launch) (D : va_G) (dA : Nat → ClassId) (bs : Nat) {σ σ' : HS} {a0 : Option Nat} {a1 : Int32} (h : f_X3_arriveAt σ a0 a1 = some ((), σ')) : MetC l yX3_arriveAt cX3_arriveAt 2 none 0 0 D dA bs [va_rf a0, .int a1] none σ σ' := by
  refine MetC.of (by decide) (h_avR (h_avI h_av0)) (Nat.le_of_ble_eq_true rfl) ?_
  intro p e R s m args below meth c C B hnm
  unfold f_X3_arriveAt at h
  refine V_sub (lv' := [(0, va_rf a0), (1, .int a1)]) [0, 1] rfl ?_
  refine V_aload_n C 0 dX3_arriveAt_0 rfl rfl ?_
  refine V_iconst (v := 2) C dX3_arriveAt_1 (by decide) ?_
  obtain ⟨s1, e2, h⟩ := h_b1_some h
  refine V_putI C fw_RX3_24 dX3_arriveAt_2 e2 ?_
  refine V_aload_n C 0 dX3_arriveAt_5 rfl rfl ?_
  obtain ⟨x3, e4, h⟩ := h_b1_some h
  refine V_getI C fl_RX3_27 dX3_arriveAt_6 e4 ?_
  refine V_if_ne (tgt := 17) C dX3_arriveAt_9 (by decide) (fun c5 => ?_) (fun c5 => ?_)
  · rw [if_neg c5] at h
    refine V_aload_n C 0 dX3_arriveAt_17 rfl rfl ?_
    refine V_dupR C dX3_arriveAt_18 ?_
    obtain ⟨x6, e7, h⟩ := h_b1_some h
    refine V_getI C fl_RX3_27 dX3_arriveAt_19 e7 ?_
    refine V_iconst (v := 1) C dX3_arriveAt_22 (by decide) ?_
    refine V_iadd C dX3_arriveAt_23 ?_
    obtain ⟨s8, e9, h⟩ := h_b1_some h
    refine V_putI C fw_RX3_27 dX3_arriveAt_24 e9 ?_
    cases h
    exact V_vret C B dX3_arriveAt_27
  · rw [if_pos c5] at h
    refine V_aload_n C 0 dX3_arriveAt_12 rfl rfl ?_
    refine V_iload_n C 1 dX3_arriveAt_13 rfl rfl ?_
    obtain ⟨s10, e11, h⟩ := h_b1_some h
    refine V_putI C fw_RX3_21 dX3_arriveAt_14 e11 ?_
    refine V_aload_n C 0 dX3_arriveAt_17 rfl rfl ?_
    refine V_dupR C dX3_arriveAt_18 ?_
    obtain ⟨x12, e13, h⟩ := h_b1_some h
    refine V_getI C fl_RX3_27 dX3_arriveAt_19 e13 ?_
    refine V_iconst (v := 1) C dX3_arriveAt_22 (by decide) ?_
    refine V_iadd C dX3_arriveAt_23 ?_
    obtain ⟨s14, e15, h⟩ := h_b1_some h
    refine V_putI C fw_RX3_27 dX3_arriveAt_24 e15 ?_
    cases h
    exact V_vret C B dX3_arriveAt_27
/-! X3_lose -/
theorem dX3_lose_0 : decode cX3_lose 0 = .ok (.aload_n 0, 1) := by decide +kernel
theorem dX3_lose_1 : decode cX3_lose 1 = .ok (.getfield 24, 3) := by decide +kernel
theorem dX3_lose_4 : decode cX3_lose 4 = .ok (.iconst 1, 1) := by decide +kernel
theorem dX3_lose_5 : decode cX3_lose 5 = .ok (.if_icmp .ne 8, 3) := by decide +kernel
theorem dX3_lose_8 : decode cX3_lose 8 = .ok (.aload_n 0, 1) := by decide +kernel
theorem dX3_lose_9 : decode cX3_lose 9 = .ok (.iconst 4, 1) := by decide +kernel
theorem dX3_lose_10 : decode cX3_lose 10 = .ok (.putfield 24, 3) := by decide +kernel
theorem dX3_lose_13 : decode cX3_lose 13 = .ok (.return_, 1) := by decide +kernel
def f_X3_lose (σ : HS) (a0 : Option Nat) : Option (Unit × HS) :=
  h_b1 (h_gI σ a0 4 3) fun x1 =>
  if x1 = 1 then
    h_b1 (h_pI σ a0 4 3 4) fun s4 =>
    some ((), s4)
  else
    some ((), σ)
set_option maxHeartbeats 4000000 in
set_option maxRecDepth 100000 in
theorem m_X3_lose (l : Launch) (D : va_G) (dA : Nat → ClassId) (bs : Nat) {σ σ' : HS} {a0 : Option Nat} (h : f_X3_lose σ a0 = some ((), σ')) : MetC l yX3_lose cX3_lose 1 none 0 0 D dA bs [va_rf a0] none σ σ' := by
  refine MetC.of (by decide) (h_avR h_av0) (Nat.le_of_ble_eq_true rfl) ?_
  intro p e R s m args below meth c C B hnm
  unfold f_X3_lose at h
  refine V_sub (lv' := [(0, va_rf a0)]) [0] rfl ?_
  refine V_aload_n C 0 dX3_lose_0 rfl rfl ?_
  obtain ⟨x1, e2, h⟩ := h_b1_some h
  refine V_getI C fl_RX3_24 dX3_lose_1 e2 ?_
  refine V_iconst (v := 1) C dX3_lose_4 (by decide) ?_
  refine V_icmp_ne (tgt := 13) C dX3_lose_5 (by decide) (fun c3 => ?_) (fun c3 => ?_)
  · rw [if_neg c3] at h
    cases h
    exact V_vret C B dX3_lose_13
  · rw [if_pos c3] at h
    refine V_aload_n C 0 dX3_lose_8 rfl rfl ?_
    refine V_iconst (v := 4) C dX3_lose_9 (by decide) ?_
    obtain ⟨s4, e5, h⟩ := h_b1_some h
    refine V_putI C fw_RX3_24 dX3_lose_10 e5 ?_
    cases h
    exact V_vret C B dX3_lose_13
/-! X4_init -/
theorem dX4_init_0 : decode cX4_init 0 = .ok (.aload_n 0, 1) := by decide +kernel
theorem dX4_init_1 : decode cX4_init 1 = .ok (.invokespecial 1, 3) := by decide +kernel
theorem dX4_init_4 : decode cX4_init 4 = .ok (.aload_n 0, 1) := by decide +kernel
theorem dX4_init_5 : decode cX4_init 5 = .ok (.iload_n 1, 1) := by decide +kernel
theorem dX4_init_6 : decode cX4_init 6 = .ok (.putfield 7, 3) := by decide +kernel
theorem dX4_init_9 : decode cX4_init 9 = .ok (.aload_n 0, 1) := by decide +kernel
theorem dX4_init_10 : decode cX4_init 10 = .ok (.iload_n 2, 1) := by decide +kernel
theorem dX4_init_11 : decode cX4_init 11 = .ok (.putfield 13, 3) := by decide +kernel
theorem dX4_init_14 : decode cX4_init 14 = .ok (.return_, 1) := by decide +kernel
def f_X4_init (σ : HS) (a0 : Option Nat) (a1 : Int32) (a2 : Int32) : Option (Unit × HS) :=
  h_b1 a0 fun y1 =>
  h_b1 (h_pI σ a0 5 0 a1) fun s3 =>
  h_b1 (h_pI s3 a0 5 1 a2) fun s5 =>
  some ((), s5)
set_option maxHeartbeats 4000000 in
set_option maxRecDepth 100000 in
theorem m_X4_init (l : Launch) (D : va_G) (dA : Nat → ClassId) (bs : Nat) {σ σ' : HS} {a0 : Option Nat} {a1 : Int32} {a2 : Int32} (h : f_X4_init σ a0 a1 a2 = some ((), σ')) : MetC l yX4_init cX4_init 3 none 1 12 D dA bs [va_rf a0, .int a1, .int a2] none σ σ' := by
  refine MetC.of (by decide) (h_avR (h_avI (h_avI h_av0))) (Nat.le_of_ble_eq_true rfl) ?_
  intro p e R s m args below meth c C B hnm
  unfold f_X4_init at h
  refine V_sub (lv' := [(0, va_rf a0), (1, .int a1), (2, .int a2)]) [0, 1, 2] rfl ?_
  refine V_aload_n C 0 dX4_init_0 rfl rfl ?_
  obtain ⟨y1, e2, h⟩ := h_b1_some h
  refine V_objInit C ob_RX4 ob_i ob_c dX4_init_1 e2 (h_fr B (by decide)) (h_lo B (by decide)) ?_
  refine V_aload_n C 0 dX4_init_4 rfl rfl ?_
  refine V_iload_n C 1 dX4_init_5 rfl rfl ?_
  obtain ⟨s3, e4, h⟩ := h_b1_some h
  refine V_putFI C hnm ff_RX4_7 dX4_init_6 e4 ?_
  refine V_aload_n C 0 dX4_init_9 rfl rfl ?_
  refine V_iload_n C 2 dX4_init_10 rfl rfl ?_
  obtain ⟨s5, e6, h⟩ := h_b1_some h
  refine V_putFI C hnm ff_RX4_13 dX4_init_11 e6 ?_
  cases h
  exact V_vret C B dX4_init_14
/-! X4_of -/
theorem dX4_of_0 : decode cX4_of 0 = .ok (.iload_n 1, 1) := by decide +kernel
theorem dX4_of_1 : decode cX4_of 1 = .ok (.ifCond .lt 20, 3) := by decide +kernel
theorem dX4_of_4 : decode cX4_of 4 = .ok (.iload_n 1, 1) := by decide +kernel
theorem dX4_of_5 : decode cX4_of 5 = .ok (.bipush 32, 2) := by decide +kernel
theorem dX4_of_7 : decode cX4_of 7 = .ok (.if_icmp .gt 14, 3) := by decide +kernel
theorem dX4_of_10 : decode cX4_of 10 = .ok (.iload_n 0, 1) := by decide +kernel
theorem dX4_of_11 : decode cX4_of 11 = .ok (.iload_n 1, 1) := by decide +kernel
theorem dX4_of_12 : decode cX4_of 12 = .ok (.invokestatic 16, 3) := by decide +kernel
theorem dX4_of_15 : decode cX4_of 15 = .ok (.iconst (-1), 1) := by decide +kernel
theorem dX4_of_16 : decode cX4_of 16 = .ok (.ixor, 1) := by decide +kernel
theorem dX4_of_17 : decode cX4_of 17 = .ok (.iand, 1) := by decide +kernel
theorem dX4_of_18 : decode cX4_of 18 = .ok (.ifCond .eq 5, 3) := by decide +kernel
theorem dX4_of_21 : decode cX4_of 21 = .ok (.aconst_null, 1) := by decide +kernel
theorem dX4_of_22 : decode cX4_of 22 = .ok (.areturn, 1) := by decide +kernel
theorem dX4_of_23 : decode cX4_of 23 = .ok (.new 8, 3) := by decide +kernel
theorem dX4_of_26 : decode cX4_of 26 = .ok (.dup, 1) := by decide +kernel
theorem dX4_of_27 : decode cX4_of 27 = .ok (.iload_n 0, 1) := by decide +kernel
theorem dX4_of_28 : decode cX4_of 28 = .ok (.iload_n 1, 1) := by decide +kernel
theorem dX4_of_29 : decode cX4_of 29 = .ok (.invokespecial 20, 3) := by decide +kernel
theorem dX4_of_32 : decode cX4_of 32 = .ok (.areturn, 1) := by decide +kernel
def f_X4_of (σ : HS) (a0 : Int32) (a1 : Int32) : Option (Option Nat × HS) :=
  if a1 < 0 then
    some (none, σ)
  else
    if 32 < a1 then
      some (none, σ)
    else
      h_bd (f_X4_mask σ a1) fun r3 s4 =>
      if (a0 &&& (r3 ^^^ (-1))) = 0 then
        h_bd (h_mk s4 5 2) fun x7 s8 =>
        h_b1 (h_rcv s8 x7 5) fun y13 =>
        h_bd (f_X4_init s8 x7 a0 a1) fun _ s11 =>
        some (x7, s11)
      else
        some (none, s4)
set_option maxHeartbeats 4000000 in
set_option maxRecDepth 100000 in
theorem m_X4_of (l : Launch) (D : va_G) (dA : Nat → ClassId) (bs : Nat) {σ σ' : HS} {a0 : Int32} {a1 : Int32} {r : Option Nat} (h : f_X4_of σ a0 a1 = some (r, σ')) : MetC l yX4_of cX4_of 2 (some (.object RX4)) 2 34 D dA bs [.int a0, .int a1] (some (va_rf r)) σ σ' := by
  refine MetC.of (by decide) (h_avI (h_avI h_av0)) (Nat.le_of_ble_eq_true rfl) ?_
  intro p e R s m args below meth c C B hnm
  unfold f_X4_of at h
  refine V_sub (lv' := [(0, .int a0), (1, .int a1)]) [0, 1] rfl ?_
  refine V_iload_n C 1 dX4_of_0 rfl rfl ?_
  refine V_if_lt (tgt := 21) C dX4_of_1 (by decide) (fun c1 => ?_) (fun c1 => ?_)
  · rw [if_pos c1] at h
    refine V_null C dX4_of_21 ?_
    cases h
    exact V_aret C B dX4_of_22
  · rw [if_neg c1] at h
    refine V_iload_n C 1 dX4_of_4 rfl rfl ?_
    refine V_bipush (v := 32) C dX4_of_5 (by decide) ?_
    refine V_icmp_gt (tgt := 21) C dX4_of_7 (by decide) (fun c2 => ?_) (fun c2 => ?_)
    · rw [if_pos c2] at h
      refine V_null C dX4_of_21 ?_
      cases h
      exact V_aret C B dX4_of_22
    · rw [if_neg c2] at h
      refine V_iload_n C 0 dX4_of_10 rfl rfl ?_
      refine V_iload_n C 1 dX4_of_11 rfl rfl ?_
      obtain ⟨r3, s4, e5, h⟩ := h_bd_some h
      refine V_cS (As := [.int a1]) (rest := [.int a0]) C ms_RX4_16 (m_X4_mask l D dA bs e5) rfl rfl (Nat.le_trans (h_wI h_w0) (by decide)) (h_fr B (by decide)) (h_lo B (by decide)) dX4_of_12 ?_
      refine V_iconst (v := (-1)) C dX4_of_15 (by decide) ?_
      refine V_ixor C dX4_of_16 ?_
      refine V_iand C dX4_of_17 ?_
      refine V_if_eq (tgt := 23) C dX4_of_18 (by decide) (fun c6 => ?_) (fun c6 => ?_)
      · rw [if_pos c6] at h
        obtain ⟨x7, s8, e9, h⟩ := h_bd_some h
        refine V_new C hcl_4 lk_RX4_8 dX4_of_23 e9 ?_
        refine V_dupR C dX4_of_26 ?_
        refine V_iload_n C 0 dX4_of_27 rfl rfl ?_
        refine V_iload_n C 1 dX4_of_28 rfl rfl ?_
        obtain ⟨y13, e14, h⟩ := h_b1_some h
        obtain ⟨r10, s11, e12, h⟩ := h_bd_some h
        refine V_cI (As := [.int a0, .int a1]) (rest := [va_rf x7]) C mi_RX4_20 (m_X4_init l D dA bs e12) e14 rfl rfl (Nat.le_trans (h_wR h_w0) (by decide)) (h_fr B (by decide)) (h_lo B (by decide)) dX4_of_29 ?_
        cases h
        exact V_aret C B dX4_of_32
      · rw [if_neg c6] at h
        refine V_null C dX4_of_21 ?_
        cases h
        exact V_aret C B dX4_of_22
/-! X4_round -/
theorem dX4_round_0 : decode cX4_round 0 = .ok (.new 8, 3) := by decide +kernel
theorem dX4_round_3 : decode cX4_round 3 = .ok (.dup, 1) := by decide +kernel
theorem dX4_round_4 : decode cX4_round 4 = .ok (.iload_n 0, 1) := by decide +kernel
theorem dX4_round_5 : decode cX4_round 5 = .ok (.iload_n 1, 1) := by decide +kernel
theorem dX4_round_6 : decode cX4_round 6 = .ok (.invokestatic 16, 3) := by decide +kernel
theorem dX4_round_9 : decode cX4_round 9 = .ok (.iand, 1) := by decide +kernel
theorem dX4_round_10 : decode cX4_round 10 = .ok (.iload_n 1, 1) := by decide +kernel
theorem dX4_round_11 : decode cX4_round 11 = .ok (.invokespecial 20, 3) := by decide +kernel
theorem dX4_round_14 : decode cX4_round 14 = .ok (.areturn, 1) := by decide +kernel
def f_X4_round (σ : HS) (a0 : Int32) (a1 : Int32) : Option (Option Nat × HS) :=
  h_bd (h_mk σ 5 2) fun x1 s2 =>
  h_bd (f_X4_mask s2 a1) fun r4 s5 =>
  h_b1 (h_rcv s5 x1 5) fun y10 =>
  h_bd (f_X4_init s5 x1 (a0 &&& r4) a1) fun _ s8 =>
  some (x1, s8)
set_option maxHeartbeats 4000000 in
set_option maxRecDepth 100000 in
theorem m_X4_round (l : Launch) (D : va_G) (dA : Nat → ClassId) (bs : Nat) {σ σ' : HS} {a0 : Int32} {a1 : Int32} {r : Option Nat} (h : f_X4_round σ a0 a1 = some (r, σ')) : MetC l yX4_round cX4_round 2 (some (.object RX4)) 2 34 D dA bs [.int a0, .int a1] (some (va_rf r)) σ σ' := by
  refine MetC.of (by decide) (h_avI (h_avI h_av0)) (Nat.le_of_ble_eq_true rfl) ?_
  intro p e R s m args below meth c C B hnm
  unfold f_X4_round at h
  refine V_sub (lv' := [(0, .int a0), (1, .int a1)]) [0, 1] rfl ?_
  obtain ⟨x1, s2, e3, h⟩ := h_bd_some h
  refine V_new C hcl_4 lk_RX4_8 dX4_round_0 e3 ?_
  refine V_dupR C dX4_round_3 ?_
  refine V_iload_n C 0 dX4_round_4 rfl rfl ?_
  refine V_iload_n C 1 dX4_round_5 rfl rfl ?_
  obtain ⟨r4, s5, e6, h⟩ := h_bd_some h
  refine V_cS (As := [.int a1]) (rest := [.int a0, va_rf x1, va_rf x1]) C ms_RX4_16 (m_X4_mask l D dA bs e6) rfl rfl (Nat.le_trans (h_wI (h_wR (h_wR h_w0))) (by decide)) (h_fr B (by decide)) (h_lo B (by decide)) dX4_round_6 ?_
  refine V_iand C dX4_round_9 ?_
  refine V_iload_n C 1 dX4_round_10 rfl rfl ?_
  obtain ⟨y10, e11, h⟩ := h_b1_some h
  obtain ⟨r7, s8, e9, h⟩ := h_bd_some h
  refine V_cI (As := [.int (a0 &&& r4), .int a1]) (rest := [va_rf x1]) C mi_RX4_20 (m_X4_init l D dA bs e9) e11 rfl rfl (Nat.le_trans (h_wR h_w0) (by decide)) (h_fr B (by decide)) (h_lo B (by decide)) dX4_round_11 ?_
  cases h
  exact V_aret C B dX4_round_14
/-! X4_same -/
theorem dX4_same_0 : decode cX4_same 0 = .ok (.aload_n 0, 1) := by decide +kernel
theorem dX4_same_1 : decode cX4_same 1 = .ok (.getfield 7, 3) := by decide +kernel
theorem dX4_same_4 : decode cX4_same 4 = .ok (.aload_n 1, 1) := by decide +kernel
theorem dX4_same_5 : decode cX4_same 5 = .ok (.getfield 7, 3) := by decide +kernel
theorem dX4_same_8 : decode cX4_same 8 = .ok (.if_icmp .ne 18, 3) := by decide +kernel
theorem dX4_same_11 : decode cX4_same 11 = .ok (.aload_n 0, 1) := by decide +kernel
theorem dX4_same_12 : decode cX4_same 12 = .ok (.getfield 13, 3) := by decide +kernel
theorem dX4_same_15 : decode cX4_same 15 = .ok (.aload_n 1, 1) := by decide +kernel
theorem dX4_same_16 : decode cX4_same 16 = .ok (.getfield 13, 3) := by decide +kernel
theorem dX4_same_19 : decode cX4_same 19 = .ok (.if_icmp .ne 7, 3) := by decide +kernel
theorem dX4_same_22 : decode cX4_same 22 = .ok (.iconst 1, 1) := by decide +kernel
theorem dX4_same_23 : decode cX4_same 23 = .ok (.goto 4, 3) := by decide +kernel
theorem dX4_same_26 : decode cX4_same 26 = .ok (.iconst 0, 1) := by decide +kernel
theorem dX4_same_27 : decode cX4_same 27 = .ok (.ireturn, 1) := by decide +kernel
def f_X4_same (σ : HS) (a0 : Option Nat) (a1 : Option Nat) : Option (Int32 × HS) :=
  h_b1 (h_gI σ a0 5 0) fun x1 =>
  h_b1 (h_gI σ a1 5 0) fun x3 =>
  if x1 = x3 then
    h_b1 (h_gI σ a0 5 1) fun x6 =>
    h_b1 (h_gI σ a1 5 1) fun x8 =>
    if x6 = x8 then
      some (1, σ)
    else
      some (0, σ)
  else
    some (0, σ)
set_option maxHeartbeats 4000000 in
set_option maxRecDepth 100000 in
theorem m_X4_same (l : Launch) (D : va_G) (dA : Nat → ClassId) (bs : Nat) {σ σ' : HS} {a0 : Option Nat} {a1 : Option Nat} {r : Int32} (h : f_X4_same σ a0 a1 = some (r, σ')) : MetC l yX4_same cX4_same 2 (some .boolean) 0 0 D dA bs [va_rf a0, va_rf a1] (some (.int r)) σ σ' := by
  refine MetC.of (by decide) (h_avR (h_avR h_av0)) (Nat.le_of_ble_eq_true rfl) ?_
  intro p e R s m args below meth c C B hnm
  unfold f_X4_same at h
  refine V_sub (lv' := [(0, va_rf a0), (1, va_rf a1)]) [0, 1] rfl ?_
  refine V_aload_n C 0 dX4_same_0 rfl rfl ?_
  obtain ⟨x1, e2, h⟩ := h_b1_some h
  refine V_getI C fl_RX4_7 dX4_same_1 e2 ?_
  refine V_aload_n C 1 dX4_same_4 rfl rfl ?_
  obtain ⟨x3, e4, h⟩ := h_b1_some h
  refine V_getI C fl_RX4_7 dX4_same_5 e4 ?_
  refine V_icmp_ne (tgt := 26) C dX4_same_8 (by decide) (fun c5 => ?_) (fun c5 => ?_)
  · rw [if_neg c5] at h
    refine V_iconst (v := 0) C dX4_same_26 (by decide) ?_
    cases h
    exact V_zret C B dX4_same_27 (Or.inl rfl)
  · rw [if_pos c5] at h
    refine V_aload_n C 0 dX4_same_11 rfl rfl ?_
    obtain ⟨x6, e7, h⟩ := h_b1_some h
    refine V_getI C fl_RX4_13 dX4_same_12 e7 ?_
    refine V_aload_n C 1 dX4_same_15 rfl rfl ?_
    obtain ⟨x8, e9, h⟩ := h_b1_some h
    refine V_getI C fl_RX4_13 dX4_same_16 e9 ?_
    refine V_icmp_ne (tgt := 26) C dX4_same_19 (by decide) (fun c10 => ?_) (fun c10 => ?_)
    · rw [if_neg c10] at h
      refine V_iconst (v := 0) C dX4_same_26 (by decide) ?_
      cases h
      exact V_zret C B dX4_same_27 (Or.inl rfl)
    · rw [if_pos c10] at h
      refine V_iconst (v := 1) C dX4_same_22 (by decide) ?_
      refine V_goto (tgt := 27) C dX4_same_23 (by decide) ?_
      cases h
      exact V_zret C B dX4_same_27 (Or.inr rfl)
/-! X4_liesRound -/
theorem dX4_liesRound_0 : decode cX4_liesRound 0 = .ok (.aload_n 0, 1) := by decide +kernel
theorem dX4_liesRound_1 : decode cX4_liesRound 1 = .ok (.getfield 13, 3) := by decide +kernel
theorem dX4_liesRound_4 : decode cX4_liesRound 4 = .ok (.iload_n 2, 1) := by decide +kernel
theorem dX4_liesRound_5 : decode cX4_liesRound 5 = .ok (.if_icmp .lt 21, 3) := by decide +kernel
theorem dX4_liesRound_8 : decode cX4_liesRound 8 = .ok (.aload_n 0, 1) := by decide +kernel
theorem dX4_liesRound_9 : decode cX4_liesRound 9 = .ok (.getfield 7, 3) := by decide +kernel
theorem dX4_liesRound_12 : decode cX4_liesRound 12 = .ok (.iload_n 1, 1) := by decide +kernel
theorem dX4_liesRound_13 : decode cX4_liesRound 13 = .ok (.ixor, 1) := by decide +kernel
theorem dX4_liesRound_14 : decode cX4_liesRound 14 = .ok (.iload_n 2, 1) := by decide +kernel
theorem dX4_liesRound_15 : decode cX4_liesRound 15 = .ok (.invokestatic 16, 3) := by decide +kernel
theorem dX4_liesRound_18 : decode cX4_liesRound 18 = .ok (.iand, 1) := by decide +kernel
theorem dX4_liesRound_19 : decode cX4_liesRound 19 = .ok (.ifCond .ne 7, 3) := by decide +kernel
theorem dX4_liesRound_22 : decode cX4_liesRound 22 = .ok (.iconst 1, 1) := by decide +kernel
theorem dX4_liesRound_23 : decode cX4_liesRound 23 = .ok (.goto 4, 3) := by decide +kernel
theorem dX4_liesRound_26 : decode cX4_liesRound 26 = .ok (.iconst 0, 1) := by decide +kernel
theorem dX4_liesRound_27 : decode cX4_liesRound 27 = .ok (.ireturn, 1) := by decide +kernel
def f_X4_liesRound (σ : HS) (a0 : Option Nat) (a1 : Int32) (a2 : Int32) : Option (Int32 × HS) :=
  h_b1 (h_gI σ a0 5 1) fun x1 =>
  if x1 < a2 then
    some (0, σ)
  else
    h_b1 (h_gI σ a0 5 0) fun x4 =>
    h_bd (f_X4_mask σ a2) fun r6 s7 =>
    if ((x4 ^^^ a1) &&& r6) = 0 then
      some (1, s7)
    else
      some (0, s7)
set_option maxHeartbeats 4000000 in
set_option maxRecDepth 100000 in
theorem m_X4_liesRound (l : Launch) (D : va_G) (dA : Nat → ClassId) (bs : Nat) {σ σ' : HS} {a0 : Option Nat} {a1 : Int32} {a2 : Int32} {r : Int32} (h : f_X4_liesRound σ a0 a1 a2 = some (r, σ')) : MetC l yX4_liesRound cX4_liesRound 3 (some .boolean) 1 20 D dA bs [va_rf a0, .int a1, .int a2] (some (.int r)) σ σ' := by
  refine MetC.of (by decide) (h_avR (h_avI (h_avI h_av0))) (Nat.le_of_ble_eq_true rfl) ?_
  intro p e R s m args below meth c C B hnm
  unfold f_X4_liesRound at h
  refine V_sub (lv' := [(0, va_rf a0), (1, .int a1), (2, .int a2)]) [0, 1, 2] rfl ?_
  refine V_aload_n C 0 dX4_liesRound_0 rfl rfl ?_
  obtain ⟨x1, e2, h⟩ := h_b1_some h
  refine V_getI C fl_RX4_13 dX4_liesRound_1 e2 ?_
  refine V_iload_n C 2 dX4_liesRound_4 rfl rfl ?_
  refine V_icmp_lt (tgt := 26) C dX4_liesRound_5 (by decide) (fun c3 => ?_) (fun c3 => ?_)
  · rw [if_pos c3] at h
    refine V_iconst (v := 0) C dX4_liesRound_26 (by decide) ?_
    cases h
    exact V_zret C B dX4_liesRound_27 (Or.inl rfl)
  · rw [if_neg c3] at h
    refine V_aload_n C 0 dX4_liesRound_8 rfl rfl ?_
    obtain ⟨x4, e5, h⟩ := h_b1_some h
    refine V_getI C fl_RX4_7 dX4_liesRound_9 e5 ?_
    refine V_iload_n C 1 dX4_liesRound_12 rfl rfl ?_
    refine V_ixor C dX4_liesRound_13 ?_
    refine V_iload_n C 2 dX4_liesRound_14 rfl rfl ?_
    obtain ⟨r6, s7, e8, h⟩ := h_bd_some h
    refine V_cS (As := [.int a2]) (rest := [.int (x4 ^^^ a1)]) C ms_RX4_16 (m_X4_mask l D dA bs e8) rfl rfl (Nat.le_trans (h_wI h_w0) (by decide)) (h_fr B (by decide)) (h_lo B (by decide)) dX4_liesRound_15 ?_
    refine V_iand C dX4_liesRound_18 ?_
    refine V_if_ne (tgt := 26) C dX4_liesRound_19 (by decide) (fun c9 => ?_) (fun c9 => ?_)
    · rw [if_neg c9] at h
      refine V_iconst (v := 0) C dX4_liesRound_26 (by decide) ?_
      cases h
      exact V_zret C B dX4_liesRound_27 (Or.inl rfl)
    · rw [if_pos c9] at h
      refine V_iconst (v := 1) C dX4_liesRound_22 (by decide) ?_
      refine V_goto (tgt := 27) C dX4_liesRound_23 (by decide) ?_
      cases h
      exact V_zret C B dX4_liesRound_27 (Or.inr rfl)
/-! X5_init -/
theorem dX5_init_0 : decode cX5_init 0 = .ok (.aload_n 0, 1) := by decide +kernel
theorem dX5_init_1 : decode cX5_init 1 = .ok (.invokespecial 3, 3) := by decide +kernel
theorem dX5_init_4 : decode cX5_init 4 = .ok (.aload_n 0, 1) := by decide +kernel
theorem dX5_init_5 : decode cX5_init 5 = .ok (.sipush 1600, 3) := by decide +kernel
theorem dX5_init_8 : decode cX5_init 8 = .ok (.newarray .int, 2) := by decide +kernel
theorem dX5_init_10 : decode cX5_init 10 = .ok (.putfield 11, 3) := by decide +kernel
theorem dX5_init_13 : decode cX5_init 13 = .ok (.return_, 1) := by decide +kernel
def f_X5_init (σ : HS) (a0 : Option Nat) : Option (Unit × HS) :=
  h_b1 a0 fun y1 =>
  h_bd (h_mkA σ 100 1600) fun x3 s4 =>
  h_b1 (h_pR s4 a0 6 0 x3) fun s6 =>
  some ((), s6)
set_option maxHeartbeats 4000000 in
set_option maxRecDepth 100000 in
theorem m_X5_init (l : Launch) (D : va_G) (dA : Nat → ClassId) (bs : Nat) {σ σ' : HS} {a0 : Option Nat} (h : f_X5_init σ a0 = some ((), σ')) : MetC l yX5_init cX5_init 1 none 1 12 D dA bs [va_rf a0] none σ σ' := by
  refine MetC.of (by decide) (h_avR h_av0) (Nat.le_of_ble_eq_true rfl) ?_
  intro p e R s m args below meth c C B hnm
  unfold f_X5_init at h
  refine V_sub (lv' := [(0, va_rf a0)]) [0] rfl ?_
  refine V_aload_n C 0 dX5_init_0 rfl rfl ?_
  obtain ⟨y1, e2, h⟩ := h_b1_some h
  refine V_objInit C ob_RX5 ob_i ob_c dX5_init_1 e2 (h_fr B (by decide)) (h_lo B (by decide)) ?_
  refine V_aload_n C 0 dX5_init_4 rfl rfl ?_
  refine V_sipush (v := 1600) C dX5_init_5 (by decide) ?_
  obtain ⟨x3, s4, e5, h⟩ := h_bd_some h
  refine V_newI C ac_int dX5_init_8 e5 ?_
  obtain ⟨s6, e7, h⟩ := h_b1_some h
  refine V_putFR C hnm ff_RX5_11 dX5_init_10 e7 ?_
  cases h
  exact V_vret C B dX5_init_13
/-! X5_has -/
theorem dX5_has_0 : decode cX5_has 0 = .ok (.iload_n 1, 1) := by decide +kernel
theorem dX5_has_1 : decode cX5_has 1 = .ok (.ifCond .lt 15, 3) := by decide +kernel
theorem dX5_has_4 : decode cX5_has 4 = .ok (.iload_n 1, 1) := by decide +kernel
theorem dX5_has_5 : decode cX5_has 5 = .ok (.aload_n 0, 1) := by decide +kernel
theorem dX5_has_6 : decode cX5_has 6 = .ok (.getfield 15, 3) := by decide +kernel
theorem dX5_has_9 : decode cX5_has 9 = .ok (.if_icmp .ge 7, 3) := by decide +kernel
theorem dX5_has_12 : decode cX5_has 12 = .ok (.iconst 1, 1) := by decide +kernel
theorem dX5_has_13 : decode cX5_has 13 = .ok (.goto 4, 3) := by decide +kernel
theorem dX5_has_16 : decode cX5_has 16 = .ok (.iconst 0, 1) := by decide +kernel
theorem dX5_has_17 : decode cX5_has 17 = .ok (.ireturn, 1) := by decide +kernel
def f_X5_has (σ : HS) (a0 : Option Nat) (a1 : Int32) : Option (Int32 × HS) :=
  if a1 < 0 then
    some (0, σ)
  else
    h_b1 (h_gI σ a0 6 2) fun x2 =>
    if x2 ≤ a1 then
      some (0, σ)
    else
      some (1, σ)
set_option maxHeartbeats 4000000 in
set_option maxRecDepth 100000 in
theorem m_X5_has (l : Launch) (D : va_G) (dA : Nat → ClassId) (bs : Nat) {σ σ' : HS} {a0 : Option Nat} {a1 : Int32} {r : Int32} (h : f_X5_has σ a0 a1 = some (r, σ')) : MetC l yX5_has cX5_has 2 (some .boolean) 0 0 D dA bs [va_rf a0, .int a1] (some (.int r)) σ σ' := by
  refine MetC.of (by decide) (h_avR (h_avI h_av0)) (Nat.le_of_ble_eq_true rfl) ?_
  intro p e R s m args below meth c C B hnm
  unfold f_X5_has at h
  refine V_sub (lv' := [(0, va_rf a0), (1, .int a1)]) [0, 1] rfl ?_
  refine V_iload_n C 1 dX5_has_0 rfl rfl ?_
  refine V_if_lt (tgt := 16) C dX5_has_1 (by decide) (fun c1 => ?_) (fun c1 => ?_)
  · rw [if_pos c1] at h
    refine V_iconst (v := 0) C dX5_has_16 (by decide) ?_
    cases h
    exact V_zret C B dX5_has_17 (Or.inl rfl)
  · rw [if_neg c1] at h
    refine V_iload_n C 1 dX5_has_4 rfl rfl ?_
    refine V_aload_n C 0 dX5_has_5 rfl rfl ?_
    obtain ⟨x2, e3, h⟩ := h_b1_some h
    refine V_getI C fl_RX5_15 dX5_has_6 e3 ?_
    refine V_icmp_ge (tgt := 16) C dX5_has_9 (by decide) (fun c4 => ?_) (fun c4 => ?_)
    · rw [if_pos c4] at h
      refine V_iconst (v := 0) C dX5_has_16 (by decide) ?_
      cases h
      exact V_zret C B dX5_has_17 (Or.inl rfl)
    · rw [if_neg c4] at h
      refine V_iconst (v := 1) C dX5_has_12 (by decide) ?_
      refine V_goto (tgt := 17) C dX5_has_13 (by decide) ?_
      cases h
      exact V_zret C B dX5_has_17 (Or.inr rfl)
/-! X5_cell -/
theorem dX5_cell_0 : decode cX5_cell 0 = .ok (.aload_n 0, 1) := by decide +kernel
theorem dX5_cell_1 : decode cX5_cell 1 = .ok (.getfield 36, 3) := by decide +kernel
theorem dX5_cell_4 : decode cX5_cell 4 = .ok (.iload_n 1, 1) := by decide +kernel
theorem dX5_cell_5 : decode cX5_cell 5 = .ok (.iadd, 1) := by decide +kernel
theorem dX5_cell_6 : decode cX5_cell 6 = .ok (.sipush 200, 3) := by decide +kernel
theorem dX5_cell_9 : decode cX5_cell 9 = .ok (.irem, 1) := by decide +kernel
theorem dX5_cell_10 : decode cX5_cell 10 = .ok (.bipush 8, 2) := by decide +kernel
theorem dX5_cell_12 : decode cX5_cell 12 = .ok (.imul, 1) := by decide +kernel
theorem dX5_cell_13 : decode cX5_cell 13 = .ok (.ireturn, 1) := by decide +kernel
def f_X5_cell (σ : HS) (a0 : Option Nat) (a1 : Int32) : Option (Int32 × HS) :=
  h_b1 (h_gI σ a0 6 1) fun x1 =>
  some ((((x1 + a1) - (x1 + a1) / 200 * 200) * 8), σ)
set_option maxHeartbeats 4000000 in
set_option maxRecDepth 100000 in
theorem m_X5_cell (l : Launch) (D : va_G) (dA : Nat → ClassId) (bs : Nat) {σ σ' : HS} {a0 : Option Nat} {a1 : Int32} {r : Int32} (h : f_X5_cell σ a0 a1 = some (r, σ')) : MetC l yX5_cell cX5_cell 2 (some .int) 0 0 D dA bs [va_rf a0, .int a1] (some (.int r)) σ σ' := by
  refine MetC.of (by decide) (h_avR (h_avI h_av0)) (Nat.le_of_ble_eq_true rfl) ?_
  intro p e R s m args below meth c C B hnm
  unfold f_X5_cell at h
  refine V_sub (lv' := [(0, va_rf a0), (1, .int a1)]) [0, 1] rfl ?_
  refine V_aload_n C 0 dX5_cell_0 rfl rfl ?_
  obtain ⟨x1, e2, h⟩ := h_b1_some h
  refine V_getI C fl_RX5_36 dX5_cell_1 e2 ?_
  refine V_iload_n C 1 dX5_cell_4 rfl rfl ?_
  refine V_iadd C dX5_cell_5 ?_
  refine V_sipush (v := 200) C dX5_cell_6 (by decide) ?_
  refine V_irem C dX5_cell_9 (by decide) ?_
  refine V_bipush (v := 8) C dX5_cell_10 (by decide) ?_
  refine V_imul C dX5_cell_12 ?_
  cases h
  exact V_iret C B dX5_cell_13
/-! X5_get -/
theorem dX5_get_0 : decode cX5_get 0 = .ok (.aload_n 0, 1) := by decide +kernel
theorem dX5_get_1 : decode cX5_get 1 = .ok (.getfield 11, 3) := by decide +kernel
theorem dX5_get_4 : decode cX5_get 4 = .ok (.aload_n 0, 1) := by decide +kernel
theorem dX5_get_5 : decode cX5_get 5 = .ok (.iload_n 1, 1) := by decide +kernel
theorem dX5_get_6 : decode cX5_get 6 = .ok (.invokevirtual 19, 3) := by decide +kernel
theorem dX5_get_9 : decode cX5_get 9 = .ok (.iload_n 2, 1) := by decide +kernel
theorem dX5_get_10 : decode cX5_get 10 = .ok (.iadd, 1) := by decide +kernel
theorem dX5_get_11 : decode cX5_get 11 = .ok (.iaload, 1) := by decide +kernel
theorem dX5_get_12 : decode cX5_get 12 = .ok (.ireturn, 1) := by decide +kernel
def f_X5_get (σ : HS) (a0 : Option Nat) (a1 : Int32) (a2 : Int32) : Option (Int32 × HS) :=
  h_b1 (h_gR σ a0 6 0) fun x1 =>
  h_b1 (h_rcv σ a0 6) fun y6 =>
  h_bd (f_X5_cell σ a0 a1) fun r3 s4 =>
  h_b1 (h_aI s4 x1 100 (r3 + a2)) fun x8 =>
  some (x8, s4)
set_option maxHeartbeats 4000000 in
set_option maxRecDepth 100000 in
theorem m_X5_get (l : Launch) (D : va_G) (dA : Nat → ClassId) (bs : Nat) {σ σ' : HS} {a0 : Option Nat} {a1 : Int32} {a2 : Int32} {r : Int32} (h : f_X5_get σ a0 a1 a2 = some (r, σ')) : MetC l yX5_get cX5_get 3 (some .int) 1 21 D dA bs [va_rf a0, .int a1, .int a2] (some (.int r)) σ σ' := by
  refine MetC.of (by decide) (h_avR (h_avI (h_avI h_av0))) (Nat.le_of_ble_eq_true rfl) ?_
  intro p e R s m args below meth c C B hnm
  unfold f_X5_get at h
  refine V_sub (lv' := [(0, va_rf a0), (1, .int a1), (2, .int a2)]) [0, 1, 2] rfl ?_
  refine V_aload_n C 0 dX5_get_0 rfl rfl ?_
  obtain ⟨x1, e2, h⟩ := h_b1_some h
  refine V_getR C fl_RX5_11 dX5_get_1 e2 ?_
  refine V_aload_n C 0 dX5_get_4 rfl rfl ?_
  refine V_iload_n C 1 dX5_get_5 rfl rfl ?_
  obtain ⟨y6, e7, h⟩ := h_b1_some h
  obtain ⟨r3, s4, e5, h⟩ := h_bd_some h
  refine V_cV (As := [.int a1]) (rest := [va_rf x1]) C mv_RX5_19 (m_X5_cell l D dA bs e5) e7 rfl rfl (Nat.le_trans (h_wR h_w0) (by decide)) (h_fr B (by decide)) (h_lo B (by decide)) dX5_get_6 ?_
  refine V_iload_n C 2 dX5_get_9 rfl rfl ?_
  refine V_iadd C dX5_get_10 ?_
  obtain ⟨x8, e9, h⟩ := h_b1_some h
  refine V_iald C dX5_get_11 e9 ?_
  cases h
  exact V_iret C B dX5_get_12
/-! X5_set -/
theorem dX5_set_0 : decode cX5_set 0 = .ok (.aload_n 0, 1) := by decide +kernel
theorem dX5_set_1 : decode cX5_set 1 = .ok (.getfield 11, 3) := by decide +kernel
theorem dX5_set_4 : decode cX5_set 4 = .ok (.aload_n 0, 1) := by decide +kernel
theorem dX5_set_5 : decode cX5_set 5 = .ok (.iload_n 1, 1) := by decide +kernel
theorem dX5_set_6 : decode cX5_set 6 = .ok (.invokevirtual 19, 3) := by decide +kernel
theorem dX5_set_9 : decode cX5_set 9 = .ok (.iload_n 2, 1) := by decide +kernel
theorem dX5_set_10 : decode cX5_set 10 = .ok (.iadd, 1) := by decide +kernel
theorem dX5_set_11 : decode cX5_set 11 = .ok (.iload_n 3, 1) := by decide +kernel
theorem dX5_set_12 : decode cX5_set 12 = .ok (.iastore, 1) := by decide +kernel
theorem dX5_set_13 : decode cX5_set 13 = .ok (.return_, 1) := by decide +kernel
def f_X5_set (σ : HS) (a0 : Option Nat) (a1 : Int32) (a2 : Int32) (a3 : Int32) : Option (Unit × HS) :=
  h_b1 (h_gR σ a0 6 0) fun x1 =>
  h_b1 (h_rcv σ a0 6) fun y6 =>
  h_bd (f_X5_cell σ a0 a1) fun r3 s4 =>
  h_b1 (h_sI s4 x1 100 (r3 + a2) a3) fun s8 =>
  some ((), s8)
set_option maxHeartbeats 4000000 in
set_option maxRecDepth 100000 in
theorem m_X5_set (l : Launch) (D : va_G) (dA : Nat → ClassId) (bs : Nat) {σ σ' : HS} {a0 : Option Nat} {a1 : Int32} {a2 : Int32} {a3 : Int32} (h : f_X5_set σ a0 a1 a2 a3 = some ((), σ')) : MetC l yX5_set cX5_set 4 none 1 21 D dA bs [va_rf a0, .int a1, .int a2, .int a3] none σ σ' := by
  refine MetC.of (by decide) (h_avR (h_avI (h_avI (h_avI h_av0)))) (Nat.le_of_ble_eq_true rfl) ?_
  intro p e R s m args below meth c C B hnm
  unfold f_X5_set at h
  refine V_sub (lv' := [(0, va_rf a0), (1, .int a1), (2, .int a2), (3, .int a3)]) [0, 1, 2, 3] rfl ?_
  refine V_aload_n C 0 dX5_set_0 rfl rfl ?_
  obtain ⟨x1, e2, h⟩ := h_b1_some h
  refine V_getR C fl_RX5_11 dX5_set_1 e2 ?_
  refine V_aload_n C 0 dX5_set_4 rfl rfl ?_
  refine V_iload_n C 1 dX5_set_5 rfl rfl ?_
  obtain ⟨y6, e7, h⟩ := h_b1_some h
  obtain ⟨r3, s4, e5, h⟩ := h_bd_some h
  refine V_cV (As := [.int a1]) (rest := [va_rf x1]) C mv_RX5_19 (m_X5_cell l D dA bs e5) e7 rfl rfl (Nat.le_trans (h_wR h_w0) (by decide)) (h_fr B (by decide)) (h_lo B (by decide)) dX5_set_6 ?_
  refine V_iload_n C 2 dX5_set_9 rfl rfl ?_
  refine V_iadd C dX5_set_10 ?_
  refine V_iload_n C 3 dX5_set_11 rfl rfl ?_
  obtain ⟨s8, e9, h⟩ := h_b1_some h
  refine V_iast C dX5_set_12 e9 ?_
  cases h
  exact V_vret C B dX5_set_13
end
