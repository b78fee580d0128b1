section
-- ===== PART A: goes FIRST, ahead of the names: the tables' words, and 'selects' of the private methods out of them =====
/-- a private method of a class that the tables say can be made, by its rows of tables_1 -/
def lw_okq (q : MethodName × Nat) : Prop := (q.1.cls ≠ "java/lang/invoke/MethodHandle" ∧ q.1.cls ≠ "java/lang/invoke/VarHandle") ∧ Cond.instantiable q.1.cls q.2 ∈ tables_1 ∧ Cond.privateMethod q.1 ∈ tables_1 ∧ Cond.instanceMethod q.1 ∈ tables_1
theorem lw_p0 : lw_okq (⟨"FurnitureVotes$Reader", "advance", "()V"⟩, 12) := ⟨⟨by decide +kernel, by decide +kernel⟩, List.mem_of_getElem? (i := 194) (by decide +kernel), List.mem_of_getElem? (i := 482) (by decide +kernel), List.mem_of_getElem? (i := 483) (by decide +kernel)⟩
theorem lw_p1 : lw_okq (⟨"FurnitureVotes$Reader", "takeDigits", "(I)V"⟩, 12) := ⟨⟨by decide +kernel, by decide +kernel⟩, List.mem_of_getElem? (i := 194) (by decide +kernel), List.mem_of_getElem? (i := 495) (by decide +kernel), List.mem_of_getElem? (i := 496) (by decide +kernel)⟩
theorem lw_p2 : lw_okq (⟨"FurnitureVotes$Reader", "readLine", "(I)V"⟩, 12) := ⟨⟨by decide +kernel, by decide +kernel⟩, List.mem_of_getElem? (i := 194) (by decide +kernel), List.mem_of_getElem? (i := 499) (by decide +kernel), List.mem_of_getElem? (i := 500) (by decide +kernel)⟩
theorem lw_p3 : lw_okq (⟨"FurnitureVotes$Reader", "headOf", "(I)I"⟩, 12) := ⟨⟨by decide +kernel, by decide +kernel⟩, List.mem_of_getElem? (i := 194) (by decide +kernel), List.mem_of_getElem? (i := 503) (by decide +kernel), List.mem_of_getElem? (i := 504) (by decide +kernel)⟩
theorem lw_p4 : lw_okq (⟨"FurnitureVotes$Reader", "wordAmong", "(Ljava/lang/String;)I"⟩, 12) := ⟨⟨by decide +kernel, by decide +kernel⟩, List.mem_of_getElem? (i := 194) (by decide +kernel), List.mem_of_getElem? (i := 508) (by decide +kernel), List.mem_of_getElem? (i := 509) (by decide +kernel)⟩
theorem lw_p5 : lw_okq (⟨"FurnitureVotes$Reader", "isSame", "(Ljava/lang/String;I)Z"⟩, 12) := ⟨⟨by decide +kernel, by decide +kernel⟩, List.mem_of_getElem? (i := 194) (by decide +kernel), List.mem_of_getElem? (i := 560) (by decide +kernel), List.mem_of_getElem? (i := 561) (by decide +kernel)⟩
theorem lw_p6 : lw_okq (⟨"FurnitureVotes$Reader", "refuse", "()V"⟩, 12) := ⟨⟨by decide +kernel, by decide +kernel⟩, List.mem_of_getElem? (i := 194) (by decide +kernel), List.mem_of_getElem? (i := 566) (by decide +kernel), List.mem_of_getElem? (i := 567) (by decide +kernel)⟩
theorem lw_p7 : lw_okq (⟨"FurnitureVotes$Reader", "isFull", "(I)Z"⟩, 12) := ⟨⟨by decide +kernel, by decide +kernel⟩, List.mem_of_getElem? (i := 194) (by decide +kernel), List.mem_of_getElem? (i := 571) (by decide +kernel), List.mem_of_getElem? (i := 572) (by decide +kernel)⟩
theorem lw_p8 : lw_okq (⟨"FurnitureVotes$Reader", "note", "(II)V"⟩, 12) := ⟨⟨by decide +kernel, by decide +kernel⟩, List.mem_of_getElem? (i := 194) (by decide +kernel), List.mem_of_getElem? (i := 575) (by decide +kernel), List.mem_of_getElem? (i := 576) (by decide +kernel)⟩
theorem lw_p9 : lw_okq (⟨"FurnitureVotes$Reader", "readNumbers", "(I)Z"⟩, 12) := ⟨⟨by decide +kernel, by decide +kernel⟩, List.mem_of_getElem? (i := 194) (by decide +kernel), List.mem_of_getElem? (i := 579) (by decide +kernel), List.mem_of_getElem? (i := 580) (by decide +kernel)⟩
theorem lw_p10 : lw_okq (⟨"FurnitureVotes$Reader", "addLine", "(II)V"⟩, 12) := ⟨⟨by decide +kernel, by decide +kernel⟩, List.mem_of_getElem? (i := 194) (by decide +kernel), List.mem_of_getElem? (i := 585) (by decide +kernel), List.mem_of_getElem? (i := 586) (by decide +kernel)⟩
theorem lw_p11 : lw_okq (⟨"FurnitureVotes$Told", "isThere", "(II)Z"⟩, 8) := ⟨⟨by decide +kernel, by decide +kernel⟩, List.mem_of_getElem? (i := 32) (by decide +kernel), List.mem_of_getElem? (i := 649) (by decide +kernel), List.mem_of_getElem? (i := 650) (by decide +kernel)⟩
theorem lw_p12 : lw_okq (⟨"FurnitureVotes$Chamber", "tellWhole", "(I)I"⟩, 11) := ⟨⟨by decide +kernel, by decide +kernel⟩, List.mem_of_getElem? (i := 43) (by decide +kernel), List.mem_of_getElem? (i := 657) (by decide +kernel), List.mem_of_getElem? (i := 658) (by decide +kernel)⟩
theorem lw_p13 : lw_okq (⟨"FurnitureVotes$Chamber", "tellPiece", "(II)I"⟩, 11) := ⟨⟨by decide +kernel, by decide +kernel⟩, List.mem_of_getElem? (i := 43) (by decide +kernel), List.mem_of_getElem? (i := 661) (by decide +kernel), List.mem_of_getElem? (i := 662) (by decide +kernel)⟩
theorem lw_p14 : lw_okq (⟨"FurnitureVotes$Chamber", "tellPerson", "(II)I"⟩, 11) := ⟨⟨by decide +kernel, by decide +kernel⟩, List.mem_of_getElem? (i := 43) (by decide +kernel), List.mem_of_getElem? (i := 665) (by decide +kernel), List.mem_of_getElem? (i := 666) (by decide +kernel)⟩
theorem lw_p15 : lw_okq (⟨"FurnitureVotes", "asked", "(II)LFurnitureVotes$Chamber;"⟩, 10) := ⟨⟨by decide +kernel, by decide +kernel⟩, List.mem_of_getElem? (i := 24) (by decide +kernel), List.mem_of_getElem? (i := 677) (by decide +kernel), List.mem_of_getElem? (i := 678) (by decide +kernel)⟩
def lw_privs_1 : List (MethodName × Nat) := [(⟨"FurnitureVotes$Reader", "advance", "()V"⟩, 12), (⟨"FurnitureVotes$Reader", "takeDigits", "(I)V"⟩, 12), (⟨"FurnitureVotes$Reader", "readLine", "(I)V"⟩, 12), (⟨"FurnitureVotes$Reader", "headOf", "(I)I"⟩, 12), (⟨"FurnitureVotes$Reader", "wordAmong", "(Ljava/lang/String;)I"⟩, 12), (⟨"FurnitureVotes$Reader", "isSame", "(Ljava/lang/String;I)Z"⟩, 12), (⟨"FurnitureVotes$Reader", "refuse", "()V"⟩, 12), (⟨"FurnitureVotes$Reader", "isFull", "(I)Z"⟩, 12), (⟨"FurnitureVotes$Reader", "note", "(II)V"⟩, 12), (⟨"FurnitureVotes$Reader", "readNumbers", "(I)Z"⟩, 12), (⟨"FurnitureVotes$Reader", "addLine", "(II)V"⟩, 12), (⟨"FurnitureVotes$Told", "isThere", "(II)Z"⟩, 8), (⟨"FurnitureVotes$Chamber", "tellWhole", "(I)I"⟩, 11), (⟨"FurnitureVotes$Chamber", "tellPiece", "(II)I"⟩, 11), (⟨"FurnitureVotes$Chamber", "tellPerson", "(II)I"⟩, 11), (⟨"FurnitureVotes", "asked", "(II)LFurnitureVotes$Chamber;"⟩, 10)]
theorem lw_r1 : ∀ q ∈ lw_privs_1, lw_okq q := List.forall_mem_cons.mpr ⟨lw_p0, List.forall_mem_cons.mpr ⟨lw_p1, List.forall_mem_cons.mpr ⟨lw_p2, List.forall_mem_cons.mpr ⟨lw_p3, List.forall_mem_cons.mpr ⟨lw_p4, List.forall_mem_cons.mpr ⟨lw_p5, List.forall_mem_cons.mpr ⟨lw_p6, List.forall_mem_cons.mpr ⟨lw_p7, List.forall_mem_cons.mpr ⟨lw_p8, List.forall_mem_cons.mpr ⟨lw_p9, List.forall_mem_cons.mpr ⟨lw_p10, List.forall_mem_cons.mpr ⟨lw_p11, List.forall_mem_cons.mpr ⟨lw_p12, List.forall_mem_cons.mpr ⟨lw_p13, List.forall_mem_cons.mpr ⟨lw_p14, List.forall_mem_cons.mpr ⟨lw_p15, fun _ h => absurd h List.not_mem_nil⟩⟩⟩⟩⟩⟩⟩⟩⟩⟩⟩⟩⟩⟩⟩⟩
theorem lw_p16 : lw_okq (⟨"FurnitureVotes$Hall", "putLoad", "(II)V"⟩, 7) := ⟨⟨by decide +kernel, by decide +kernel⟩, List.mem_of_getElem? (i := 249) (by decide +kernel), List.mem_of_getElem? (i := 692) (by decide +kernel), List.mem_of_getElem? (i := 693) (by decide +kernel)⟩
theorem lw_p17 : lw_okq (⟨"FurnitureVotes$Hall", "says", "(II)I"⟩, 7) := ⟨⟨by decide +kernel, by decide +kernel⟩, List.mem_of_getElem? (i := 249) (by decide +kernel), List.mem_of_getElem? (i := 705) (by decide +kernel), List.mem_of_getElem? (i := 706) (by decide +kernel)⟩
theorem lw_p18 : lw_okq (⟨"FurnitureVotes$Course", "begin", "(LFurnitureVotes$Chamber;)V"⟩, 8) := ⟨⟨by decide +kernel, by decide +kernel⟩, List.mem_of_getElem? (i := 297) (by decide +kernel), List.mem_of_getElem? (i := 741) (by decide +kernel), List.mem_of_getElem? (i := 742) (by decide +kernel)⟩
theorem lw_p19 : lw_okq (⟨"FurnitureVotes$Course", "does", "(III)Z"⟩, 8) := ⟨⟨by decide +kernel, by decide +kernel⟩, List.mem_of_getElem? (i := 297) (by decide +kernel), List.mem_of_getElem? (i := 747) (by decide +kernel), List.mem_of_getElem? (i := 748) (by decide +kernel)⟩
theorem lw_p20 : lw_okq (⟨"FurnitureVotes$Course", "putMotion", "(I)V"⟩, 8) := ⟨⟨by decide +kernel, by decide +kernel⟩, List.mem_of_getElem? (i := 297) (by decide +kernel), List.mem_of_getElem? (i := 751) (by decide +kernel), List.mem_of_getElem? (i := 752) (by decide +kernel)⟩
theorem lw_p21 : lw_okq (⟨"FurnitureVotes$Course", "standsUp", "(I)Z"⟩, 8) := ⟨⟨by decide +kernel, by decide +kernel⟩, List.mem_of_getElem? (i := 297) (by decide +kernel), List.mem_of_getElem? (i := 766) (by decide +kernel), List.mem_of_getElem? (i := 767) (by decide +kernel)⟩
theorem lw_p22 : lw_okq (⟨"FurnitureVotes$Course", "takesWax", "(I)Z"⟩, 8) := ⟨⟨by decide +kernel, by decide +kernel⟩, List.mem_of_getElem? (i := 297) (by decide +kernel), List.mem_of_getElem? (i := 772) (by decide +kernel), List.mem_of_getElem? (i := 773) (by decide +kernel)⟩
theorem lw_p23 : lw_okq (⟨"FurnitureVotes$Course", "isSetUp", "(I)Z"⟩, 8) := ⟨⟨by decide +kernel, by decide +kernel⟩, List.mem_of_getElem? (i := 297) (by decide +kernel), List.mem_of_getElem? (i := 777) (by decide +kernel), List.mem_of_getElem? (i := 778) (by decide +kernel)⟩
theorem lw_p24 : lw_okq (⟨"FurnitureVotes$Course", "sitsDown", "(II)Z"⟩, 8) := ⟨⟨by decide +kernel, by decide +kernel⟩, List.mem_of_getElem? (i := 297) (by decide +kernel), List.mem_of_getElem? (i := 782) (by decide +kernel), List.mem_of_getElem? (i := 783) (by decide +kernel)⟩
theorem lw_p25 : lw_okq (⟨"FurnitureVotes$Course", "changesDamp", "(I)Z"⟩, 8) := ⟨⟨by decide +kernel, by decide +kernel⟩, List.mem_of_getElem? (i := 297) (by decide +kernel), List.mem_of_getElem? (i := 786) (by decide +kernel), List.mem_of_getElem? (i := 787) (by decide +kernel)⟩
theorem lw_p26 : lw_okq (⟨"FurnitureVotes$Course", "tellOne", "(II)I"⟩, 8) := ⟨⟨by decide +kernel, by decide +kernel⟩, List.mem_of_getElem? (i := 297) (by decide +kernel), List.mem_of_getElem? (i := 804) (by decide +kernel), List.mem_of_getElem? (i := 805) (by decide +kernel)⟩
theorem lw_p27 : lw_okq (⟨"FurnitureVotes$Seating", "keepLeastRow", "()V"⟩, 3) := ⟨⟨by decide +kernel, by decide +kernel⟩, List.mem_of_getElem? (i := 351) (by decide +kernel), List.mem_of_getElem? (i := 840) (by decide +kernel), List.mem_of_getElem? (i := 841) (by decide +kernel)⟩
theorem lw_p28 : lw_okq (⟨"FurnitureVotes$Seating", "tryMoving", "(II)V"⟩, 3) := ⟨⟨by decide +kernel, by decide +kernel⟩, List.mem_of_getElem? (i := 351) (by decide +kernel), List.mem_of_getElem? (i := 845) (by decide +kernel), List.mem_of_getElem? (i := 846) (by decide +kernel)⟩
theorem lw_p29 : lw_okq (⟨"FurnitureVotes$Seating", "tryMovingTwo", "(II)V"⟩, 3) := ⟨⟨by decide +kernel, by decide +kernel⟩, List.mem_of_getElem? (i := 351) (by decide +kernel), List.mem_of_getElem? (i := 854) (by decide +kernel), List.mem_of_getElem? (i := 855) (by decide +kernel)⟩
theorem lw_p30 : lw_okq (⟨"FurnitureVotes$Joinery", "waxFurther", "(IZIII)Z"⟩, 2) := ⟨⟨by decide +kernel, by decide +kernel⟩, List.mem_of_getElem? (i := 370) (by decide +kernel), List.mem_of_getElem? (i := 867) (by decide +kernel), List.mem_of_getElem? (i := 868) (by decide +kernel)⟩
theorem lw_p31 : lw_okq (⟨"FurnitureVotes$Joinery", "endsCarriedBy", "(IIIZ)Z"⟩, 2) := ⟨⟨by decide +kernel, by decide +kernel⟩, List.mem_of_getElem? (i := 370) (by decide +kernel), List.mem_of_getElem? (i := 898) (by decide +kernel), List.mem_of_getElem? (i := 899) (by decide +kernel)⟩
def lw_privs_2 : List (MethodName × Nat) := [(⟨"FurnitureVotes$Hall", "putLoad", "(II)V"⟩, 7), (⟨"FurnitureVotes$Hall", "says", "(II)I"⟩, 7), (⟨"FurnitureVotes$Course", "begin", "(LFurnitureVotes$Chamber;)V"⟩, 8), (⟨"FurnitureVotes$Course", "does", "(III)Z"⟩, 8), (⟨"FurnitureVotes$Course", "putMotion", "(I)V"⟩, 8), (⟨"FurnitureVotes$Course", "standsUp", "(I)Z"⟩, 8), (⟨"FurnitureVotes$Course", "takesWax", "(I)Z"⟩, 8), (⟨"FurnitureVotes$Course", "isSetUp", "(I)Z"⟩, 8), (⟨"FurnitureVotes$Course", "sitsDown", "(II)Z"⟩, 8), (⟨"FurnitureVotes$Course", "changesDamp", "(I)Z"⟩, 8), (⟨"FurnitureVotes$Course", "tellOne", "(II)I"⟩, 8), (⟨"FurnitureVotes$Seating", "keepLeastRow", "()V"⟩, 3), (⟨"FurnitureVotes$Seating", "tryMoving", "(II)V"⟩, 3), (⟨"FurnitureVotes$Seating", "tryMovingTwo", "(II)V"⟩, 3), (⟨"FurnitureVotes$Joinery", "waxFurther", "(IZIII)Z"⟩, 2), (⟨"FurnitureVotes$Joinery", "endsCarriedBy", "(IIIZ)Z"⟩, 2)]
theorem lw_r2 : ∀ q ∈ lw_privs_2, lw_okq q := List.forall_mem_cons.mpr ⟨lw_p16, List.forall_mem_cons.mpr ⟨lw_p17, List.forall_mem_cons.mpr ⟨lw_p18, List.forall_mem_cons.mpr ⟨lw_p19, List.forall_mem_cons.mpr ⟨lw_p20, List.forall_mem_cons.mpr ⟨lw_p21, List.forall_mem_cons.mpr ⟨lw_p22, List.forall_mem_cons.mpr ⟨lw_p23, List.forall_mem_cons.mpr ⟨lw_p24, List.forall_mem_cons.mpr ⟨lw_p25, List.forall_mem_cons.mpr ⟨lw_p26, List.forall_mem_cons.mpr ⟨lw_p27, List.forall_mem_cons.mpr ⟨lw_p28, List.forall_mem_cons.mpr ⟨lw_p29, List.forall_mem_cons.mpr ⟨lw_p30, List.forall_mem_cons.mpr ⟨lw_p31, fun _ h => absurd h List.not_mem_nil⟩⟩⟩⟩⟩⟩⟩⟩⟩⟩⟩⟩⟩⟩⟩⟩
theorem lw_p32 : lw_okq (⟨"FurnitureVotes$Joinery", "endsCarried", "(IIZ)Z"⟩, 2) := ⟨⟨by decide +kernel, by decide +kernel⟩, List.mem_of_getElem? (i := 370) (by decide +kernel), List.mem_of_getElem? (i := 903) (by decide +kernel), List.mem_of_getElem? (i := 904) (by decide +kernel)⟩
theorem lw_p33 : lw_okq (⟨"FurnitureVotes$Powers", "countSwings", "(I)I"⟩, 6) := ⟨⟨by decide +kernel, by decide +kernel⟩, List.mem_of_getElem? (i := 386) (by decide +kernel), List.mem_of_getElem? (i := 923) (by decide +kernel), List.mem_of_getElem? (i := 924) (by decide +kernel)⟩
theorem lw_p34 : lw_okq (⟨"FurnitureVotes$Powers", "isSwing", "(II)Z"⟩, 6) := ⟨⟨by decide +kernel, by decide +kernel⟩, List.mem_of_getElem? (i := 386) (by decide +kernel), List.mem_of_getElem? (i := 927) (by decide +kernel), List.mem_of_getElem? (i := 928) (by decide +kernel)⟩
theorem lw_p35 : lw_okq (⟨"FurnitureVotes$Powers", "wins", "(I)Z"⟩, 6) := ⟨⟨by decide +kernel, by decide +kernel⟩, List.mem_of_getElem? (i := 386) (by decide +kernel), List.mem_of_getElem? (i := 931) (by decide +kernel), List.mem_of_getElem? (i := 932) (by decide +kernel)⟩
theorem lw_p36 : lw_okq (⟨"FurnitureVotes$Verdicts", "passDay", "(I)V"⟩, 3) := ⟨⟨by decide +kernel, by decide +kernel⟩, List.mem_of_getElem? (i := 332) (by decide +kernel), List.mem_of_getElem? (i := 965) (by decide +kernel), List.mem_of_getElem? (i := 966) (by decide +kernel)⟩
theorem lw_p37 : lw_okq (⟨"FurnitureVotes$Log", "soundingAt", "(III)I"⟩, 5) := ⟨⟨by decide +kernel, by decide +kernel⟩, List.mem_of_getElem? (i := 140) (by decide +kernel), List.mem_of_getElem? (i := 1034) (by decide +kernel), List.mem_of_getElem? (i := 1035) (by decide +kernel)⟩
theorem lw_p38 : lw_okq (⟨"FurnitureVotes$Course", "drawDeed", "()V"⟩, 8) := ⟨⟨by decide +kernel, by decide +kernel⟩, List.mem_of_getElem? (i := 297) (by decide +kernel), List.mem_of_getElem? (i := 1046) (by decide +kernel), List.mem_of_getElem? (i := 1047) (by decide +kernel)⟩
theorem lw_p39 : lw_okq (⟨"FurnitureVotes$Course", "drawBelow", "(I)I"⟩, 8) := ⟨⟨by decide +kernel, by decide +kernel⟩, List.mem_of_getElem? (i := 297) (by decide +kernel), List.mem_of_getElem? (i := 1050) (by decide +kernel), List.mem_of_getElem? (i := 1051) (by decide +kernel)⟩
theorem lw_p40 : lw_okq (⟨"FurnitureVotes$Course", "drawSitting", "(II)V"⟩, 8) := ⟨⟨by decide +kernel, by decide +kernel⟩, List.mem_of_getElem? (i := 297) (by decide +kernel), List.mem_of_getElem? (i := 1055) (by decide +kernel), List.mem_of_getElem? (i := 1056) (by decide +kernel)⟩
theorem lw_p41 : lw_okq (⟨"FurnitureVotes", "askedOf", "(III)LFurnitureVotes$Chamber;"⟩, 10) := ⟨⟨by decide +kernel, by decide +kernel⟩, List.mem_of_getElem? (i := 24) (by decide +kernel), List.mem_of_getElem? (i := 1063) (by decide +kernel), List.mem_of_getElem? (i := 1064) (by decide +kernel)⟩
theorem lw_p42 : lw_okq (⟨"FurnitureVotes$Seating", "seatBest", "(II)I"⟩, 3) := ⟨⟨by decide +kernel, by decide +kernel⟩, List.mem_of_getElem? (i := 351) (by decide +kernel), List.mem_of_getElem? (i := 1125) (by decide +kernel), List.mem_of_getElem? (i := 1126) (by decide +kernel)⟩
theorem lw_p43 : lw_okq (⟨"FurnitureVotes$Joinery", "makeOaken", "(LFurnitureVotes$Chamber;I)V"⟩, 2) := ⟨⟨by decide +kernel, by decide +kernel⟩, List.mem_of_getElem? (i := 370) (by decide +kernel), List.mem_of_getElem? (i := 1223) (by decide +kernel), List.mem_of_getElem? (i := 1224) (by decide +kernel)⟩
theorem lw_p44 : lw_okq (⟨"FurnitureVotesModel", "isOf", "(II)Z"⟩, 35) := ⟨⟨by decide +kernel, by decide +kernel⟩, List.mem_of_getElem? (i := 1276) (by decide +kernel), List.mem_of_getElem? (i := 1403) (by decide +kernel), List.mem_of_getElem? (i := 1404) (by decide +kernel)⟩
theorem lw_p45 : lw_okq (⟨"FurnitureVotesModel", "advance", "()V"⟩, 35) := ⟨⟨by decide +kernel, by decide +kernel⟩, List.mem_of_getElem? (i := 1276) (by decide +kernel), List.mem_of_getElem? (i := 1407) (by decide +kernel), List.mem_of_getElem? (i := 1408) (by decide +kernel)⟩
theorem lw_p46 : lw_okq (⟨"FurnitureVotesModel", "byteAt", "(I)I"⟩, 35) := ⟨⟨by decide +kernel, by decide +kernel⟩, List.mem_of_getElem? (i := 1276) (by decide +kernel), List.mem_of_getElem? (i := 1411) (by decide +kernel), List.mem_of_getElem? (i := 1412) (by decide +kernel)⟩
theorem lw_p47 : lw_okq (⟨"FurnitureVotesModel", "chamberLine", "()V"⟩, 35) := ⟨⟨by decide +kernel, by decide +kernel⟩, List.mem_of_getElem? (i := 1276) (by decide +kernel), List.mem_of_getElem? (i := 1433) (by decide +kernel), List.mem_of_getElem? (i := 1434) (by decide +kernel)⟩
def lw_privs_3 : List (MethodName × Nat) := [(⟨"FurnitureVotes$Joinery", "endsCarried", "(IIZ)Z"⟩, 2), (⟨"FurnitureVotes$Powers", "countSwings", "(I)I"⟩, 6), (⟨"FurnitureVotes$Powers", "isSwing", "(II)Z"⟩, 6), (⟨"FurnitureVotes$Powers", "wins", "(I)Z"⟩, 6), (⟨"FurnitureVotes$Verdicts", "passDay", "(I)V"⟩, 3), (⟨"FurnitureVotes$Log", "soundingAt", "(III)I"⟩, 5), (⟨"FurnitureVotes$Course", "drawDeed", "()V"⟩, 8), (⟨"FurnitureVotes$Course", "drawBelow", "(I)I"⟩, 8), (⟨"FurnitureVotes$Course", "drawSitting", "(II)V"⟩, 8), (⟨"FurnitureVotes", "askedOf", "(III)LFurnitureVotes$Chamber;"⟩, 10), (⟨"FurnitureVotes$Seating", "seatBest", "(II)I"⟩, 3), (⟨"FurnitureVotes$Joinery", "makeOaken", "(LFurnitureVotes$Chamber;I)V"⟩, 2), (⟨"FurnitureVotesModel", "isOf", "(II)Z"⟩, 35), (⟨"FurnitureVotesModel", "advance", "()V"⟩, 35), (⟨"FurnitureVotesModel", "byteAt", "(I)I"⟩, 35), (⟨"FurnitureVotesModel", "chamberLine", "()V"⟩, 35)]
theorem lw_r3 : ∀ q ∈ lw_privs_3, lw_okq q := List.forall_mem_cons.mpr ⟨lw_p32, List.forall_mem_cons.mpr ⟨lw_p33, List.forall_mem_cons.mpr ⟨lw_p34, List.forall_mem_cons.mpr ⟨lw_p35, List.forall_mem_cons.mpr ⟨lw_p36, List.forall_mem_cons.mpr ⟨lw_p37, List.forall_mem_cons.mpr ⟨lw_p38, List.forall_mem_cons.mpr ⟨lw_p39, List.forall_mem_cons.mpr ⟨lw_p40, List.forall_mem_cons.mpr ⟨lw_p41, List.forall_mem_cons.mpr ⟨lw_p42, List.forall_mem_cons.mpr ⟨lw_p43, List.forall_mem_cons.mpr ⟨lw_p44, List.forall_mem_cons.mpr ⟨lw_p45, List.forall_mem_cons.mpr ⟨lw_p46, List.forall_mem_cons.mpr ⟨lw_p47, fun _ h => absurd h List.not_mem_nil⟩⟩⟩⟩⟩⟩⟩⟩⟩⟩⟩⟩⟩⟩⟩⟩
theorem lw_p48 : lw_okq (⟨"FurnitureVotesModel", "wordIn", "(II)I"⟩, 35) := ⟨⟨by decide +kernel, by decide +kernel⟩, List.mem_of_getElem? (i := 1276) (by decide +kernel), List.mem_of_getElem? (i := 1437) (by decide +kernel), List.mem_of_getElem? (i := 1438) (by decide +kernel)⟩
theorem lw_p49 : lw_okq (⟨"FurnitureVotesModel", "ends", "()V"⟩, 35) := ⟨⟨by decide +kernel, by decide +kernel⟩, List.mem_of_getElem? (i := 1276) (by decide +kernel), List.mem_of_getElem? (i := 1441) (by decide +kernel), List.mem_of_getElem? (i := 1442) (by decide +kernel)⟩
theorem lw_p50 : lw_okq (⟨"FurnitureVotesModel", "personLine", "(IZ)V"⟩, 35) := ⟨⟨by decide +kernel, by decide +kernel⟩, List.mem_of_getElem? (i := 1276) (by decide +kernel), List.mem_of_getElem? (i := 1445) (by decide +kernel), List.mem_of_getElem? (i := 1446) (by decide +kernel)⟩
theorem lw_p51 : lw_okq (⟨"FurnitureVotesModel", "also", "(II)V"⟩, 35) := ⟨⟨by decide +kernel, by decide +kernel⟩, List.mem_of_getElem? (i := 1276) (by decide +kernel), List.mem_of_getElem? (i := 1449) (by decide +kernel), List.mem_of_getElem? (i := 1450) (by decide +kernel)⟩
theorem lw_p52 : lw_okq (⟨"FurnitureVotesModel", "numbered", "(II)I"⟩, 35) := ⟨⟨by decide +kernel, by decide +kernel⟩, List.mem_of_getElem? (i := 1276) (by decide +kernel), List.mem_of_getElem? (i := 1453) (by decide +kernel), List.mem_of_getElem? (i := 1454) (by decide +kernel)⟩
theorem lw_p53 : lw_okq (⟨"FurnitureVotesModel", "pieceLine", "(II)V"⟩, 35) := ⟨⟨by decide +kernel, by decide +kernel⟩, List.mem_of_getElem? (i := 1276) (by decide +kernel), List.mem_of_getElem? (i := 1457) (by decide +kernel), List.mem_of_getElem? (i := 1458) (by decide +kernel)⟩
theorem lw_p54 : lw_okq (⟨"FurnitureVotesModel", "endsLine", "()V"⟩, 35) := ⟨⟨by decide +kernel, by decide +kernel⟩, List.mem_of_getElem? (i := 1276) (by decide +kernel), List.mem_of_getElem? (i := 1461) (by decide +kernel), List.mem_of_getElem? (i := 1462) (by decide +kernel)⟩
theorem lw_p55 : lw_okq (⟨"FurnitureVotesModel", "sessionLine", "()V"⟩, 35) := ⟨⟨by decide +kernel, by decide +kernel⟩, List.mem_of_getElem? (i := 1276) (by decide +kernel), List.mem_of_getElem? (i := 1465) (by decide +kernel), List.mem_of_getElem? (i := 1466) (by decide +kernel)⟩
theorem lw_p56 : lw_okq (⟨"FurnitureVotesModel", "logLine", "()V"⟩, 35) := ⟨⟨by decide +kernel, by decide +kernel⟩, List.mem_of_getElem? (i := 1276) (by decide +kernel), List.mem_of_getElem? (i := 1469) (by decide +kernel), List.mem_of_getElem? (i := 1470) (by decide +kernel)⟩
theorem lw_p57 : lw_okq (⟨"FurnitureVotesModel", "isChamber", "(I)Z"⟩, 35) := ⟨⟨by decide +kernel, by decide +kernel⟩, List.mem_of_getElem? (i := 1276) (by decide +kernel), List.mem_of_getElem? (i := 1487) (by decide +kernel), List.mem_of_getElem? (i := 1488) (by decide +kernel)⟩
theorem lw_p58 : lw_okq (⟨"FurnitureVotesModel", "isPiece", "(I)Z"⟩, 35) := ⟨⟨by decide +kernel, by decide +kernel⟩, List.mem_of_getElem? (i := 1276) (by decide +kernel), List.mem_of_getElem? (i := 1491) (by decide +kernel), List.mem_of_getElem? (i := 1492) (by decide +kernel)⟩
theorem lw_p59 : lw_okq (⟨"FurnitureVotesModel", "of", "(II)I"⟩, 35) := ⟨⟨by decide +kernel, by decide +kernel⟩, List.mem_of_getElem? (i := 1276) (by decide +kernel), List.mem_of_getElem? (i := 1495) (by decide +kernel), List.mem_of_getElem? (i := 1496) (by decide +kernel)⟩
theorem lw_p60 : lw_okq (⟨"FurnitureVotesModel", "isPerson", "(I)Z"⟩, 35) := ⟨⟨by decide +kernel, by decide +kernel⟩, List.mem_of_getElem? (i := 1276) (by decide +kernel), List.mem_of_getElem? (i := 1499) (by decide +kernel), List.mem_of_getElem? (i := 1500) (by decide +kernel)⟩
theorem lw_p61 : lw_okq (⟨"FurnitureVotesModel", "ofPerson", "(II)I"⟩, 35) := ⟨⟨by decide +kernel, by decide +kernel⟩, List.mem_of_getElem? (i := 1276) (by decide +kernel), List.mem_of_getElem? (i := 1503) (by decide +kernel), List.mem_of_getElem? (i := 1504) (by decide +kernel)⟩
theorem lw_p62 : lw_okq (⟨"FurnitureVotesModel", "asTold", "()V"⟩, 35) := ⟨⟨by decide +kernel, by decide +kernel⟩, List.mem_of_getElem? (i := 1276) (by decide +kernel), List.mem_of_getElem? (i := 1514) (by decide +kernel), List.mem_of_getElem? (i := 1515) (by decide +kernel)⟩
theorem lw_p63 : lw_okq (⟨"FurnitureVotesModel", "answers", "(I)Z"⟩, 35) := ⟨⟨by decide +kernel, by decide +kernel⟩, List.mem_of_getElem? (i := 1276) (by decide +kernel), List.mem_of_getElem? (i := 1518) (by decide +kernel), List.mem_of_getElem? (i := 1519) (by decide +kernel)⟩
def lw_privs_4 : List (MethodName × Nat) := [(⟨"FurnitureVotesModel", "wordIn", "(II)I"⟩, 35), (⟨"FurnitureVotesModel", "ends", "()V"⟩, 35), (⟨"FurnitureVotesModel", "personLine", "(IZ)V"⟩, 35), (⟨"FurnitureVotesModel", "also", "(II)V"⟩, 35), (⟨"FurnitureVotesModel", "numbered", "(II)I"⟩, 35), (⟨"FurnitureVotesModel", "pieceLine", "(II)V"⟩, 35), (⟨"FurnitureVotesModel", "endsLine", "()V"⟩, 35), (⟨"FurnitureVotesModel", "sessionLine", "()V"⟩, 35), (⟨"FurnitureVotesModel", "logLine", "()V"⟩, 35), (⟨"FurnitureVotesModel", "isChamber", "(I)Z"⟩, 35), (⟨"FurnitureVotesModel", "isPiece", "(I)Z"⟩, 35), (⟨"FurnitureVotesModel", "of", "(II)I"⟩, 35), (⟨"FurnitureVotesModel", "isPerson", "(I)Z"⟩, 35), (⟨"FurnitureVotesModel", "ofPerson", "(II)I"⟩, 35), (⟨"FurnitureVotesModel", "asTold", "()V"⟩, 35), (⟨"FurnitureVotesModel", "answers", "(I)Z"⟩, 35)]
theorem lw_r4 : ∀ q ∈ lw_privs_4, lw_okq q := List.forall_mem_cons.mpr ⟨lw_p48, List.forall_mem_cons.mpr ⟨lw_p49, List.forall_mem_cons.mpr ⟨lw_p50, List.forall_mem_cons.mpr ⟨lw_p51, List.forall_mem_cons.mpr ⟨lw_p52, List.forall_mem_cons.mpr ⟨lw_p53, List.forall_mem_cons.mpr ⟨lw_p54, List.forall_mem_cons.mpr ⟨lw_p55, List.forall_mem_cons.mpr ⟨lw_p56, List.forall_mem_cons.mpr ⟨lw_p57, List.forall_mem_cons.mpr ⟨lw_p58, List.forall_mem_cons.mpr ⟨lw_p59, List.forall_mem_cons.mpr ⟨lw_p60, List.forall_mem_cons.mpr ⟨lw_p61, List.forall_mem_cons.mpr ⟨lw_p62, List.forall_mem_cons.mpr ⟨lw_p63, fun _ h => absurd h List.not_mem_nil⟩⟩⟩⟩⟩⟩⟩⟩⟩⟩⟩⟩⟩⟩⟩⟩
theorem lw_p64 : lw_okq (⟨"FurnitureVotesModel", "saysOf", "(II)I"⟩, 35) := ⟨⟨by decide +kernel, by decide +kernel⟩, List.mem_of_getElem? (i := 1276) (by decide +kernel), List.mem_of_getElem? (i := 1522) (by decide +kernel), List.mem_of_getElem? (i := 1523) (by decide +kernel)⟩
theorem lw_p65 : lw_okq (⟨"FurnitureVotesModel", "loudOf", "(II)I"⟩, 35) := ⟨⟨by decide +kernel, by decide +kernel⟩, List.mem_of_getElem? (i := 1276) (by decide +kernel), List.mem_of_getElem? (i := 1529) (by decide +kernel), List.mem_of_getElem? (i := 1530) (by decide +kernel)⟩
theorem lw_p66 : lw_okq (⟨"FurnitureVotesModel", "loadOf", "(I)I"⟩, 35) := ⟨⟨by decide +kernel, by decide +kernel⟩, List.mem_of_getElem? (i := 1276) (by decide +kernel), List.mem_of_getElem? (i := 1533) (by decide +kernel), List.mem_of_getElem? (i := 1534) (by decide +kernel)⟩
theorem lw_p67 : lw_okq (⟨"FurnitureVotesModel", "isSession", "(I)Z"⟩, 35) := ⟨⟨by decide +kernel, by decide +kernel⟩, List.mem_of_getElem? (i := 1276) (by decide +kernel), List.mem_of_getElem? (i := 1544) (by decide +kernel), List.mem_of_getElem? (i := 1545) (by decide +kernel)⟩
theorem lw_p68 : lw_okq (⟨"FurnitureVotesModel", "runs", "(I)V"⟩, 35) := ⟨⟨by decide +kernel, by decide +kernel⟩, List.mem_of_getElem? (i := 1276) (by decide +kernel), List.mem_of_getElem? (i := 1552) (by decide +kernel), List.mem_of_getElem? (i := 1553) (by decide +kernel)⟩
theorem lw_p69 : lw_okq (⟨"FurnitureVotesModel", "begins", "()V"⟩, 35) := ⟨⟨by decide +kernel, by decide +kernel⟩, List.mem_of_getElem? (i := 1276) (by decide +kernel), List.mem_of_getElem? (i := 1556) (by decide +kernel), List.mem_of_getElem? (i := 1557) (by decide +kernel)⟩
theorem lw_p70 : lw_okq (⟨"FurnitureVotesModel", "does", "(III)Z"⟩, 35) := ⟨⟨by decide +kernel, by decide +kernel⟩, List.mem_of_getElem? (i := 1276) (by decide +kernel), List.mem_of_getElem? (i := 1560) (by decide +kernel), List.mem_of_getElem? (i := 1561) (by decide +kernel)⟩
theorem lw_p71 : lw_okq (⟨"FurnitureVotesModel", "puts", "(I)V"⟩, 35) := ⟨⟨by decide +kernel, by decide +kernel⟩, List.mem_of_getElem? (i := 1276) (by decide +kernel), List.mem_of_getElem? (i := 1564) (by decide +kernel), List.mem_of_getElem? (i := 1565) (by decide +kernel)⟩
theorem lw_p72 : lw_okq (⟨"FurnitureVotesModel", "stands", "(I)Z"⟩, 35) := ⟨⟨by decide +kernel, by decide +kernel⟩, List.mem_of_getElem? (i := 1276) (by decide +kernel), List.mem_of_getElem? (i := 1568) (by decide +kernel), List.mem_of_getElem? (i := 1569) (by decide +kernel)⟩
theorem lw_p73 : lw_okq (⟨"FurnitureVotesModel", "waxes", "(I)Z"⟩, 35) := ⟨⟨by decide +kernel, by decide +kernel⟩, List.mem_of_getElem? (i := 1276) (by decide +kernel), List.mem_of_getElem? (i := 1572) (by decide +kernel), List.mem_of_getElem? (i := 1573) (by decide +kernel)⟩
theorem lw_p74 : lw_okq (⟨"FurnitureVotesModel", "sets", "(I)Z"⟩, 35) := ⟨⟨by decide +kernel, by decide +kernel⟩, List.mem_of_getElem? (i := 1276) (by decide +kernel), List.mem_of_getElem? (i := 1576) (by decide +kernel), List.mem_of_getElem? (i := 1577) (by decide +kernel)⟩
theorem lw_p75 : lw_okq (⟨"FurnitureVotesModel", "sits", "(II)Z"⟩, 35) := ⟨⟨by decide +kernel, by decide +kernel⟩, List.mem_of_getElem? (i := 1276) (by decide +kernel), List.mem_of_getElem? (i := 1580) (by decide +kernel), List.mem_of_getElem? (i := 1581) (by decide +kernel)⟩
theorem lw_p76 : lw_okq (⟨"FurnitureVotesModel", "dampens", "(I)Z"⟩, 35) := ⟨⟨by decide +kernel, by decide +kernel⟩, List.mem_of_getElem? (i := 1276) (by decide +kernel), List.mem_of_getElem? (i := 1584) (by decide +kernel), List.mem_of_getElem? (i := 1585) (by decide +kernel)⟩
theorem lw_p77 : lw_okq (⟨"FurnitureVotesModel", "sleeps", "()V"⟩, 35) := ⟨⟨by decide +kernel, by decide +kernel⟩, List.mem_of_getElem? (i := 1276) (by decide +kernel), List.mem_of_getElem? (i := 1588) (by decide +kernel), List.mem_of_getElem? (i := 1589) (by decide +kernel)⟩
theorem lw_p78 : lw_okq (⟨"FurnitureVotesModel", "nowOf", "(I)I"⟩, 35) := ⟨⟨by decide +kernel, by decide +kernel⟩, List.mem_of_getElem? (i := 1276) (by decide +kernel), List.mem_of_getElem? (i := 1596) (by decide +kernel), List.mem_of_getElem? (i := 1597) (by decide +kernel)⟩
theorem lw_p79 : lw_okq (⟨"FurnitureVotesModel", "movers", "(I)I"⟩, 35) := ⟨⟨by decide +kernel, by decide +kernel⟩, List.mem_of_getElem? (i := 1276) (by decide +kernel), List.mem_of_getElem? (i := 1616) (by decide +kernel), List.mem_of_getElem? (i := 1617) (by decide +kernel)⟩
def lw_privs_5 : List (MethodName × Nat) := [(⟨"FurnitureVotesModel", "saysOf", "(II)I"⟩, 35), (⟨"FurnitureVotesModel", "loudOf", "(II)I"⟩, 35), (⟨"FurnitureVotesModel", "loadOf", "(I)I"⟩, 35), (⟨"FurnitureVotesModel", "isSession", "(I)Z"⟩, 35), (⟨"FurnitureVotesModel", "runs", "(I)V"⟩, 35), (⟨"FurnitureVotesModel", "begins", "()V"⟩, 35), (⟨"FurnitureVotesModel", "does", "(III)Z"⟩, 35), (⟨"FurnitureVotesModel", "puts", "(I)V"⟩, 35), (⟨"FurnitureVotesModel", "stands", "(I)Z"⟩, 35), (⟨"FurnitureVotesModel", "waxes", "(I)Z"⟩, 35), (⟨"FurnitureVotesModel", "sets", "(I)Z"⟩, 35), (⟨"FurnitureVotesModel", "sits", "(II)Z"⟩, 35), (⟨"FurnitureVotesModel", "dampens", "(I)Z"⟩, 35), (⟨"FurnitureVotesModel", "sleeps", "()V"⟩, 35), (⟨"FurnitureVotesModel", "nowOf", "(I)I"⟩, 35), (⟨"FurnitureVotesModel", "movers", "(I)I"⟩, 35)]
theorem lw_r5 : ∀ q ∈ lw_privs_5, lw_okq q := List.forall_mem_cons.mpr ⟨lw_p64, List.forall_mem_cons.mpr ⟨lw_p65, List.forall_mem_cons.mpr ⟨lw_p66, List.forall_mem_cons.mpr ⟨lw_p67, List.forall_mem_cons.mpr ⟨lw_p68, List.forall_mem_cons.mpr ⟨lw_p69, List.forall_mem_cons.mpr ⟨lw_p70, List.forall_mem_cons.mpr ⟨lw_p71, List.forall_mem_cons.mpr ⟨lw_p72, List.forall_mem_cons.mpr ⟨lw_p73, List.forall_mem_cons.mpr ⟨lw_p74, List.forall_mem_cons.mpr ⟨lw_p75, List.forall_mem_cons.mpr ⟨lw_p76, List.forall_mem_cons.mpr ⟨lw_p77, List.forall_mem_cons.mpr ⟨lw_p78, List.forall_mem_cons.mpr ⟨lw_p79, fun _ h => absurd h List.not_mem_nil⟩⟩⟩⟩⟩⟩⟩⟩⟩⟩⟩⟩⟩⟩⟩⟩
theorem lw_p80 : lw_okq (⟨"FurnitureVotesModel", "areMoved", "(IZ)Z"⟩, 35) := ⟨⟨by decide +kernel, by decide +kernel⟩, List.mem_of_getElem? (i := 1276) (by decide +kernel), List.mem_of_getElem? (i := 1620) (by decide +kernel), List.mem_of_getElem? (i := 1621) (by decide +kernel)⟩
theorem lw_p81 : lw_okq (⟨"FurnitureVotesModel", "isSeat", "(II)Z"⟩, 35) := ⟨⟨by decide +kernel, by decide +kernel⟩, List.mem_of_getElem? (i := 1276) (by decide +kernel), List.mem_of_getElem? (i := 1624) (by decide +kernel), List.mem_of_getElem? (i := 1625) (by decide +kernel)⟩
theorem lw_p82 : lw_okq (⟨"FurnitureVotesModel", "isAhead", "()Z"⟩, 35) := ⟨⟨by decide +kernel, by decide +kernel⟩, List.mem_of_getElem? (i := 1276) (by decide +kernel), List.mem_of_getElem? (i := 1628) (by decide +kernel), List.mem_of_getElem? (i := 1629) (by decide +kernel)⟩
theorem lw_p83 : lw_okq (⟨"FurnitureVotesModel", "areWaxed", "(IZI)Z"⟩, 35) := ⟨⟨by decide +kernel, by decide +kernel⟩, List.mem_of_getElem? (i := 1276) (by decide +kernel), List.mem_of_getElem? (i := 1636) (by decide +kernel), List.mem_of_getElem? (i := 1637) (by decide +kernel)⟩
theorem lw_p84 : lw_okq (⟨"FurnitureVotesModel", "isWon", "(III)Z"⟩, 35) := ⟨⟨by decide +kernel, by decide +kernel⟩, List.mem_of_getElem? (i := 1276) (by decide +kernel), List.mem_of_getElem? (i := 1648) (by decide +kernel), List.mem_of_getElem? (i := 1649) (by decide +kernel)⟩
theorem lw_p85 : lw_okq (⟨"FurnitureVotesModel", "isGot", "(IZ)Z"⟩, 35) := ⟨⟨by decide +kernel, by decide +kernel⟩, List.mem_of_getElem? (i := 1276) (by decide +kernel), List.mem_of_getElem? (i := 1652) (by decide +kernel), List.mem_of_getElem? (i := 1653) (by decide +kernel)⟩
theorem lw_p86 : lw_okq (⟨"FurnitureVotesModel", "isAsked", "(III)Z"⟩, 35) := ⟨⟨by decide +kernel, by decide +kernel⟩, List.mem_of_getElem? (i := 1276) (by decide +kernel), List.mem_of_getElem? (i := 1660) (by decide +kernel), List.mem_of_getElem? (i := 1661) (by decide +kernel)⟩
theorem lw_p87 : lw_okq (⟨"FurnitureVotesModel", "loudestOf", "(I)I"⟩, 35) := ⟨⟨by decide +kernel, by decide +kernel⟩, List.mem_of_getElem? (i := 1276) (by decide +kernel), List.mem_of_getElem? (i := 1704) (by decide +kernel), List.mem_of_getElem? (i := 1705) (by decide +kernel)⟩
theorem lw_p88 : lw_okq (⟨"FurnitureVotesModel", "sitsDown", "(I)I"⟩, 35) := ⟨⟨by decide +kernel, by decide +kernel⟩, List.mem_of_getElem? (i := 1276) (by decide +kernel), List.mem_of_getElem? (i := 1720) (by decide +kernel), List.mem_of_getElem? (i := 1721) (by decide +kernel)⟩
theorem lw_p89 : lw_okq (⟨"FurnitureVotesModel", "agendaOf", "(III)I"⟩, 35) := ⟨⟨by decide +kernel, by decide +kernel⟩, List.mem_of_getElem? (i := 1276) (by decide +kernel), List.mem_of_getElem? (i := 1731) (by decide +kernel), List.mem_of_getElem? (i := 1732) (by decide +kernel)⟩
theorem lw_p90 : lw_okq (⟨"FurnitureVotesModel", "apart", "(I)I"⟩, 35) := ⟨⟨by decide +kernel, by decide +kernel⟩, List.mem_of_getElem? (i := 1276) (by decide +kernel), List.mem_of_getElem? (i := 1751) (by decide +kernel), List.mem_of_getElem? (i := 1752) (by decide +kernel)⟩
theorem lw_p91 : lw_okq (⟨"FurnitureVotesModel", "voicesOf", "(I)I"⟩, 35) := ⟨⟨by decide +kernel, by decide +kernel⟩, List.mem_of_getElem? (i := 1276) (by decide +kernel), List.mem_of_getElem? (i := 1755) (by decide +kernel), List.mem_of_getElem? (i := 1756) (by decide +kernel)⟩
theorem lw_p92 : lw_okq (⟨"FurnitureVotesModel", "swingsOf", "(I)I"⟩, 35) := ⟨⟨by decide +kernel, by decide +kernel⟩, List.mem_of_getElem? (i := 1276) (by decide +kernel), List.mem_of_getElem? (i := 1759) (by decide +kernel), List.mem_of_getElem? (i := 1760) (by decide +kernel)⟩
theorem lw_p93 : lw_okq (⟨"FurnitureVotesModel", "wins", "(I)Z"⟩, 35) := ⟨⟨by decide +kernel, by decide +kernel⟩, List.mem_of_getElem? (i := 1276) (by decide +kernel), List.mem_of_getElem? (i := 1763) (by decide +kernel), List.mem_of_getElem? (i := 1764) (by decide +kernel)⟩
theorem lw_p94 : lw_okq (⟨"FurnitureVotesModel", "vetoes", "()I"⟩, 35) := ⟨⟨by decide +kernel, by decide +kernel⟩, List.mem_of_getElem? (i := 1276) (by decide +kernel), List.mem_of_getElem? (i := 1767) (by decide +kernel), List.mem_of_getElem? (i := 1768) (by decide +kernel)⟩
theorem lw_p95 : lw_okq (⟨"FurnitureVotesModel", "alike", "()I"⟩, 35) := ⟨⟨by decide +kernel, by decide +kernel⟩, List.mem_of_getElem? (i := 1276) (by decide +kernel), List.mem_of_getElem? (i := 1771) (by decide +kernel), List.mem_of_getElem? (i := 1772) (by decide +kernel)⟩
def lw_privs_6 : List (MethodName × Nat) := [(⟨"FurnitureVotesModel", "areMoved", "(IZ)Z"⟩, 35), (⟨"FurnitureVotesModel", "isSeat", "(II)Z"⟩, 35), (⟨"FurnitureVotesModel", "isAhead", "()Z"⟩, 35), (⟨"FurnitureVotesModel", "areWaxed", "(IZI)Z"⟩, 35), (⟨"FurnitureVotesModel", "isWon", "(III)Z"⟩, 35), (⟨"FurnitureVotesModel", "isGot", "(IZ)Z"⟩, 35), (⟨"FurnitureVotesModel", "isAsked", "(III)Z"⟩, 35), (⟨"FurnitureVotesModel", "loudestOf", "(I)I"⟩, 35), (⟨"FurnitureVotesModel", "sitsDown", "(I)I"⟩, 35), (⟨"FurnitureVotesModel", "agendaOf", "(III)I"⟩, 35), (⟨"FurnitureVotesModel", "apart", "(I)I"⟩, 35), (⟨"FurnitureVotesModel", "voicesOf", "(I)I"⟩, 35), (⟨"FurnitureVotesModel", "swingsOf", "(I)I"⟩, 35), (⟨"FurnitureVotesModel", "wins", "(I)Z"⟩, 35), (⟨"FurnitureVotesModel", "vetoes", "()I"⟩, 35), (⟨"FurnitureVotesModel", "alike", "()I"⟩, 35)]
theorem lw_r6 : ∀ q ∈ lw_privs_6, lw_okq q := List.forall_mem_cons.mpr ⟨lw_p80, List.forall_mem_cons.mpr ⟨lw_p81, List.forall_mem_cons.mpr ⟨lw_p82, List.forall_mem_cons.mpr ⟨lw_p83, List.forall_mem_cons.mpr ⟨lw_p84, List.forall_mem_cons.mpr ⟨lw_p85, List.forall_mem_cons.mpr ⟨lw_p86, List.forall_mem_cons.mpr ⟨lw_p87, List.forall_mem_cons.mpr ⟨lw_p88, List.forall_mem_cons.mpr ⟨lw_p89, List.forall_mem_cons.mpr ⟨lw_p90, List.forall_mem_cons.mpr ⟨lw_p91, List.forall_mem_cons.mpr ⟨lw_p92, List.forall_mem_cons.mpr ⟨lw_p93, List.forall_mem_cons.mpr ⟨lw_p94, List.forall_mem_cons.mpr ⟨lw_p95, fun _ h => absurd h List.not_mem_nil⟩⟩⟩⟩⟩⟩⟩⟩⟩⟩⟩⟩⟩⟩⟩⟩
theorem lw_p96 : lw_okq (⟨"FurnitureVotesModel", "leastSet", "()I"⟩, 35) := ⟨⟨by decide +kernel, by decide +kernel⟩, List.mem_of_getElem? (i := 1276) (by decide +kernel), List.mem_of_getElem? (i := 1779) (by decide +kernel), List.mem_of_getElem? (i := 1780) (by decide +kernel)⟩
theorem lw_p97 : lw_okq (⟨"FurnitureVotesModel", "isLog", "(I)Z"⟩, 35) := ⟨⟨by decide +kernel, by decide +kernel⟩, List.mem_of_getElem? (i := 1276) (by decide +kernel), List.mem_of_getElem? (i := 1795) (by decide +kernel), List.mem_of_getElem? (i := 1796) (by decide +kernel)⟩
theorem lw_p98 : lw_okq (⟨"FurnitureVotesModel", "fitting", "()I"⟩, 35) := ⟨⟨by decide +kernel, by decide +kernel⟩, List.mem_of_getElem? (i := 1276) (by decide +kernel), List.mem_of_getElem? (i := 1803) (by decide +kernel), List.mem_of_getElem? (i := 1804) (by decide +kernel)⟩
theorem lw_p99 : lw_okq (⟨"FurnitureVotesModel", "isSo", "(I)Z"⟩, 35) := ⟨⟨by decide +kernel, by decide +kernel⟩, List.mem_of_getElem? (i := 1276) (by decide +kernel), List.mem_of_getElem? (i := 1807) (by decide +kernel), List.mem_of_getElem? (i := 1808) (by decide +kernel)⟩
theorem lw_p100 : lw_okq (⟨"FurnitureVotesModel", "sureOf", "(Z)I"⟩, 35) := ⟨⟨by decide +kernel, by decide +kernel⟩, List.mem_of_getElem? (i := 1276) (by decide +kernel), List.mem_of_getElem? (i := 1814) (by decide +kernel), List.mem_of_getElem? (i := 1815) (by decide +kernel)⟩
theorem lw_p101 : lw_okq (⟨"FurnitureVotesModel", "draws", "()V"⟩, 35) := ⟨⟨by decide +kernel, by decide +kernel⟩, List.mem_of_getElem? (i := 1276) (by decide +kernel), List.mem_of_getElem? (i := 1830) (by decide +kernel), List.mem_of_getElem? (i := 1831) (by decide +kernel)⟩
theorem lw_p102 : lw_okq (⟨"FurnitureVotesModel", "below", "(I)I"⟩, 35) := ⟨⟨by decide +kernel, by decide +kernel⟩, List.mem_of_getElem? (i := 1276) (by decide +kernel), List.mem_of_getElem? (i := 1834) (by decide +kernel), List.mem_of_getElem? (i := 1835) (by decide +kernel)⟩
def lw_privs_7 : List (MethodName × Nat) := [(⟨"FurnitureVotesModel", "leastSet", "()I"⟩, 35), (⟨"FurnitureVotesModel", "isLog", "(I)Z"⟩, 35), (⟨"FurnitureVotesModel", "fitting", "()I"⟩, 35), (⟨"FurnitureVotesModel", "isSo", "(I)Z"⟩, 35), (⟨"FurnitureVotesModel", "sureOf", "(Z)I"⟩, 35), (⟨"FurnitureVotesModel", "draws", "()V"⟩, 35), (⟨"FurnitureVotesModel", "below", "(I)I"⟩, 35)]
theorem lw_r7 : ∀ q ∈ lw_privs_7, lw_okq q := List.forall_mem_cons.mpr ⟨lw_p96, List.forall_mem_cons.mpr ⟨lw_p97, List.forall_mem_cons.mpr ⟨lw_p98, List.forall_mem_cons.mpr ⟨lw_p99, List.forall_mem_cons.mpr ⟨lw_p100, List.forall_mem_cons.mpr ⟨lw_p101, List.forall_mem_cons.mpr ⟨lw_p102, fun _ h => absurd h List.not_mem_nil⟩⟩⟩⟩⟩⟩⟩
def lw_privs : List (MethodName × Nat) := lw_privs_1 ++ (lw_privs_2 ++ (lw_privs_3 ++ (lw_privs_4 ++ (lw_privs_5 ++ (lw_privs_6 ++ (lw_privs_7))))))
def lw_tbl : List Cond := k2_sels lw_privs ++ tables_1
theorem lw_privs_ok : ∀ q ∈ lw_privs, lw_okq q := by
  show ∀ q ∈ lw_privs_1 ++ (lw_privs_2 ++ (lw_privs_3 ++ (lw_privs_4 ++ (lw_privs_5 ++ (lw_privs_6 ++ (lw_privs_7)))))), lw_okq q
  exact List.forall_mem_append.mpr ⟨lw_r1, List.forall_mem_append.mpr ⟨lw_r2, List.forall_mem_append.mpr ⟨lw_r3, List.forall_mem_append.mpr ⟨lw_r4, List.forall_mem_append.mpr ⟨lw_r5, List.forall_mem_append.mpr ⟨lw_r6, lw_r7⟩⟩⟩⟩⟩⟩
-- ===== end of PART A; then your names; then what follows =====
end
section
/-! ===== BEGIN words of one list among another's, by their places ===== -/
theorem goodIn_r {big : List Cond} (ws : List Cond) (ps : List Nat) (hp : ws = ps.filterMap (fun i => big[i]?)) (h : ws.all goodWord = true) : GoodIn big ws := by
  intro w hw
  have h1 := List.all_eq_true.mp h w hw
  rw [hp] at hw
  obtain ⟨i, -, hi⟩ := List.mem_filterMap.mp hw
  have hm : w ∈ big := by first | exact List.mem_of_getElem? hi | exact List.getElem?_mem hi
  exact ⟨hm, good_of_word h1⟩
theorem goodIn_app {big a b : List Cond} (ha : GoodIn big a) (hb : GoodIn big b) : GoodIn big (a ++ b) := fun w h => (List.mem_append.mp h).elim (ha w) (hb w)
theorem goodIn_ca {big a b : List Cond} {c : Cond} (ha : GoodIn big (c :: a)) (hb : GoodIn big b) : GoodIn big (c :: (a ++ b)) := fun w h => (List.mem_cons.mp h).elim (fun e => ha w (List.mem_cons.mpr (Or.inl e))) (fun h => (List.mem_append.mp h).elim (fun h => ha w (List.mem_cons.mpr (Or.inr h))) (hb w))
theorem goodIn_sub {big ws : List Cond} (hm : ∀ w ∈ ws, w ∈ big) (h : ws.all goodWord = true) : GoodIn big ws := fun w hw => ⟨hm w hw, good_of_word (List.all_eq_true.mp h w hw)⟩
/-! ===== END ===== -/

/-! ===== BEGIN printed: names, fields, word lists, decode rows ===== -/
def RX0 : String := "FurnitureVotes$Chamber"
def TX0 : u_T := fun k => match k with
  | 0 => ("FurnitureVotes$Chamber", "pieces", "I", false)
  | 1 => ("FurnitureVotes$Chamber", "people", "I", false)
  | 2 => ("FurnitureVotes$Chamber", "damp", "I", false)
  | 3 => ("FurnitureVotes$Chamber", "kind", "[I", true)
  | 4 => ("FurnitureVotes$Chamber", "wood", "[I", true)
  | 5 => ("FurnitureVotes$Chamber", "age", "[I", true)
  | 6 => ("FurnitureVotes$Chamber", "limit", "[I", true)
  | 7 => ("FurnitureVotes$Chamber", "ear", "[I", true)
  | 8 => ("FurnitureVotes$Chamber", "voices", "[I", true)
  | 9 => ("FurnitureVotes$Chamber", "weight", "[I", true)
  | _ => ("FurnitureVotes$Chamber", "seat", "[I", true)
def tyX0 : Nat → FieldType := fun k => match k with
  | 0 => .int
  | 1 => .int
  | 2 => .int
  | 3 => .array .int
  | 4 => .array .int
  | 5 => .array .int
  | 6 => .array .int
  | 7 => .array .int
  | 8 => .array .int
  | 9 => .array .int
  | _ => .array .int
abbrev wsX00 : List Cond := u_ws RX0 TX0 11
theorem nmX0 : ∀ a, a < 11 → ∀ b, b < 11 → a ≠ b → (TX0 a).2.1 ≠ (TX0 b).2.1 := by decide +kernel
theorem tyX0_ok : ∀ k, k < 11 → parseFieldDescriptor (TX0 k).2.2.1 = some (tyX0 k) := by decide +kernel
abbrev cX0_init : ByteArray := prog_2_method_1_code
def yX0_init : MethodName := ⟨RX0, "<init>", "()V"⟩
abbrev cX0_empty : ByteArray := prog_2_method_2_code
def yX0_empty : MethodName := ⟨RX0, "empty", "()V"⟩
abbrev cX0_addPiece : ByteArray := prog_2_method_3_code
def yX0_addPiece : MethodName := ⟨RX0, "addPiece", "(II[I)V"⟩
abbrev cX0_addPerson : ByteArray := prog_2_method_4_code
def yX0_addPerson : MethodName := ⟨RX0, "addPerson", "(II)V"⟩
abbrev cX0_hasPiece : ByteArray := prog_2_method_5_code
def yX0_hasPiece : MethodName := ⟨RX0, "hasPiece", "(I)Z"⟩
abbrev cX0_hasPerson : ByteArray := prog_2_method_6_code
def yX0_hasPerson : MethodName := ⟨RX0, "hasPerson", "(I)Z"⟩
abbrev cX0_hasLostSeat : ByteArray := prog_2_method_7_code
def yX0_hasLostSeat : MethodName := ⟨RX0, "hasLostSeat", "()Z"⟩
abbrev cX0_tell : ByteArray := prog_2_method_8_code
def yX0_tell : MethodName := ⟨RX0, "tell", "(I)I"⟩
abbrev cX0_tellWhole : ByteArray := prog_2_method_9_code
def yX0_tellWhole : MethodName := ⟨RX0, "tellWhole", "(I)I"⟩
abbrev cX0_tellPiece : ByteArray := prog_2_method_10_code
def yX0_tellPiece : MethodName := ⟨RX0, "tellPiece", "(II)I"⟩
abbrev cX0_tellPerson : ByteArray := prog_2_method_11_code
def yX0_tellPerson : MethodName := ⟨RX0, "tellPerson", "(II)I"⟩
abbrev cX0_copyFrom : ByteArray := prog_2_method_12_code
def yX0_copyFrom : MethodName := ⟨RX0, "copyFrom", "(LFurnitureVotes$Chamber;)V"⟩
def RX1 : String := "FurnitureVotes$Course"
def TX1 : u_T := fun k => match k with
  | 0 => ("FurnitureVotes$Course", "hall", "LFurnitureVotes$Hall;", true)
  | 1 => ("FurnitureVotes$Course", "motions", "I", false)
  | 2 => ("FurnitureVotes$Course", "passed", "I", false)
  | 3 => ("FurnitureVotes$Course", "streak", "I", false)
  | 4 => ("FurnitureVotes$Course", "longest", "I", false)
  | 5 => ("FurnitureVotes$Course", "falls", "I", false)
  | 6 => ("FurnitureVotes$Course", "seed", "I", false)
  | _ => ("FurnitureVotes$Course", "nays", "[I", true)
def tyX1 : Nat → FieldType := fun k => match k with
  | 0 => .object "FurnitureVotes$Hall"
  | 1 => .int
  | 2 => .int
  | 3 => .int
  | 4 => .int
  | 5 => .int
  | 6 => .int
  | _ => .array .int
abbrev wsX10 : List Cond := u_ws RX1 TX1 8
theorem nmX1 : ∀ a, a < 8 → ∀ b, b < 8 → a ≠ b → (TX1 a).2.1 ≠ (TX1 b).2.1 := by decide +kernel
theorem tyX1_ok : ∀ k, k < 8 → parseFieldDescriptor (TX1 k).2.2.1 = some (tyX1 k) := by decide +kernel
abbrev cX1_init : ByteArray := prog_3_method_1_code
def yX1_init : MethodName := ⟨RX1, "<init>", "()V"⟩
abbrev cX1_begin : ByteArray := prog_3_method_2_code
def yX1_begin : MethodName := ⟨RX1, "begin", "(LFurnitureVotes$Chamber;)V"⟩
abbrev cX1_follow : ByteArray := prog_3_method_3_code
def yX1_follow : MethodName := ⟨RX1, "follow", "(LFurnitureVotes$Chamber;LFurnitureVotes$Session;I)I"⟩
abbrev cX1_does : ByteArray := prog_3_method_4_code
def yX1_does : MethodName := ⟨RX1, "does", "(III)Z"⟩
abbrev cX1_putMotion : ByteArray := prog_3_method_5_code
def yX1_putMotion : MethodName := ⟨RX1, "putMotion", "(I)V"⟩
abbrev cX1_standsUp : ByteArray := prog_3_method_6_code
def yX1_standsUp : MethodName := ⟨RX1, "standsUp", "(I)Z"⟩
abbrev cX1_sitsDown : ByteArray := prog_3_method_7_code
def yX1_sitsDown : MethodName := ⟨RX1, "sitsDown", "(II)Z"⟩
abbrev cX1_takesWax : ByteArray := prog_3_method_8_code
def yX1_takesWax : MethodName := ⟨RX1, "takesWax", "(I)Z"⟩
abbrev cX1_isSetUp : ByteArray := prog_3_method_9_code
def yX1_isSetUp : MethodName := ⟨RX1, "isSetUp", "(I)Z"⟩
abbrev cX1_changesDamp : ByteArray := prog_3_method_10_code
def yX1_changesDamp : MethodName := ⟨RX1, "changesDamp", "(I)Z"⟩
abbrev cX1_putThree : ByteArray := prog_3_method_11_code
def yX1_putThree : MethodName := ⟨RX1, "putThree", "(LFurnitureVotes$Chamber;III)I"⟩
abbrev cX1_draw : ByteArray := prog_3_method_12_code
def yX1_draw : MethodName := ⟨RX1, "draw", "(LFurnitureVotes$Chamber;II)V"⟩
abbrev cX1_drawDeed : ByteArray := prog_3_method_13_code
def yX1_drawDeed : MethodName := ⟨RX1, "drawDeed", "()V"⟩
abbrev cX1_drawSitting : ByteArray := prog_3_method_14_code
def yX1_drawSitting : MethodName := ⟨RX1, "drawSitting", "(II)V"⟩
abbrev cX1_drawBelow : ByteArray := prog_3_method_15_code
def yX1_drawBelow : MethodName := ⟨RX1, "drawBelow", "(I)I"⟩
abbrev cX1_mostNays : ByteArray := prog_3_method_16_code
def yX1_mostNays : MethodName := ⟨RX1, "mostNays", "()I"⟩
abbrev cX1_tell : ByteArray := prog_3_method_17_code
def yX1_tell : MethodName := ⟨RX1, "tell", "(I)I"⟩
abbrev cX1_tellOne : ByteArray := prog_3_method_18_code
def yX1_tellOne : MethodName := ⟨RX1, "tellOne", "(II)I"⟩
def RX2 : String := "FurnitureVotes$Hall"
def TX2 : u_T := fun k => match k with
  | 0 => ("FurnitureVotes$Hall", "room", "LFurnitureVotes$Chamber;", true)
  | 1 => ("FurnitureVotes$Hall", "wax", "[I", true)
  | 2 => ("FurnitureVotes$Hall", "load", "[I", true)
  | 3 => ("FurnitureVotes$Hall", "said", "[I", true)
  | 4 => ("FurnitureVotes$Hall", "overs", "I", false)
  | 5 => ("FurnitureVotes$Hall", "ayes", "I", false)
  | _ => ("FurnitureVotes$Hall", "noes", "I", false)
def tyX2 : Nat → FieldType := fun k => match k with
  | 0 => .object "FurnitureVotes$Chamber"
  | 1 => .array .int
  | 2 => .array .int
  | 3 => .array .int
  | 4 => .int
  | 5 => .int
  | _ => .int
abbrev wsX20 : List Cond := u_ws RX2 TX2 7
theorem nmX2 : ∀ a, a < 7 → ∀ b, b < 7 → a ≠ b → (TX2 a).2.1 ≠ (TX2 b).2.1 := by decide +kernel
theorem tyX2_ok : ∀ k, k < 7 → parseFieldDescriptor (TX2 k).2.2.1 = some (tyX2 k) := by decide +kernel
abbrev cX2_init : ByteArray := prog_4_method_1_code
def yX2_init : MethodName := ⟨RX2, "<init>", "()V"⟩
abbrev cX2_enter : ByteArray := prog_4_method_2_code
def yX2_enter : MethodName := ⟨RX2, "enter", "(LFurnitureVotes$Chamber;)V"⟩
abbrev cX2_putLoad : ByteArray := prog_4_method_3_code
def yX2_putLoad : MethodName := ⟨RX2, "putLoad", "(II)V"⟩
abbrev cX2_seatPerson : ByteArray := prog_4_method_4_code
def yX2_seatPerson : MethodName := ⟨RX2, "seatPerson", "(II)V"⟩
abbrev cX2_seatTried : ByteArray := prog_4_method_5_code
def yX2_seatTried : MethodName := ⟨RX2, "seatTried", "(I)I"⟩
abbrev cX2_isOver : ByteArray := prog_4_method_6_code
def yX2_isOver : MethodName := ⟨RX2, "isOver", "(I)Z"⟩
abbrev cX2_loud : ByteArray := prog_4_method_7_code
def yX2_loud : MethodName := ⟨RX2, "loud", "(II)I"⟩
abbrev cX2_sounds : ByteArray := prog_4_method_8_code
def yX2_sounds : MethodName := ⟨RX2, "sounds", "(II)Z"⟩
abbrev cX2_vote : ByteArray := prog_4_method_9_code
def yX2_vote : MethodName := ⟨RX2, "vote", "(I)I"⟩
abbrev cX2_says : ByteArray := prog_4_method_10_code
def yX2_says : MethodName := ⟨RX2, "says", "(II)I"⟩
abbrev cX2_goOver : ByteArray := prog_4_method_11_code
def yX2_goOver : MethodName := ⟨RX2, "goOver", "(I)V"⟩
abbrev cX2_passNight : ByteArray := prog_4_method_12_code
def yX2_passNight : MethodName := ⟨RX2, "passNight", "()V"⟩
def RX3 : String := "FurnitureVotes$Joinery"
def TX3 : u_T := fun k => match k with
  | 0 => ("FurnitureVotes$Joinery", "row", "[I", true)
  | _ => ("FurnitureVotes$Joinery", "hall", "LFurnitureVotes$Hall;", true)
def tyX3 : Nat → FieldType := fun k => match k with
  | 0 => .array .int
  | _ => .object "FurnitureVotes$Hall"
abbrev wsX30 : List Cond := u_ws RX3 TX3 2
theorem nmX3 : ∀ a, a < 2 → ∀ b, b < 2 → a ≠ b → (TX3 a).2.1 ≠ (TX3 b).2.1 := by decide +kernel
theorem tyX3_ok : ∀ k, k < 2 → parseFieldDescriptor (TX3 k).2.2.1 = some (tyX3 k) := by decide +kernel
abbrev cX3_init : ByteArray := prog_5_method_1_code
def yX3_init : MethodName := ⟨RX3, "<init>", "()V"⟩
abbrev cX3_fewestWaxes : ByteArray := prog_5_method_2_code
def yX3_fewestWaxes : MethodName := ⟨RX3, "fewestWaxes", "(LFurnitureVotes$Chamber;IZ)I"⟩
abbrev cX3_waxFurther : ByteArray := prog_5_method_3_code
def yX3_waxFurther : MethodName := ⟨RX3, "waxFurther", "(IZIII)Z"⟩
abbrev cX3_lobbied : ByteArray := prog_5_method_4_code
def yX3_lobbied : MethodName := ⟨RX3, "lobbied", "(LFurnitureVotes$Chamber;II)Z"⟩
abbrev cX3_endsCarried : ByteArray := prog_5_method_5_code
def yX3_endsCarried : MethodName := ⟨RX3, "endsCarried", "(IIZ)Z"⟩
abbrev cX3_endsCarriedBy : ByteArray := prog_5_method_6_code
def yX3_endsCarriedBy : MethodName := ⟨RX3, "endsCarriedBy", "(IIIZ)Z"⟩
abbrev cX3_firstChoice : ByteArray := prog_5_method_7_code
def yX3_firstChoice : MethodName := ⟨RX3, "firstChoice", "(LFurnitureVotes$Chamber;II)I"⟩
abbrev cX3_waxesToHush : ByteArray := prog_5_method_8_code
def yX3_waxesToHush : MethodName := ⟨RX3, "waxesToHush", "(LFurnitureVotes$Chamber;II)I"⟩
abbrev cX3_nightsToWake : ByteArray := prog_5_method_9_code
def yX3_nightsToWake : MethodName := ⟨RX3, "nightsToWake", "(LFurnitureVotes$Chamber;II)I"⟩
abbrev cX3_dampToTip : ByteArray := prog_5_method_10_code
def yX3_dampToTip : MethodName := ⟨RX3, "dampToTip", "(LFurnitureVotes$Chamber;II)I"⟩
abbrev cX3_fewestOaken : ByteArray := prog_5_method_11_code
def yX3_fewestOaken : MethodName := ⟨RX3, "fewestOaken", "(LFurnitureVotes$Chamber;I)I"⟩
abbrev cX3_makeOaken : ByteArray := prog_5_method_12_code
def yX3_makeOaken : MethodName := ⟨RX3, "makeOaken", "(LFurnitureVotes$Chamber;I)V"⟩
abbrev cX3_hinges : ByteArray := prog_5_method_13_code
def yX3_hinges : MethodName := ⟨RX3, "hinges", "(LFurnitureVotes$Chamber;I)I"⟩
abbrev cX3_loudestPiece : ByteArray := prog_5_method_14_code
def yX3_loudestPiece : MethodName := ⟨RX3, "loudestPiece", "(LFurnitureVotes$Chamber;I)I"⟩
def RX4 : String := "FurnitureVotes$Log"
def TX4 : u_T := fun k => match k with
  | 0 => ("FurnitureVotes$Log", "size", "I", false)
  | 1 => ("FurnitureVotes$Log", "sounded", "[I", true)
  | 2 => ("FurnitureVotes$Log", "load", "[I", true)
  | 3 => ("FurnitureVotes$Log", "damp", "[I", true)
  | _ => ("FurnitureVotes$Log", "matters", "[I", true)
def tyX4 : Nat → FieldType := fun k => match k with
  | 0 => .int
  | 1 => .array .int
  | 2 => .array .int
  | 3 => .array .int
  | _ => .array .int
abbrev wsX40 : List Cond := u_ws RX4 TX4 5
theorem nmX4 : ∀ a, a < 5 → ∀ b, b < 5 → a ≠ b → (TX4 a).2.1 ≠ (TX4 b).2.1 := by decide +kernel
theorem tyX4_ok : ∀ k, k < 5 → parseFieldDescriptor (TX4 k).2.2.1 = some (tyX4 k) := by decide +kernel
abbrev cX4_init : ByteArray := prog_6_method_1_code
def yX4_init : MethodName := ⟨RX4, "<init>", "()V"⟩
abbrev cX4_empty : ByteArray := prog_6_method_2_code
def yX4_empty : MethodName := ⟨RX4, "empty", "()V"⟩
abbrev cX4_add : ByteArray := prog_6_method_3_code
def yX4_add : MethodName := ⟨RX4, "add", "(IIII)V"⟩
abbrev cX4_tell : ByteArray := prog_6_method_4_code
def yX4_tell : MethodName := ⟨RX4, "tell", "(II)I"⟩
abbrev cX4_loudness : ByteArray := prog_6_method_5_code
def yX4_loudness : MethodName := ⟨RX4, "loudness", "(IIII)I"⟩
abbrev cX4_leastLimit : ByteArray := prog_6_method_6_code
def yX4_leastLimit : MethodName := ⟨RX4, "leastLimit", "(I)I"⟩
abbrev cX4_mostLimit : ByteArray := prog_6_method_7_code
def yX4_mostLimit : MethodName := ⟨RX4, "mostLimit", "(I)I"⟩
abbrev cX4_fittingOf : ByteArray := prog_6_method_8_code
def yX4_fittingOf : MethodName := ⟨RX4, "fittingOf", "(I)I"⟩
abbrev cX4_fitting : ByteArray := prog_6_method_9_code
def yX4_fitting : MethodName := ⟨RX4, "fitting", "()I"⟩
abbrev cX4_fittingAt : ByteArray := prog_6_method_10_code
def yX4_fittingAt : MethodName := ⟨RX4, "fittingAt", "(I)I"⟩
abbrev cX4_sureWood : ByteArray := prog_6_method_11_code
def yX4_sureWood : MethodName := ⟨RX4, "sureWood", "()I"⟩
abbrev cX4_sureLimit : ByteArray := prog_6_method_12_code
def yX4_sureLimit : MethodName := ⟨RX4, "sureLimit", "()I"⟩
abbrev cX4_bestQuestion : ByteArray := prog_6_method_13_code
def yX4_bestQuestion : MethodName := ⟨RX4, "bestQuestion", "(I)I"⟩
abbrev cX4_soundingAt : ByteArray := prog_6_method_14_code
def yX4_soundingAt : MethodName := ⟨RX4, "soundingAt", "(III)I"⟩
abbrev cX4_copyFrom : ByteArray := prog_6_method_15_code
def yX4_copyFrom : MethodName := ⟨RX4, "copyFrom", "(LFurnitureVotes$Log;)V"⟩
def RX5 : String := "FurnitureVotes$Powers"
def TX5 : u_T := fun k => match k with
  | 0 => ("FurnitureVotes$Powers", "swings", "[I", true)
  | 1 => ("FurnitureVotes$Powers", "voices", "[I", true)
  | 2 => ("FurnitureVotes$Powers", "sums", "[I", true)
  | 3 => ("FurnitureVotes$Powers", "pieces", "I", false)
  | 4 => ("FurnitureVotes$Powers", "sets", "I", false)
  | _ => ("FurnitureVotes$Powers", "total", "I", false)
def tyX5 : Nat → FieldType := fun k => match k with
  | 0 => .array .int
  | 1 => .array .int
  | 2 => .array .int
  | 3 => .int
  | 4 => .int
  | _ => .int
abbrev wsX50 : List Cond := u_ws RX5 TX5 6
theorem nmX5 : ∀ a, a < 6 → ∀ b, b < 6 → a ≠ b → (TX5 a).2.1 ≠ (TX5 b).2.1 := by decide +kernel
theorem tyX5_ok : ∀ k, k < 6 → parseFieldDescriptor (TX5 k).2.2.1 = some (tyX5 k) := by decide +kernel
abbrev cX5_init : ByteArray := prog_7_method_1_code
def yX5_init : MethodName := ⟨RX5, "<init>", "()V"⟩
abbrev cX5_hear : ByteArray := prog_7_method_2_code
def yX5_hear : MethodName := ⟨RX5, "hear", "(LFurnitureVotes$Chamber;)V"⟩
abbrev cX5_wins : ByteArray := prog_7_method_3_code
def yX5_wins : MethodName := ⟨RX5, "wins", "(I)Z"⟩
abbrev cX5_isSwing : ByteArray := prog_7_method_4_code
def yX5_isSwing : MethodName := ⟨RX5, "isSwing", "(II)Z"⟩
abbrev cX5_countSwings : ByteArray := prog_7_method_5_code
def yX5_countSwings : MethodName := ⟨RX5, "countSwings", "(I)I"⟩
abbrev cX5_part : ByteArray := prog_7_method_6_code
def yX5_part : MethodName := ⟨RX5, "part", "(IZ)I"⟩
abbrev cX5_leastSet : ByteArray := prog_7_method_7_code
def yX5_leastSet : MethodName := ⟨RX5, "leastSet", "()I"⟩
abbrev cX5_difference : ByteArray := prog_7_method_8_code
def yX5_difference : MethodName := ⟨RX5, "difference", "(I)I"⟩
abbrev cX5_evenestSet : ByteArray := prog_7_method_9_code
def yX5_evenestSet : MethodName := ⟨RX5, "evenestSet", "()I"⟩
abbrev cX5_vetoes : ByteArray := prog_7_method_10_code
def yX5_vetoes : MethodName := ⟨RX5, "vetoes", "()I"⟩
abbrev cX5_idle : ByteArray := prog_7_method_11_code
def yX5_idle : MethodName := ⟨RX5, "idle", "()I"⟩
abbrev cX5_alike : ByteArray := prog_7_method_12_code
def yX5_alike : MethodName := ⟨RX5, "alike", "()I"⟩
def RX6 : String := "FurnitureVotes$Reader"
def TX6 : u_T := fun k => match k with
  | 0 => ("FurnitureVotes$Reader", "chamber", "LFurnitureVotes$Chamber;", true)
  | 1 => ("FurnitureVotes$Reader", "session", "LFurnitureVotes$Session;", true)
  | 2 => ("FurnitureVotes$Reader", "log", "LFurnitureVotes$Log;", true)
  | 3 => ("FurnitureVotes$Reader", "fault", "I", false)
  | 4 => ("FurnitureVotes$Reader", "faultPlace", "I", false)
  | 5 => ("FurnitureVotes$Reader", "tape", "[B", false)
  | 6 => ("FurnitureVotes$Reader", "length", "I", false)
  | 7 => ("FurnitureVotes$Reader", "token", "I", false)
  | 8 => ("FurnitureVotes$Reader", "start", "I", false)
  | 9 => ("FurnitureVotes$Reader", "next", "I", false)
  | 10 => ("FurnitureVotes$Reader", "value", "I", false)
  | _ => ("FurnitureVotes$Reader", "numbers", "[I", true)
def tyX6 : Nat → FieldType := fun k => match k with
  | 0 => .object "FurnitureVotes$Chamber"
  | 1 => .object "FurnitureVotes$Session"
  | 2 => .object "FurnitureVotes$Log"
  | 3 => .int
  | 4 => .int
  | 5 => .array .byte
  | 6 => .int
  | 7 => .int
  | 8 => .int
  | 9 => .int
  | 10 => .int
  | _ => .array .int
abbrev wsX60 : List Cond := u_ws RX6 TX6 12
theorem nmX6 : ∀ a, a < 12 → ∀ b, b < 12 → a ≠ b → (TX6 a).2.1 ≠ (TX6 b).2.1 := by decide +kernel
theorem tyX6_ok : ∀ k, k < 12 → parseFieldDescriptor (TX6 k).2.2.1 = some (tyX6 k) := by decide +kernel
abbrev cX6_init : ByteArray := prog_8_method_1_code
def yX6_init : MethodName := ⟨RX6, "<init>", "()V"⟩
abbrev cX6_read : ByteArray := prog_8_method_2_code
def yX6_read : MethodName := ⟨RX6, "read", "(I[BI)V"⟩
abbrev cX6_readLine : ByteArray := prog_8_method_3_code
def yX6_readLine : MethodName := ⟨RX6, "readLine", "(I)V"⟩
abbrev cX6_readNumbers : ByteArray := prog_8_method_4_code
def yX6_readNumbers : MethodName := ⟨RX6, "readNumbers", "(I)Z"⟩
abbrev cX6_headOf : ByteArray := prog_8_method_5_code
def yX6_headOf : MethodName := ⟨RX6, "headOf", "(I)I"⟩
abbrev cX6_isFull : ByteArray := prog_8_method_6_code
def yX6_isFull : MethodName := ⟨RX6, "isFull", "(I)Z"⟩
abbrev cX6_addLine : ByteArray := prog_8_method_7_code
def yX6_addLine : MethodName := ⟨RX6, "addLine", "(II)V"⟩
abbrev cX6_note : ByteArray := prog_8_method_8_code
def yX6_note : MethodName := ⟨RX6, "note", "(II)V"⟩
abbrev cX6_refuse : ByteArray := prog_8_method_9_code
def yX6_refuse : MethodName := ⟨RX6, "refuse", "()V"⟩
abbrev cX6_advance : ByteArray := prog_8_method_10_code
def yX6_advance : MethodName := ⟨RX6, "advance", "()V"⟩
abbrev cX6_takeDigits : ByteArray := prog_8_method_11_code
def yX6_takeDigits : MethodName := ⟨RX6, "takeDigits", "(I)V"⟩
abbrev cX6_isBlank : ByteArray := prog_8_method_12_code
def yX6_isBlank : MethodName := ⟨RX6, "isBlank", "(B)Z"⟩
abbrev cX6_isLetter : ByteArray := prog_8_method_13_code
def yX6_isLetter : MethodName := ⟨RX6, "isLetter", "(B)Z"⟩
abbrev cX6_isDigit : ByteArray := prog_8_method_14_code
def yX6_isDigit : MethodName := ⟨RX6, "isDigit", "(B)Z"⟩
abbrev cX6_wordAmong : ByteArray := prog_8_method_15_code
def yX6_wordAmong : MethodName := ⟨RX6, "wordAmong", "(Ljava/lang/String;)I"⟩
abbrev cX6_isSame : ByteArray := prog_8_method_16_code
def yX6_isSame : MethodName := ⟨RX6, "isSame", "(Ljava/lang/String;I)Z"⟩
def RX7 : String := "FurnitureVotes$Seating"
def TX7 : u_T := fun k => match k with
  | 0 => ("FurnitureVotes$Seating", "row", "[I", true)
  | 1 => ("FurnitureVotes$Seating", "hall", "LFurnitureVotes$Hall;", true)
  | _ => ("FurnitureVotes$Seating", "rowNumber", "I", false)
def tyX7 : Nat → FieldType := fun k => match k with
  | 0 => .array .int
  | 1 => .object "FurnitureVotes$Hall"
  | _ => .int
abbrev wsX70 : List Cond := u_ws RX7 TX7 3
theorem nmX7 : ∀ a, a < 3 → ∀ b, b < 3 → a ≠ b → (TX7 a).2.1 ≠ (TX7 b).2.1 := by decide +kernel
theorem tyX7_ok : ∀ k, k < 3 → parseFieldDescriptor (TX7 k).2.2.1 = some (tyX7 k) := by decide +kernel
abbrev cX7_init : ByteArray := prog_9_method_1_code
def yX7_init : MethodName := ⟨RX7, "<init>", "()V"⟩
abbrev cX7_fewestMoves : ByteArray := prog_9_method_2_code
def yX7_fewestMoves : MethodName := ⟨RX7, "fewestMoves", "(LFurnitureVotes$Chamber;I)I"⟩
abbrev cX7_tryMoving : ByteArray := prog_9_method_3_code
def yX7_tryMoving : MethodName := ⟨RX7, "tryMoving", "(II)V"⟩
abbrev cX7_tryMovingTwo : ByteArray := prog_9_method_4_code
def yX7_tryMovingTwo : MethodName := ⟨RX7, "tryMovingTwo", "(II)V"⟩
abbrev cX7_keepLeastRow : ByteArray := prog_9_method_5_code
def yX7_keepLeastRow : MethodName := ⟨RX7, "keepLeastRow", "()V"⟩
abbrev cX7_seatGreedily : ByteArray := prog_9_method_6_code
def yX7_seatGreedily : MethodName := ⟨RX7, "seatGreedily", "(LFurnitureVotes$Chamber;I)I"⟩
abbrev cX7_seatOneBest : ByteArray := prog_9_method_7_code
def yX7_seatOneBest : MethodName := ⟨RX7, "seatOneBest", "(LFurnitureVotes$Chamber;II)I"⟩
abbrev cX7_seatOf : ByteArray := prog_9_method_8_code
def yX7_seatOf : MethodName := ⟨RX7, "seatOf", "(I)I"⟩
abbrev cX7_seatBest : ByteArray := prog_9_method_9_code
def yX7_seatBest : MethodName := ⟨RX7, "seatBest", "(II)I"⟩
abbrev cX7_whoTurnsByStanding : ByteArray := prog_9_method_10_code
def yX7_whoTurnsByStanding : MethodName := ⟨RX7, "whoTurnsByStanding", "(LFurnitureVotes$Chamber;I)I"⟩
abbrev cX7_firstTrade : ByteArray := prog_9_method_11_code
def yX7_firstTrade : MethodName := ⟨RX7, "firstTrade", "(LFurnitureVotes$Chamber;I)I"⟩
def RX8 : String := "FurnitureVotes$Session"
def TX8 : u_T := fun k => match k with
  | 0 => ("FurnitureVotes$Session", "size", "I", false)
  | 1 => ("FurnitureVotes$Session", "sort", "[I", true)
  | 2 => ("FurnitureVotes$Session", "first", "[I", true)
  | _ => ("FurnitureVotes$Session", "second", "[I", true)
def tyX8 : Nat → FieldType := fun k => match k with
  | 0 => .int
  | 1 => .array .int
  | 2 => .array .int
  | _ => .array .int
abbrev wsX80 : List Cond := u_ws RX8 TX8 4
theorem nmX8 : ∀ a, a < 4 → ∀ b, b < 4 → a ≠ b → (TX8 a).2.1 ≠ (TX8 b).2.1 := by decide +kernel
theorem tyX8_ok : ∀ k, k < 4 → parseFieldDescriptor (TX8 k).2.2.1 = some (tyX8 k) := by decide +kernel
abbrev cX8_init : ByteArray := prog_10_method_1_code
def yX8_init : MethodName := ⟨RX8, "<init>", "()V"⟩
abbrev cX8_empty : ByteArray := prog_10_method_2_code
def yX8_empty : MethodName := ⟨RX8, "empty", "()V"⟩
abbrev cX8_add : ByteArray := prog_10_method_3_code
def yX8_add : MethodName := ⟨RX8, "add", "(III)V"⟩
abbrev cX8_tell : ByteArray := prog_10_method_4_code
def yX8_tell : MethodName := ⟨RX8, "tell", "(II)I"⟩
abbrev cX8_copyFrom : ByteArray := prog_10_method_5_code
def yX8_copyFrom : MethodName := ⟨RX8, "copyFrom", "(LFurnitureVotes$Session;)V"⟩
def RX9 : String := "FurnitureVotes$Told"
def TX9 : u_T := fun k => match k with
  | 0 => ("FurnitureVotes$Told", "tape", "[B", true)
  | 1 => ("FurnitureVotes$Told", "length", "I", false)
  | 2 => ("FurnitureVotes$Told", "fault", "I", false)
  | 3 => ("FurnitureVotes$Told", "faultPlace", "I", false)
  | 4 => ("FurnitureVotes$Told", "counts", "[I", true)
  | 5 => ("FurnitureVotes$Told", "chambers", "[LFurnitureVotes$Chamber;", true)
  | 6 => ("FurnitureVotes$Told", "sessions", "[LFurnitureVotes$Session;", true)
  | _ => ("FurnitureVotes$Told", "logs", "[LFurnitureVotes$Log;", true)
def tyX9 : Nat → FieldType := fun k => match k with
  | 0 => .array .byte
  | 1 => .int
  | 2 => .int
  | 3 => .int
  | 4 => .array .int
  | 5 => .array (.object "FurnitureVotes$Chamber")
  | 6 => .array (.object "FurnitureVotes$Session")
  | _ => .array (.object "FurnitureVotes$Log")
abbrev wsX90 : List Cond := u_ws RX9 TX9 8
theorem nmX9 : ∀ a, a < 8 → ∀ b, b < 8 → a ≠ b → (TX9 a).2.1 ≠ (TX9 b).2.1 := by decide +kernel
theorem tyX9_ok : ∀ k, k < 8 → parseFieldDescriptor (TX9 k).2.2.1 = some (tyX9 k) := by decide +kernel
abbrev cX9_init : ByteArray := prog_11_method_1_code
def yX9_init : MethodName := ⟨RX9, "<init>", "()V"⟩
abbrev cX9_append : ByteArray := prog_11_method_2_code
def yX9_append : MethodName := ⟨RX9, "append", "(I)V"⟩
abbrev cX9_numberFor : ByteArray := prog_11_method_3_code
def yX9_numberFor : MethodName := ⟨RX9, "numberFor", "(II)I"⟩
abbrev cX9_keep : ByteArray := prog_11_method_4_code
def yX9_keep : MethodName := ⟨RX9, "keep", "(IILFurnitureVotes$Reader;)V"⟩
abbrev cX9_chamberAt : ByteArray := prog_11_method_5_code
def yX9_chamberAt : MethodName := ⟨RX9, "chamberAt", "(I)LFurnitureVotes$Chamber;"⟩
abbrev cX9_sessionAt : ByteArray := prog_11_method_6_code
def yX9_sessionAt : MethodName := ⟨RX9, "sessionAt", "(I)LFurnitureVotes$Session;"⟩
abbrev cX9_logAt : ByteArray := prog_11_method_7_code
def yX9_logAt : MethodName := ⟨RX9, "logAt", "(I)LFurnitureVotes$Log;"⟩
abbrev cX9_isThere : ByteArray := prog_11_method_8_code
def yX9_isThere : MethodName := ⟨RX9, "isThere", "(II)Z"⟩
abbrev cX9_copyFrom : ByteArray := prog_11_method_9_code
def yX9_copyFrom : MethodName := ⟨RX9, "copyFrom", "(LFurnitureVotes$Told;)V"⟩
def RX10 : String := "FurnitureVotes$Verdicts"
def TX10 : u_T := fun k => match k with
  | 0 => ("FurnitureVotes$Verdicts", "hall", "LFurnitureVotes$Hall;", true)
  | 1 => ("FurnitureVotes$Verdicts", "chances", "[J", false)
  | _ => ("FurnitureVotes$Verdicts", "chancesNext", "[J", false)
def tyX10 : Nat → FieldType := fun k => match k with
  | 0 => .object "FurnitureVotes$Hall"
  | 1 => .array .long
  | _ => .array .long
abbrev wsX100 : List Cond := u_ws RX10 TX10 3
theorem nmX10 : ∀ a, a < 3 → ∀ b, b < 3 → a ≠ b → (TX10 a).2.1 ≠ (TX10 b).2.1 := by decide +kernel
theorem tyX10_ok : ∀ k, k < 3 → parseFieldDescriptor (TX10 k).2.2.1 = some (tyX10 k) := by decide +kernel
abbrev cX10_init : ByteArray := prog_12_method_1_code
def yX10_init : MethodName := ⟨RX10, "<init>", "()V"⟩
abbrev cX10_carriedSet : ByteArray := prog_12_method_2_code
def yX10_carriedSet : MethodName := ⟨RX10, "carriedSet", "(LFurnitureVotes$Chamber;)J"⟩
abbrev cX10_clearSet : ByteArray := prog_12_method_3_code
def yX10_clearSet : MethodName := ⟨RX10, "clearSet", "(LFurnitureVotes$Chamber;)J"⟩
abbrev cX10_agreements : ByteArray := prog_12_method_4_code
def yX10_agreements : MethodName := ⟨RX10, "agreements", "(LFurnitureVotes$Chamber;II)I"⟩
abbrev cX10_isIn : ByteArray := prog_12_method_5_code
def yX10_isIn : MethodName := ⟨RX10, "isIn", "(JI)Z"⟩
abbrev cX10_member : ByteArray := prog_12_method_6_code
def yX10_member : MethodName := ⟨RX10, "member", "(JI)I"⟩
abbrev cX10_nearestOf : ByteArray := prog_12_method_7_code
def yX10_nearestOf : MethodName := ⟨RX10, "nearestOf", "(JI)I"⟩
abbrev cX10_fewestWith : ByteArray := prog_12_method_8_code
def yX10_fewestWith : MethodName := ⟨RX10, "fewestWith", "(JI)I"⟩
abbrev cX10_stepsWithin : ByteArray := prog_12_method_9_code
def yX10_stepsWithin : MethodName := ⟨RX10, "stepsWithin", "(JII)I"⟩
abbrev cX10_oneStepFurther : ByteArray := prog_12_method_10_code
def yX10_oneStepFurther : MethodName := ⟨RX10, "oneStepFurther", "(JJ)J"⟩
abbrev cX10_chancesOf : ByteArray := prog_12_method_11_code
def yX10_chancesOf : MethodName := ⟨RX10, "chancesOf", "(JI)J"⟩
abbrev cX10_carryingDamps : ByteArray := prog_12_method_12_code
def yX10_carryingDamps : MethodName := ⟨RX10, "carryingDamps", "(LFurnitureVotes$Chamber;I)I"⟩
abbrev cX10_chancesBehind : ByteArray := prog_12_method_13_code
def yX10_chancesBehind : MethodName := ⟨RX10, "chancesBehind", "(LFurnitureVotes$Chamber;III)J"⟩
abbrev cX10_passDay : ByteArray := prog_12_method_14_code
def yX10_passDay : MethodName := ⟨RX10, "passDay", "(I)V"⟩
abbrev cX10_nightsToTurn : ByteArray := prog_12_method_15_code
def yX10_nightsToTurn : MethodName := ⟨RX10, "nightsToTurn", "(LFurnitureVotes$Chamber;I)I"⟩
def RX11 : String := "FurnitureVotes"
def TX11 : u_T := fun k => match k with
  | 0 => ("FurnitureVotes", "told", "LFurnitureVotes$Told;", true)
  | 1 => ("FurnitureVotes", "images", "[LFurnitureVotes$Told;", true)
  | 2 => ("FurnitureVotes", "imaged", "[Z", true)
  | 3 => ("FurnitureVotes", "reader", "LFurnitureVotes$Reader;", true)
  | 4 => ("FurnitureVotes", "hall", "LFurnitureVotes$Hall;", true)
  | 5 => ("FurnitureVotes", "course", "LFurnitureVotes$Course;", true)
  | 6 => ("FurnitureVotes", "verdicts", "LFurnitureVotes$Verdicts;", true)
  | 7 => ("FurnitureVotes", "seating", "LFurnitureVotes$Seating;", true)
  | 8 => ("FurnitureVotes", "joinery", "LFurnitureVotes$Joinery;", true)
  | _ => ("FurnitureVotes", "powers", "LFurnitureVotes$Powers;", true)
def tyX11 : Nat → FieldType := fun k => match k with
  | 0 => .object "FurnitureVotes$Told"
  | 1 => .array (.object "FurnitureVotes$Told")
  | 2 => .array .boolean
  | 3 => .object "FurnitureVotes$Reader"
  | 4 => .object "FurnitureVotes$Hall"
  | 5 => .object "FurnitureVotes$Course"
  | 6 => .object "FurnitureVotes$Verdicts"
  | 7 => .object "FurnitureVotes$Seating"
  | 8 => .object "FurnitureVotes$Joinery"
  | _ => .object "FurnitureVotes$Powers"
abbrev wsX110 : List Cond := u_ws RX11 TX11 10
theorem nmX11 : ∀ a, a < 10 → ∀ b, b < 10 → a ≠ b → (TX11 a).2.1 ≠ (TX11 b).2.1 := by decide +kernel
theorem tyX11_ok : ∀ k, k < 10 → parseFieldDescriptor (TX11 k).2.2.1 = some (tyX11 k) := by decide +kernel
abbrev cX11_init : ByteArray := prog_1_method_1_code
def yX11_init : MethodName := ⟨RX11, "<init>", "()V"⟩
abbrev cX11_feed : ByteArray := prog_1_method_2_code
def yX11_feed : MethodName := ⟨RX11, "feed", "(IIIII)I"⟩
abbrev cX11_end : ByteArray := prog_1_method_3_code
def yX11_end : MethodName := ⟨RX11, "end", "(I)I"⟩
abbrev cX11_text : ByteArray := prog_1_method_4_code
def yX11_text : MethodName := ⟨RX11, "text", "(II)I"⟩
abbrev cX11_fault : ByteArray := prog_1_method_5_code
def yX11_fault : MethodName := ⟨RX11, "fault", "(I)I"⟩
abbrev cX11_chamber : ByteArray := prog_1_method_6_code
def yX11_chamber : MethodName := ⟨RX11, "chamber", "(II)I"⟩
abbrev cX11_answer : ByteArray := prog_1_method_7_code
def yX11_answer : MethodName := ⟨RX11, "answer", "(III)I"⟩
abbrev cX11_deed : ByteArray := prog_1_method_8_code
def yX11_deed : MethodName := ⟨RX11, "deed", "(III)I"⟩
abbrev cX11_stop : ByteArray := prog_1_method_9_code
def yX11_stop : MethodName := ⟨RX11, "stop", "(II)I"⟩
abbrev cX11_state : ByteArray := prog_1_method_10_code
def yX11_state : MethodName := ⟨RX11, "state", "(IIII)I"⟩
abbrev cX11_carried : ByteArray := prog_1_method_11_code
def yX11_carried : MethodName := ⟨RX11, "carried", "(II)I"⟩
abbrev cX11_moves : ByteArray := prog_1_method_12_code
def yX11_moves : MethodName := ⟨RX11, "moves", "(III)I"⟩
abbrev cX11_waxed : ByteArray := prog_1_method_13_code
def yX11_waxed : MethodName := ⟨RX11, "waxed", "(IIZI)I"⟩
abbrev cX11_turn : ByteArray := prog_1_method_14_code
def yX11_turn : MethodName := ⟨RX11, "turn", "(II)I"⟩
abbrev cX11_nearest : ByteArray := prog_1_method_15_code
def yX11_nearest : MethodName := ⟨RX11, "nearest", "(II)I"⟩
abbrev cX11_lobby : ByteArray := prog_1_method_16_code
def yX11_lobby : MethodName := ⟨RX11, "lobby", "(IIIZ)I"⟩
abbrev cX11_power : ByteArray := prog_1_method_17_code
def yX11_power : MethodName := ⟨RX11, "power", "(II)I"⟩
abbrev cX11_weather : ByteArray := prog_1_method_18_code
def yX11_weather : MethodName := ⟨RX11, "weather", "(IIIIZ)J"⟩
abbrev cX11_fact : ByteArray := prog_1_method_19_code
def yX11_fact : MethodName := ⟨RX11, "fact", "(III)I"⟩
abbrev cX11_fits : ByteArray := prog_1_method_20_code
def yX11_fits : MethodName := ⟨RX11, "fits", "(II)I"⟩
abbrev cX11_ask : ByteArray := prog_1_method_21_code
def yX11_ask : MethodName := ⟨RX11, "ask", "(II)I"⟩
abbrev cX11_drawn : ByteArray := prog_1_method_22_code
def yX11_drawn : MethodName := ⟨RX11, "drawn", "(IIII)I"⟩
abbrev cX11_hush : ByteArray := prog_1_method_23_code
def yX11_hush : MethodName := ⟨RX11, "hush", "(III)I"⟩
abbrev cX11_wake : ByteArray := prog_1_method_24_code
def yX11_wake : MethodName := ⟨RX11, "wake", "(III)I"⟩
abbrev cX11_damps : ByteArray := prog_1_method_25_code
def yX11_damps : MethodName := ⟨RX11, "damps", "(II)I"⟩
abbrev cX11_tips : ByteArray := prog_1_method_26_code
def yX11_tips : MethodName := ⟨RX11, "tips", "(III)I"⟩
abbrev cX11_weighty : ByteArray := prog_1_method_27_code
def yX11_weighty : MethodName := ⟨RX11, "weighty", "(II)I"⟩
abbrev cX11_worded : ByteArray := prog_1_method_28_code
def yX11_worded : MethodName := ⟨RX11, "worded", "(II)I"⟩
abbrev cX11_clear : ByteArray := prog_1_method_29_code
def yX11_clear : MethodName := ⟨RX11, "clear", "(II)I"⟩
abbrev cX11_greedy : ByteArray := prog_1_method_30_code
def yX11_greedy : MethodName := ⟨RX11, "greedy", "(III)I"⟩
abbrev cX11_agenda : ByteArray := prog_1_method_31_code
def yX11_agenda : MethodName := ⟨RX11, "agenda", "(IIIIZ)I"⟩
abbrev cX11_odds : ByteArray := prog_1_method_32_code
def yX11_odds : MethodName := ⟨RX11, "odds", "(IIZ)J"⟩
abbrev cX11_weigh : ByteArray := prog_1_method_33_code
def yX11_weigh : MethodName := ⟨RX11, "weigh", "(II)I"⟩
abbrev cX11_after : ByteArray := prog_1_method_34_code
def yX11_after : MethodName := ⟨RX11, "after", "(III)I"⟩
abbrev cX11_bears : ByteArray := prog_1_method_35_code
def yX11_bears : MethodName := ⟨RX11, "bears", "(IIZ)I"⟩
abbrev cX11_kin : ByteArray := prog_1_method_36_code
def yX11_kin : MethodName := ⟨RX11, "kin", "(III)I"⟩
abbrev cX11_trade : ByteArray := prog_1_method_37_code
def yX11_trade : MethodName := ⟨RX11, "trade", "(II)I"⟩
abbrev cX11_oaken : ByteArray := prog_1_method_38_code
def yX11_oaken : MethodName := ⟨RX11, "oaken", "(II)I"⟩
abbrev cX11_walk : ByteArray := prog_1_method_39_code
def yX11_walk : MethodName := ⟨RX11, "walk", "(III)I"⟩
abbrev cX11_place : ByteArray := prog_1_method_40_code
def yX11_place : MethodName := ⟨RX11, "place", "(IIIZ)I"⟩
abbrev cX11_hinge : ByteArray := prog_1_method_41_code
def yX11_hinge : MethodName := ⟨RX11, "hinge", "(IIZ)I"⟩
abbrev cX11_count : ByteArray := prog_1_method_42_code
def yX11_count : MethodName := ⟨RX11, "count", "(I)I"⟩
abbrev cX11_image : ByteArray := prog_1_method_43_code
def yX11_image : MethodName := ⟨RX11, "image", "(I)Z"⟩
abbrev cX11_again : ByteArray := prog_1_method_44_code
def yX11_again : MethodName := ⟨RX11, "again", "(I)Z"⟩
abbrev cX11_asked : ByteArray := prog_1_method_45_code
def yX11_asked : MethodName := ⟨RX11, "asked", "(II)LFurnitureVotes$Chamber;"⟩
abbrev cX11_askedOf : ByteArray := prog_1_method_46_code
def yX11_askedOf : MethodName := ⟨RX11, "askedOf", "(III)LFurnitureVotes$Chamber;"⟩
abbrev cX11_isMotion : ByteArray := prog_1_method_47_code
def yX11_isMotion : MethodName := ⟨RX11, "isMotion", "(I)Z"⟩
abbrev cX11_pick : ByteArray := prog_1_method_48_code
def yX11_pick : MethodName := ⟨RX11, "pick", "(IIII)I"⟩
abbrev cX11_powerOfTen : ByteArray := prog_1_method_49_code
def yX11_powerOfTen : MethodName := ⟨RX11, "powerOfTen", "(I)J"⟩
abbrev cX11_leastTerms : ByteArray := prog_1_method_50_code
def yX11_leastTerms : MethodName := ⟨RX11, "leastTerms", "(JJZ)J"⟩
def RX12 : String := "FurnitureVotesModel"
def TX12 : u_T := fun k => match k with
  | 0 => ("FurnitureVotesModel", "all", "[I", true)
  | 1 => ("FurnitureVotesModel", "has", "[Z", true)
  | 2 => ("FurnitureVotesModel", "size", "I", false)
  | 3 => ("FurnitureVotesModel", "next", "I", false)
  | 4 => ("FurnitureVotesModel", "where", "I", false)
  | 5 => ("FurnitureVotesModel", "token", "I", false)
  | 6 => ("FurnitureVotesModel", "number", "I", false)
  | 7 => ("FurnitureVotesModel", "word", "I", false)
  | 8 => ("FurnitureVotesModel", "wrong", "Z", false)
  | 9 => ("FurnitureVotesModel", "farPiece", "I", false)
  | 10 => ("FurnitureVotesModel", "read", "[I", true)
  | 11 => ("FurnitureVotesModel", "c0", "I", false)
  | 12 => ("FurnitureVotesModel", "pieces", "I", false)
  | 13 => ("FurnitureVotesModel", "people", "I", false)
  | 14 => ("FurnitureVotesModel", "damp", "I", false)
  | 15 => ("FurnitureVotesModel", "overs", "I", false)
  | 16 => ("FurnitureVotesModel", "oaks", "I", false)
  | 17 => ("FurnitureVotesModel", "ages", "[I", true)
  | 18 => ("FurnitureVotesModel", "waxes", "[I", true)
  | 19 => ("FurnitureVotesModel", "seats", "[I", true)
  | 20 => ("FurnitureVotesModel", "says", "[I", true)
  | 21 => ("FurnitureVotesModel", "ayes", "I", false)
  | 22 => ("FurnitureVotesModel", "noes", "I", false)
  | 23 => ("FurnitureVotesModel", "d0", "I", false)
  | 24 => ("FurnitureVotesModel", "put", "I", false)
  | 25 => ("FurnitureVotesModel", "passed", "I", false)
  | 26 => ("FurnitureVotesModel", "done", "I", false)
  | 27 => ("FurnitureVotesModel", "nays", "[I", true)
  | 28 => ("FurnitureVotesModel", "moved", "[I", true)
  | 29 => ("FurnitureVotesModel", "row", "[I", true)
  | 30 => ("FurnitureVotesModel", "won", "[Z", true)
  | 31 => ("FurnitureVotesModel", "steps", "[I", true)
  | 32 => ("FurnitureVotesModel", "cases", "[J", true)
  | 33 => ("FurnitureVotesModel", "l0", "I", false)
  | _ => ("FurnitureVotesModel", "x0", "I", false)
def tyX12 : Nat → FieldType := fun k => match k with
  | 0 => .array .int
  | 1 => .array .boolean
  | 2 => .int
  | 3 => .int
  | 4 => .int
  | 5 => .int
  | 6 => .int
  | 7 => .int
  | 8 => .boolean
  | 9 => .int
  | 10 => .array .int
  | 11 => .int
  | 12 => .int
  | 13 => .int
  | 14 => .int
  | 15 => .int
  | 16 => .int
  | 17 => .array .int
  | 18 => .array .int
  | 19 => .array .int
  | 20 => .array .int
  | 21 => .int
  | 22 => .int
  | 23 => .int
  | 24 => .int
  | 25 => .int
  | 26 => .int
  | 27 => .array .int
  | 28 => .array .int
  | 29 => .array .int
  | 30 => .array .boolean
  | 31 => .array .int
  | 32 => .array .long
  | 33 => .int
  | _ => .int
abbrev wsX120 : List Cond := u_ws RX12 TX12 35
theorem nmX12 : ∀ a, a < 35 → ∀ b, b < 35 → a ≠ b → (TX12 a).2.1 ≠ (TX12 b).2.1 := by decide +kernel
theorem tyX12_ok : ∀ k, k < 35 → parseFieldDescriptor (TX12 k).2.2.1 = some (tyX12 k) := by decide +kernel
abbrev cX12_init : ByteArray := prog_14_method_1_code
def yX12_init : MethodName := ⟨RX12, "<init>", "()V"⟩
abbrev cX12_isIn : ByteArray := prog_14_method_2_code
def yX12_isIn : MethodName := ⟨RX12, "isIn", "(III)Z"⟩
abbrev cX12_feed : ByteArray := prog_14_method_3_code
def yX12_feed : MethodName := ⟨RX12, "feed", "(IIIII)I"⟩
abbrev cX12_end : ByteArray := prog_14_method_4_code
def yX12_end : MethodName := ⟨RX12, "end", "(I)I"⟩
abbrev cX12_byteAt : ByteArray := prog_14_method_5_code
def yX12_byteAt : MethodName := ⟨RX12, "byteAt", "(I)I"⟩
abbrev cX12_isLetter : ByteArray := prog_14_method_6_code
def yX12_isLetter : MethodName := ⟨RX12, "isLetter", "(I)Z"⟩
abbrev cX12_isDigit : ByteArray := prog_14_method_7_code
def yX12_isDigit : MethodName := ⟨RX12, "isDigit", "(I)Z"⟩
abbrev cX12_four : ByteArray := prog_14_method_8_code
def yX12_four : MethodName := ⟨RX12, "four", "(IIII)J"⟩
abbrev cX12_eight : ByteArray := prog_14_method_9_code
def yX12_eight : MethodName := ⟨RX12, "eight", "(IIIIIIII)J"⟩
abbrev cX12_wordOf : ByteArray := prog_14_method_10_code
def yX12_wordOf : MethodName := ⟨RX12, "wordOf", "(J)I"⟩
abbrev cX12_advance : ByteArray := prog_14_method_11_code
def yX12_advance : MethodName := ⟨RX12, "advance", "()V"⟩
abbrev cX12_ends : ByteArray := prog_14_method_12_code
def yX12_ends : MethodName := ⟨RX12, "ends", "()V"⟩
abbrev cX12_also : ByteArray := prog_14_method_13_code
def yX12_also : MethodName := ⟨RX12, "also", "(II)V"⟩
abbrev cX12_numbered : ByteArray := prog_14_method_14_code
def yX12_numbered : MethodName := ⟨RX12, "numbered", "(II)I"⟩
abbrev cX12_wordIn : ByteArray := prog_14_method_15_code
def yX12_wordIn : MethodName := ⟨RX12, "wordIn", "(II)I"⟩
abbrev cX12_endsLine : ByteArray := prog_14_method_16_code
def yX12_endsLine : MethodName := ⟨RX12, "endsLine", "()V"⟩
abbrev cX12_pieceLine : ByteArray := prog_14_method_17_code
def yX12_pieceLine : MethodName := ⟨RX12, "pieceLine", "(II)V"⟩
abbrev cX12_personLine : ByteArray := prog_14_method_18_code
def yX12_personLine : MethodName := ⟨RX12, "personLine", "(IZ)V"⟩
abbrev cX12_chamberLine : ByteArray := prog_14_method_19_code
def yX12_chamberLine : MethodName := ⟨RX12, "chamberLine", "()V"⟩
abbrev cX12_sessionLine : ByteArray := prog_14_method_20_code
def yX12_sessionLine : MethodName := ⟨RX12, "sessionLine", "()V"⟩
abbrev cX12_logLine : ByteArray := prog_14_method_21_code
def yX12_logLine : MethodName := ⟨RX12, "logLine", "()V"⟩
abbrev cX12_placeOf : ByteArray := prog_14_method_22_code
def yX12_placeOf : MethodName := ⟨RX12, "placeOf", "(II)I"⟩
abbrev cX12_sizeOf : ByteArray := prog_14_method_23_code
def yX12_sizeOf : MethodName := ⟨RX12, "sizeOf", "(I)I"⟩
abbrev cX12_isOf : ByteArray := prog_14_method_24_code
def yX12_isOf : MethodName := ⟨RX12, "isOf", "(II)Z"⟩
abbrev cX12_text : ByteArray := prog_14_method_25_code
def yX12_text : MethodName := ⟨RX12, "text", "(II)I"⟩
abbrev cX12_fault : ByteArray := prog_14_method_26_code
def yX12_fault : MethodName := ⟨RX12, "fault", "(I)I"⟩
abbrev cX12_isChamber : ByteArray := prog_14_method_27_code
def yX12_isChamber : MethodName := ⟨RX12, "isChamber", "(I)Z"⟩
abbrev cX12_isPiece : ByteArray := prog_14_method_28_code
def yX12_isPiece : MethodName := ⟨RX12, "isPiece", "(I)Z"⟩
abbrev cX12_isPerson : ByteArray := prog_14_method_29_code
def yX12_isPerson : MethodName := ⟨RX12, "isPerson", "(I)Z"⟩
abbrev cX12_of : ByteArray := prog_14_method_30_code
def yX12_of : MethodName := ⟨RX12, "of", "(II)I"⟩
abbrev cX12_ofPerson : ByteArray := prog_14_method_31_code
def yX12_ofPerson : MethodName := ⟨RX12, "ofPerson", "(II)I"⟩
abbrev cX12_chamber : ByteArray := prog_14_method_32_code
def yX12_chamber : MethodName := ⟨RX12, "chamber", "(II)I"⟩
abbrev cX12_asTold : ByteArray := prog_14_method_33_code
def yX12_asTold : MethodName := ⟨RX12, "asTold", "()V"⟩
abbrev cX12_holds : ByteArray := prog_14_method_34_code
def yX12_holds : MethodName := ⟨RX12, "holds", "(II)Z"⟩
abbrev cX12_bitsOf : ByteArray := prog_14_method_35_code
def yX12_bitsOf : MethodName := ⟨RX12, "bitsOf", "(I)I"⟩
abbrev cX12_loadOf : ByteArray := prog_14_method_36_code
def yX12_loadOf : MethodName := ⟨RX12, "loadOf", "(I)I"⟩
abbrev cX12_loudOf : ByteArray := prog_14_method_37_code
def yX12_loudOf : MethodName := ⟨RX12, "loudOf", "(II)I"⟩
abbrev cX12_saysOf : ByteArray := prog_14_method_38_code
def yX12_saysOf : MethodName := ⟨RX12, "saysOf", "(II)I"⟩
abbrev cX12_answers : ByteArray := prog_14_method_39_code
def yX12_answers : MethodName := ⟨RX12, "answers", "(I)Z"⟩
abbrev cX12_isMotion : ByteArray := prog_14_method_40_code
def yX12_isMotion : MethodName := ⟨RX12, "isMotion", "(I)Z"⟩
abbrev cX12_answer : ByteArray := prog_14_method_41_code
def yX12_answer : MethodName := ⟨RX12, "answer", "(III)I"⟩
abbrev cX12_isSession : ByteArray := prog_14_method_42_code
def yX12_isSession : MethodName := ⟨RX12, "isSession", "(I)Z"⟩
abbrev cX12_deed : ByteArray := prog_14_method_43_code
def yX12_deed : MethodName := ⟨RX12, "deed", "(III)I"⟩
abbrev cX12_begins : ByteArray := prog_14_method_44_code
def yX12_begins : MethodName := ⟨RX12, "begins", "()V"⟩
abbrev cX12_puts : ByteArray := prog_14_method_45_code
def yX12_puts : MethodName := ⟨RX12, "puts", "(I)V"⟩
abbrev cX12_sleeps : ByteArray := prog_14_method_46_code
def yX12_sleeps : MethodName := ⟨RX12, "sleeps", "()V"⟩
abbrev cX12_sits : ByteArray := prog_14_method_47_code
def yX12_sits : MethodName := ⟨RX12, "sits", "(II)Z"⟩
abbrev cX12_stands : ByteArray := prog_14_method_48_code
def yX12_stands : MethodName := ⟨RX12, "stands", "(I)Z"⟩
abbrev cX12_waxes : ByteArray := prog_14_method_49_code
def yX12_waxes : MethodName := ⟨RX12, "waxes", "(I)Z"⟩
abbrev cX12_sets : ByteArray := prog_14_method_50_code
def yX12_sets : MethodName := ⟨RX12, "sets", "(I)Z"⟩
abbrev cX12_dampens : ByteArray := prog_14_method_51_code
def yX12_dampens : MethodName := ⟨RX12, "dampens", "(I)Z"⟩
abbrev cX12_does : ByteArray := prog_14_method_52_code
def yX12_does : MethodName := ⟨RX12, "does", "(III)Z"⟩
abbrev cX12_runs : ByteArray := prog_14_method_53_code
def yX12_runs : MethodName := ⟨RX12, "runs", "(I)V"⟩
abbrev cX12_stop : ByteArray := prog_14_method_54_code
def yX12_stop : MethodName := ⟨RX12, "stop", "(II)I"⟩
abbrev cX12_nowOf : ByteArray := prog_14_method_55_code
def yX12_nowOf : MethodName := ⟨RX12, "nowOf", "(I)I"⟩
abbrev cX12_state : ByteArray := prog_14_method_56_code
def yX12_state : MethodName := ⟨RX12, "state", "(IIII)I"⟩
abbrev cX12_after : ByteArray := prog_14_method_57_code
def yX12_after : MethodName := ⟨RX12, "after", "(III)I"⟩
abbrev cX12_carried : ByteArray := prog_14_method_58_code
def yX12_carried : MethodName := ⟨RX12, "carried", "(II)I"⟩
abbrev cX12_nearest : ByteArray := prog_14_method_59_code
def yX12_nearest : MethodName := ⟨RX12, "nearest", "(II)I"⟩
abbrev cX12_isAhead : ByteArray := prog_14_method_60_code
def yX12_isAhead : MethodName := ⟨RX12, "isAhead", "()Z"⟩
abbrev cX12_isSeat : ByteArray := prog_14_method_61_code
def yX12_isSeat : MethodName := ⟨RX12, "isSeat", "(II)Z"⟩
abbrev cX12_areMoved : ByteArray := prog_14_method_62_code
def yX12_areMoved : MethodName := ⟨RX12, "areMoved", "(IZ)Z"⟩
abbrev cX12_movers : ByteArray := prog_14_method_63_code
def yX12_movers : MethodName := ⟨RX12, "movers", "(I)I"⟩
abbrev cX12_moves : ByteArray := prog_14_method_64_code
def yX12_moves : MethodName := ⟨RX12, "moves", "(III)I"⟩
abbrev cX12_areWaxed : ByteArray := prog_14_method_65_code
def yX12_areWaxed : MethodName := ⟨RX12, "areWaxed", "(IZI)Z"⟩
abbrev cX12_waxed : ByteArray := prog_14_method_66_code
def yX12_waxed : MethodName := ⟨RX12, "waxed", "(IIZI)I"⟩
abbrev cX12_turn : ByteArray := prog_14_method_67_code
def yX12_turn : MethodName := ⟨RX12, "turn", "(II)I"⟩
abbrev cX12_isWon : ByteArray := prog_14_method_68_code
def yX12_isWon : MethodName := ⟨RX12, "isWon", "(III)Z"⟩
abbrev cX12_isGot : ByteArray := prog_14_method_69_code
def yX12_isGot : MethodName := ⟨RX12, "isGot", "(IZ)Z"⟩
abbrev cX12_lobby : ByteArray := prog_14_method_70_code
def yX12_lobby : MethodName := ⟨RX12, "lobby", "(IIIZ)I"⟩
abbrev cX12_isAsked : ByteArray := prog_14_method_71_code
def yX12_isAsked : MethodName := ⟨RX12, "isAsked", "(III)Z"⟩
abbrev cX12_hush : ByteArray := prog_14_method_72_code
def yX12_hush : MethodName := ⟨RX12, "hush", "(III)I"⟩
abbrev cX12_wake : ByteArray := prog_14_method_73_code
def yX12_wake : MethodName := ⟨RX12, "wake", "(III)I"⟩
abbrev cX12_damps : ByteArray := prog_14_method_74_code
def yX12_damps : MethodName := ⟨RX12, "damps", "(II)I"⟩
abbrev cX12_tips : ByteArray := prog_14_method_75_code
def yX12_tips : MethodName := ⟨RX12, "tips", "(III)I"⟩
abbrev cX12_weighty : ByteArray := prog_14_method_76_code
def yX12_weighty : MethodName := ⟨RX12, "weighty", "(II)I"⟩
abbrev cX12_worded : ByteArray := prog_14_method_77_code
def yX12_worded : MethodName := ⟨RX12, "worded", "(II)I"⟩
abbrev cX12_clear : ByteArray := prog_14_method_78_code
def yX12_clear : MethodName := ⟨RX12, "clear", "(II)I"⟩
abbrev cX12_kin : ByteArray := prog_14_method_79_code
def yX12_kin : MethodName := ⟨RX12, "kin", "(III)I"⟩
abbrev cX12_trade : ByteArray := prog_14_method_80_code
def yX12_trade : MethodName := ⟨RX12, "trade", "(II)I"⟩
abbrev cX12_oaken : ByteArray := prog_14_method_81_code
def yX12_oaken : MethodName := ⟨RX12, "oaken", "(II)I"⟩
abbrev cX12_loudestOf : ByteArray := prog_14_method_82_code
def yX12_loudestOf : MethodName := ⟨RX12, "loudestOf", "(I)I"⟩
abbrev cX12_hinge : ByteArray := prog_14_method_83_code
def yX12_hinge : MethodName := ⟨RX12, "hinge", "(IIZ)I"⟩
abbrev cX12_walk : ByteArray := prog_14_method_84_code
def yX12_walk : MethodName := ⟨RX12, "walk", "(III)I"⟩
abbrev cX12_place : ByteArray := prog_14_method_85_code
def yX12_place : MethodName := ⟨RX12, "place", "(IIIZ)I"⟩
abbrev cX12_sitsDown : ByteArray := prog_14_method_86_code
def yX12_sitsDown : MethodName := ⟨RX12, "sitsDown", "(I)I"⟩
abbrev cX12_greedy : ByteArray := prog_14_method_87_code
def yX12_greedy : MethodName := ⟨RX12, "greedy", "(III)I"⟩
abbrev cX12_agendaOf : ByteArray := prog_14_method_88_code
def yX12_agendaOf : MethodName := ⟨RX12, "agendaOf", "(III)I"⟩
abbrev cX12_pick : ByteArray := prog_14_method_89_code
def yX12_pick : MethodName := ⟨RX12, "pick", "(IIII)I"⟩
abbrev cX12_agenda : ByteArray := prog_14_method_90_code
def yX12_agenda : MethodName := ⟨RX12, "agenda", "(IIIIZ)I"⟩
abbrev cX12_power0 : ByteArray := prog_14_method_91_code
def yX12_power0 : MethodName := ⟨RX12, "power0", "(JI)J"⟩
abbrev cX12_odds : ByteArray := prog_14_method_92_code
def yX12_odds : MethodName := ⟨RX12, "odds", "(IIZ)J"⟩
abbrev cX12_voicesOf : ByteArray := prog_14_method_93_code
def yX12_voicesOf : MethodName := ⟨RX12, "voicesOf", "(I)I"⟩
abbrev cX12_apart : ByteArray := prog_14_method_94_code
def yX12_apart : MethodName := ⟨RX12, "apart", "(I)I"⟩
abbrev cX12_swingsOf : ByteArray := prog_14_method_95_code
def yX12_swingsOf : MethodName := ⟨RX12, "swingsOf", "(I)I"⟩
abbrev cX12_vetoes : ByteArray := prog_14_method_96_code
def yX12_vetoes : MethodName := ⟨RX12, "vetoes", "()I"⟩
abbrev cX12_alike : ByteArray := prog_14_method_97_code
def yX12_alike : MethodName := ⟨RX12, "alike", "()I"⟩
abbrev cX12_weigh : ByteArray := prog_14_method_98_code
def yX12_weigh : MethodName := ⟨RX12, "weigh", "(II)I"⟩
abbrev cX12_wins : ByteArray := prog_14_method_99_code
def yX12_wins : MethodName := ⟨RX12, "wins", "(I)Z"⟩
abbrev cX12_factorial : ByteArray := prog_14_method_100_code
def yX12_factorial : MethodName := ⟨RX12, "factorial", "(I)J"⟩
abbrev cX12_common : ByteArray := prog_14_method_101_code
def yX12_common : MethodName := ⟨RX12, "common", "(JJ)J"⟩
abbrev cX12_leastSet : ByteArray := prog_14_method_102_code
def yX12_leastSet : MethodName := ⟨RX12, "leastSet", "()I"⟩
abbrev cX12_power : ByteArray := prog_14_method_103_code
def yX12_power : MethodName := ⟨RX12, "power", "(II)I"⟩
abbrev cX12_weather : ByteArray := prog_14_method_104_code
def yX12_weather : MethodName := ⟨RX12, "weather", "(IIIIZ)J"⟩
abbrev cX12_isLog : ByteArray := prog_14_method_105_code
def yX12_isLog : MethodName := ⟨RX12, "isLog", "(I)Z"⟩
abbrev cX12_fact : ByteArray := prog_14_method_106_code
def yX12_fact : MethodName := ⟨RX12, "fact", "(III)I"⟩
abbrev cX12_sounds : ByteArray := prog_14_method_107_code
def yX12_sounds : MethodName := ⟨RX12, "sounds", "(IIII)Z"⟩
abbrev cX12_isSo : ByteArray := prog_14_method_108_code
def yX12_isSo : MethodName := ⟨RX12, "isSo", "(I)Z"⟩
abbrev cX12_fitting : ByteArray := prog_14_method_109_code
def yX12_fitting : MethodName := ⟨RX12, "fitting", "()I"⟩
abbrev cX12_sureOf : ByteArray := prog_14_method_110_code
def yX12_sureOf : MethodName := ⟨RX12, "sureOf", "(Z)I"⟩
abbrev cX12_fits : ByteArray := prog_14_method_111_code
def yX12_fits : MethodName := ⟨RX12, "fits", "(II)I"⟩
abbrev cX12_ask : ByteArray := prog_14_method_112_code
def yX12_ask : MethodName := ⟨RX12, "ask", "(II)I"⟩
abbrev cX12_bears : ByteArray := prog_14_method_113_code
def yX12_bears : MethodName := ⟨RX12, "bears", "(IIZ)I"⟩
abbrev cX12_below : ByteArray := prog_14_method_114_code
def yX12_below : MethodName := ⟨RX12, "below", "(I)I"⟩
abbrev cX12_draws : ByteArray := prog_14_method_115_code
def yX12_draws : MethodName := ⟨RX12, "draws", "()V"⟩
abbrev cX12_drawn : ByteArray := prog_14_method_116_code
def yX12_drawn : MethodName := ⟨RX12, "drawn", "(IIII)I"⟩
abbrev cX12_count : ByteArray := prog_14_method_117_code
def yX12_count : MethodName := ⟨RX12, "count", "(I)I"⟩
abbrev cX12_image : ByteArray := prog_14_method_118_code
def yX12_image : MethodName := ⟨RX12, "image", "(I)Z"⟩
abbrev cX12_again : ByteArray := prog_14_method_119_code
def yX12_again : MethodName := ⟨RX12, "again", "(I)Z"⟩
def RJx145de : String := "java/io/Serializable"
def TJx145de : u_T := fun k => match k with
  | _ => ("", "", "", false)
def tyJx145de : Nat → FieldType := fun k => match k with
  | _ => .int
abbrev wsJx145de0 : List Cond := u_ws RJx145de TJx145de 0
theorem nmJx145de : ∀ a, a < 0 → ∀ b, b < 0 → a ≠ b → (TJx145de a).2.1 ≠ (TJx145de b).2.1 := by decide +kernel
theorem tyJx145de_ok : ∀ k, k < 0 → parseFieldDescriptor (TJx145de k).2.2.1 = some (tyJx145de k) := by decide +kernel
def RJx9f9b0 : String := "java/lang/CharSequence"
def TJx9f9b0 : u_T := fun k => match k with
  | _ => ("", "", "", false)
def tyJx9f9b0 : Nat → FieldType := fun k => match k with
  | _ => .int
abbrev wsJx9f9b00 : List Cond := u_ws RJx9f9b0 TJx9f9b0 0
theorem nmJx9f9b0 : ∀ a, a < 0 → ∀ b, b < 0 → a ≠ b → (TJx9f9b0 a).2.1 ≠ (TJx9f9b0 b).2.1 := by decide +kernel
theorem tyJx9f9b0_ok : ∀ k, k < 0 → parseFieldDescriptor (TJx9f9b0 k).2.2.1 = some (tyJx9f9b0 k) := by decide +kernel
def RJxb160c : String := "java/lang/Comparable"
def TJxb160c : u_T := fun k => match k with
  | _ => ("", "", "", false)
def tyJxb160c : Nat → FieldType := fun k => match k with
  | _ => .int
abbrev wsJxb160c0 : List Cond := u_ws RJxb160c TJxb160c 0
theorem nmJxb160c : ∀ a, a < 0 → ∀ b, b < 0 → a ≠ b → (TJxb160c a).2.1 ≠ (TJxb160c b).2.1 := by decide +kernel
theorem tyJxb160c_ok : ∀ k, k < 0 → parseFieldDescriptor (TJxb160c k).2.2.1 = some (tyJxb160c k) := by decide +kernel
def RJ6 : String := "java/lang/Integer"
def TJ6 : u_T := fun k => match k with
  | _ => ("", "", "", false)
def tyJ6 : Nat → FieldType := fun k => match k with
  | _ => .int
abbrev wsJ60 : List Cond := u_ws RJ6 TJ6 0
theorem nmJ6 : ∀ a, a < 0 → ∀ b, b < 0 → a ≠ b → (TJ6 a).2.1 ≠ (TJ6 b).2.1 := by decide +kernel
theorem tyJ6_ok : ∀ k, k < 0 → parseFieldDescriptor (TJ6 k).2.2.1 = some (tyJ6 k) := by decide +kernel
abbrev cJ6_bitCount_0f7a4 : ByteArray := prog_15_method_49_code
def yJ6_bitCount_0f7a4 : MethodName := ⟨RJ6, "bitCount", "(I)I"⟩
def RJ13 : String := "java/lang/Long"
def TJ13 : u_T := fun k => match k with
  | _ => ("", "", "", false)
def tyJ13 : Nat → FieldType := fun k => match k with
  | _ => .int
abbrev wsJ130 : List Cond := u_ws RJ13 TJ13 0
theorem nmJ13 : ∀ a, a < 0 → ∀ b, b < 0 → a ≠ b → (TJ13 a).2.1 ≠ (TJ13 b).2.1 := by decide +kernel
theorem tyJ13_ok : ∀ k, k < 0 → parseFieldDescriptor (TJ13 k).2.2.1 = some (tyJ13 k) := by decide +kernel
abbrev cJ13_bitCount_95d88 : ByteArray := prog_16_method_50_code
def yJ13_bitCount_95d88 : MethodName := ⟨RJ13, "bitCount", "(J)I"⟩
def RJ9 : String := "java/lang/Math"
def TJ9 : u_T := fun k => match k with
  | _ => ("", "", "", false)
def tyJ9 : Nat → FieldType := fun k => match k with
  | _ => .int
abbrev wsJ90 : List Cond := u_ws RJ9 TJ9 0
theorem nmJ9 : ∀ a, a < 0 → ∀ b, b < 0 → a ≠ b → (TJ9 a).2.1 ≠ (TJ9 b).2.1 := by decide +kernel
theorem tyJ9_ok : ∀ k, k < 0 → parseFieldDescriptor (TJ9 k).2.2.1 = some (tyJ9 k) := by decide +kernel
abbrev cJ9_abs_0f7a4 : ByteArray := prog_17_method_59_code
def yJ9_abs_0f7a4 : MethodName := ⟨RJ9, "abs", "(I)I"⟩
abbrev cJ9_max_7cf53 : ByteArray := prog_17_method_65_code
def yJ9_max_7cf53 : MethodName := ⟨RJ9, "max", "(II)I"⟩
abbrev cJ9_min_7cf53 : ByteArray := prog_17_method_69_code
def yJ9_min_7cf53 : MethodName := ⟨RJ9, "min", "(II)I"⟩
def RJ0 : String := "java/lang/String"
def TJ0 : u_T := fun k => match k with
  | _ => ("", "", "", false)
def tyJ0 : Nat → FieldType := fun k => match k with
  | _ => .int
abbrev wsJ00 : List Cond := u_ws RJ0 TJ0 0
theorem nmJ0 : ∀ a, a < 0 → ∀ b, b < 0 → a ≠ b → (TJ0 a).2.1 ≠ (TJ0 b).2.1 := by decide +kernel
theorem tyJ0_ok : ∀ k, k < 0 → parseFieldDescriptor (TJ0 k).2.2.1 = some (tyJ0 k) := by decide +kernel
abbrev cJ0_length_8abf5 : ByteArray := prog_18_method_54_code
def yJ0_length_8abf5 : MethodName := ⟨RJ0, "length", "()I"⟩
abbrev cJ0_charAt_5068e : ByteArray := prog_18_method_56_code
def yJ0_charAt_5068e : MethodName := ⟨RJ0, "charAt", "(I)C"⟩
abbrev cJ0_coder_7d493 : ByteArray := prog_18_method_152_code
def yJ0_coder_7d493 : MethodName := ⟨RJ0, "coder", "()B"⟩
abbrev cJ0_isLatin1_aae02 : ByteArray := prog_18_method_154_code
def yJ0_isLatin1_aae02 : MethodName := ⟨RJ0, "isLatin1", "()Z"⟩
abbrev cJ0_checkIndex_df160 : ByteArray := prog_18_method_155_code
def yJ0_checkIndex_df160 : MethodName := ⟨RJ0, "checkIndex", "(II)V"⟩
def RJ1 : String := "java/lang/StringLatin1"
def TJ1 : u_T := fun k => match k with
  | _ => ("", "", "", false)
def tyJ1 : Nat → FieldType := fun k => match k with
  | _ => .int
abbrev wsJ10 : List Cond := u_ws RJ1 TJ1 0
theorem nmJ1 : ∀ a, a < 0 → ∀ b, b < 0 → a ≠ b → (TJ1 a).2.1 ≠ (TJ1 b).2.1 := by decide +kernel
theorem tyJ1_ok : ∀ k, k < 0 → parseFieldDescriptor (TJ1 k).2.2.1 = some (tyJ1 k) := by decide +kernel
abbrev cJ1_charAt_3b067 : ByteArray := prog_19_method_2_code
def yJ1_charAt_3b067 : MethodName := ⟨RJ1, "charAt", "([BI)C"⟩
def RJ2 : String := "java/lang/StringUTF16"
def TJ2 : u_T := fun k => match k with
  | _ => ("", "", "", false)
def tyJ2 : Nat → FieldType := fun k => match k with
  | _ => .int
abbrev wsJ20 : List Cond := u_ws RJ2 TJ2 0
theorem nmJ2 : ∀ a, a < 0 → ∀ b, b < 0 → a ≠ b → (TJ2 a).2.1 ≠ (TJ2 b).2.1 := by decide +kernel
theorem tyJ2_ok : ∀ k, k < 0 → parseFieldDescriptor (TJ2 k).2.2.1 = some (tyJ2 k) := by decide +kernel
abbrev cJ2_getChar_3b067 : ByteArray := prog_20_method_5_code
def yJ2_getChar_3b067 : MethodName := ⟨RJ2, "getChar", "([BI)C"⟩
abbrev cJ2_length_9d52b : ByteArray := prog_20_method_6_code
def yJ2_length_9d52b : MethodName := ⟨RJ2, "length", "([B)I"⟩
abbrev cJ2_charAt_3b067 : ByteArray := prog_20_method_83_code
def yJ2_charAt_3b067 : MethodName := ⟨RJ2, "charAt", "([BI)C"⟩
abbrev cJ2_checkIndex_2214a : ByteArray := prog_20_method_91_code
def yJ2_checkIndex_2214a : MethodName := ⟨RJ2, "checkIndex", "(I[B)V"⟩
def RJ10 : String := "java/lang/System"
def TJ10 : u_T := fun k => match k with
  | _ => ("", "", "", false)
def tyJ10 : Nat → FieldType := fun k => match k with
  | _ => .int
abbrev wsJ100 : List Cond := u_ws RJ10 TJ10 0
theorem nmJ10 : ∀ a, a < 0 → ∀ b, b < 0 → a ≠ b → (TJ10 a).2.1 ≠ (TJ10 b).2.1 := by decide +kernel
theorem tyJ10_ok : ∀ k, k < 0 → parseFieldDescriptor (TJ10 k).2.2.1 = some (tyJ10 k) := by decide +kernel
def RJxfd54e : String := "java/lang/constant/Constable"
def TJxfd54e : u_T := fun k => match k with
  | _ => ("", "", "", false)
def tyJxfd54e : Nat → FieldType := fun k => match k with
  | _ => .int
abbrev wsJxfd54e0 : List Cond := u_ws RJxfd54e TJxfd54e 0
theorem nmJxfd54e : ∀ a, a < 0 → ∀ b, b < 0 → a ≠ b → (TJxfd54e a).2.1 ≠ (TJxfd54e b).2.1 := by decide +kernel
theorem tyJxfd54e_ok : ∀ k, k < 0 → parseFieldDescriptor (TJxfd54e k).2.2.1 = some (tyJxfd54e k) := by decide +kernel
def RJx3cf43 : String := "java/lang/constant/ConstantDesc"
def TJx3cf43 : u_T := fun k => match k with
  | _ => ("", "", "", false)
def tyJx3cf43 : Nat → FieldType := fun k => match k with
  | _ => .int
abbrev wsJx3cf430 : List Cond := u_ws RJx3cf43 TJx3cf43 0
theorem nmJx3cf43 : ∀ a, a < 0 → ∀ b, b < 0 → a ≠ b → (TJx3cf43 a).2.1 ≠ (TJx3cf43 b).2.1 := by decide +kernel
theorem tyJx3cf43_ok : ∀ k, k < 0 → parseFieldDescriptor (TJx3cf43 k).2.2.1 = some (tyJx3cf43 k) := by decide +kernel
def RJ7 : String := "java/util/Arrays"
def TJ7 : u_T := fun k => match k with
  | _ => ("", "", "", false)
def tyJ7 : Nat → FieldType := fun k => match k with
  | _ => .int
abbrev wsJ70 : List Cond := u_ws RJ7 TJ7 0
theorem nmJ7 : ∀ a, a < 0 → ∀ b, b < 0 → a ≠ b → (TJ7 a).2.1 ≠ (TJ7 b).2.1 := by decide +kernel
theorem tyJ7_ok : ∀ k, k < 0 → parseFieldDescriptor (TJ7 k).2.2.1 = some (tyJ7 k) := by decide +kernel
abbrev cJ7_fill_d0a16 : ByteArray := prog_22_method_101_code
def yJ7_fill_d0a16 : MethodName := ⟨RJ7, "fill", "([JJ)V"⟩
abbrev cJ7_fill_53178 : ByteArray := prog_22_method_103_code
def yJ7_fill_53178 : MethodName := ⟨RJ7, "fill", "([II)V"⟩
def RJ3 : String := "jdk/internal/util/Preconditions"
def TJ3 : u_T := fun k => match k with
  | _ => ("", "", "", false)
def tyJ3 : Nat → FieldType := fun k => match k with
  | _ => .int
abbrev wsJ30 : List Cond := u_ws RJ3 TJ3 0
theorem nmJ3 : ∀ a, a < 0 → ∀ b, b < 0 → a ≠ b → (TJ3 a).2.1 ≠ (TJ3 b).2.1 := by decide +kernel
theorem tyJ3_ok : ∀ k, k < 0 → parseFieldDescriptor (TJ3 k).2.2.1 = some (tyJ3 k) := by decide +kernel
abbrev cJ3_checkIndex_8e157 : ByteArray := prog_23_method_11_code
def yJ3_checkIndex_8e157 : MethodName := ⟨RJ3, "checkIndex", "(IILjava/util/function/BiFunction;)I"⟩
def RL : String := "FurnitureVotesLaw"
abbrev cL_law : ByteArray := code
def yL_law : MethodName := ⟨RL, "law", "([I)Z"⟩
end
section
/-! a picture of a heap as a memory: cells have numbers, a number has a kind; ints and longs are two functions of cell and slot; references are a rule of numbers (but three fields, which hold a number) -/
def Tg : List Cond := lw_tbl.filter goodWord
abbrev Mem : Type := (Nat → Nat → Int32) × (Nat → Nat → Int64)
abbrev Kn : Type := Nat → Nat × Nat
abbrev Sx : Type := va_G × (Nat → ClassId) × (Nat → Nat) × Kn × Nat
abbrev Cx : Type := Program × Launch × Env × Room × State × MethodId × Array Value × List Frame × Method × Code
def pI (σ : Mem) (k j : Nat) (v : Int32) : Mem := (fun a i => if a = k ∧ i = j then v else σ.1 a i, σ.2)
def pL (σ : Mem) (k j : Nat) (v : Int64) : Mem := (σ.1, fun a i => if a = k ∧ i = j then v else σ.2 a i)
abbrev classes : List vw_C := [(RX0, TX0, 11), (RX1, TX1, 8), (RX2, TX2, 7), (RX3, TX3, 2), (RX4, TX4, 5), (RX5, TX5, 6), (RX6, TX6, 12), (RX7, TX7, 3), (RX8, TX8, 4), (RX9, TX9, 8), (RX10, TX10, 3), (RX11, TX11, 10), (RX12, TX12, 35)]
def fkT : List (List Nat) := [[0, 0, 0, 1, 1, 1, 1, 1, 1, 1, 1], [1, 0, 0, 0, 0, 0, 0, 1], [1, 1, 1, 1, 0, 0, 0], [1, 1], [0, 1, 1, 1, 1], [1, 1, 1, 0, 0, 0], [1, 1, 1, 0, 0, 2, 0, 0, 0, 0, 0, 1], [1, 1, 0], [0, 1, 1, 1], [1, 0, 0, 0, 1, 1, 1, 1], [1, 2, 2], [1, 1, 1, 1, 1, 1, 1, 1, 1, 1], [1, 1, 0, 0, 0, 0, 0, 0, 0, 0, 1, 0, 0, 0, 0, 0, 0, 1, 1, 1, 1, 0, 0, 0, 0, 0, 0, 1, 1, 1, 1, 1, 1, 0, 0]]
def fk (c j : Nat) : Nat := (fkT.getD c []).getD j 0
def roT : List (List Nat) := [[0, 0, 0, 1, 2, 3, 4, 5, 6, 7, 8], [1, 0, 0, 0, 0, 0, 0, 14], [1, 10, 11, 12, 0, 0, 0], [1, 2], [0, 1, 2, 3, 4], [1, 2, 3, 0, 0, 0], [1, 10, 14, 0, 0, 0, 0, 0, 0, 0, 0, 20], [1, 2, 0], [0, 1, 2, 3], [1, 0, 0, 0, 2, 3, 4, 5], [1, 0, 0], [1, 43, 170, 171, 192, 205, 220, 236, 251, 266], [1, 2, 0, 0, 0, 0, 0, 0, 0, 0, 3, 0, 0, 0, 0, 0, 0, 4, 5, 6, 7, 0, 0, 0, 0, 0, 0, 8, 9, 10, 11, 12, 13, 0, 0]]
def ro (c j : Nat) : Nat := (roT.getD c []).getD j 0
def nf (c : Nat) : Nat := ([11, 8, 7, 2, 5, 6, 12, 3, 4, 8, 3, 10, 35] : List Nat).getD c 0
/-- the cell that a row of references holds -/
def raE (c k j : Nat) : Nat := if c = 60 then k + 3 + 9 * j else if c = 61 then k + 20 + 4 * j else if c = 62 then k + 27 + 5 * j else k + 1 + 42 * j
def fv (kd : Kn) (ad : Nat → Nat) (σ : Mem) (k j : Nat) : Value := if fk (kd k).1 j = 0 then .int (σ.1 k j) else if fk (kd k).1 j = 1 then .ref (ad (k + ro (kd k).1 j)) else .ref (ad (σ.1 k j).toNatClampNeg)
def ent (kd : Kn) (cA : Nat → ClassId) (ad : Nat → Nat) (σ : Mem) (k : Nat) : va_E :=
  if (kd k).1 < 50 then .inr ((kd k).1, (List.range (nf (kd k).1)).map (fv kd ad σ k))
  else if (kd k).1 = 53 then .inl (cA 53, (kd k).2, .inr (.inl (σ.2 k)))
  else if (kd k).1 < 53 then .inl (cA (kd k).1, (kd k).2, .inl (σ.1 k))
  else .inl (cA (kd k).1, (kd k).2, .inr (.inr (.inr (.inr (fun j => some (ad (raE (kd k).1 k j)))))))
def mws (z : Sx) (σ : Mem) : va_W := (List.range z.2.2.2.2).map (fun k => (z.2.2.1 k, ent z.2.2.2.1 z.2.1 z.2.2.1 σ k))
def mty (z : Sx) : List (ClassId × FieldType) := [(z.2.1 50, .int), (z.2.1 51, .boolean), (z.2.1 52, .byte), (z.2.1 53, .long), (z.2.1 60, .object RX0), (z.2.1 61, .object RX8), (z.2.1 62, .object RX4), (z.2.1 63, .object RX9)]
def zA (z : Sx) : Nat → Prop := fun q => ∃ k, k < z.2.2.2.2 ∧ z.2.2.1 k = q
/-- the picture is sound: addresses are apart, a kind is only a cell's -/
def ZOk (z : Sx) : Prop := (∀ i j, i < z.2.2.2.2 → j < z.2.2.2.2 → z.2.2.1 i = z.2.2.1 j → i = j) ∧ (∀ k, (z.2.2.2.1 k).1 < 99 → k < z.2.2.2.2) ∧ z.2.2.2.2 < 100000
theorem mws_at {z : Sx} {σ : Mem} {k : Nat} (h : k < z.2.2.2.2) : (mws z σ)[k]? = some (z.2.2.1 k, ent z.2.2.2.1 z.2.1 z.2.2.1 σ k) := by
  unfold mws
  rw [List.getElem?_map, List.getElem?_range h]; rfl
theorem mws_D {z : Sx} (hz : ZOk z) (σ : Mem) : va_D (zA z) (mws z σ) := by
  refine ⟨fun i j p q hi hj e => ?_, fun k q hk => ?_⟩
  · have h1 : i < z.2.2.2.2 := by have := (List.getElem?_eq_some_iff.mp hi).1; simpa [mws] using this
    have h2 : j < z.2.2.2.2 := by have := (List.getElem?_eq_some_iff.mp hj).1; simpa [mws] using this
    rw [mws_at h1] at hi; rw [mws_at h2] at hj
    cases hi; cases hj
    exact hz.1 i j h1 h2 e
  · have h1 : k < z.2.2.2.2 := by have := (List.getElem?_eq_some_iff.mp hk).1; simpa [mws] using this
    rw [mws_at h1] at hk
    cases hk
    exact ⟨k, h1, rfl⟩
theorem mws_set {z : Sx} {σ σ' : Mem} {k : Nat} {e : va_E} (h : ent z.2.2.2.1 z.2.1 z.2.2.1 σ' k = e) (ho : ∀ i, i ≠ k → ent z.2.2.2.1 z.2.1 z.2.2.1 σ' i = ent z.2.2.2.1 z.2.1 z.2.2.1 σ i) : (mws z σ).set k (z.2.2.1 k, e) = mws z σ' := by
  apply List.ext_getElem?
  intro i
  rw [List.getElem?_set]
  by_cases hi : i < z.2.2.2.2
  · rw [mws_at hi, mws_at hi]
    by_cases hk : k = i
    · subst hk
      rw [if_pos rfl, if_pos (by simpa [mws] using hi), h]
    · rw [if_neg hk, ho i (fun q => hk q.symm)]
  · have e1 : (mws z σ)[i]? = none := List.getElem?_eq_none (by simpa [mws] using hi)
    have e2 : (mws z σ')[i]? = none := List.getElem?_eq_none (by simpa [mws] using hi)
    rw [e1, e2]
    by_cases hk : k = i
    · subst hk
      rw [if_pos rfl, if_neg (by simpa [mws] using hi)]
    · rw [if_neg hk]
theorem pI_ne {σ : Mem} {k j i : Nat} {v : Int32} (h : i ≠ k) : (pI σ k j v).1 i = σ.1 i := by funext a; simp [pI, h]
theorem pL_ne {σ : Mem} {k j i : Nat} {v : Int64} (h : i ≠ k) : (pL σ k j v).2 i = σ.2 i := by funext a; simp [pL, h]
theorem pI_up {σ : Mem} {k j : Nat} {v : Int32} : (pI σ k j v).1 k = upd (σ.1 k) j v := by funext a; simp [pI, upd]
theorem pI_2 {σ : Mem} {k j : Nat} {v : Int32} : (pI σ k j v).2 = σ.2 := rfl
theorem pL_1 {σ : Mem} {k j : Nat} {v : Int64} : (pL σ k j v).1 = σ.1 := rfl
theorem fv_ne {kd : Kn} {ad : Nat → Nat} {σ : Mem} {k j i a : Nat} {v : Int32} (h : i ≠ k) : fv kd ad (pI σ k j v) i a = fv kd ad σ i a := by unfold fv; rw [pI_ne h]
theorem ent_ne {kd : Kn} {cA : Nat → ClassId} {ad : Nat → Nat} {σ : Mem} {k j i : Nat} {v : Int32} (h : i ≠ k) : ent kd cA ad (pI σ k j v) i = ent kd cA ad σ i := by
  have e : fv kd ad (pI σ k j v) i = fv kd ad σ i := by funext a; exact fv_ne h
  unfold ent; rw [pI_ne h, pI_2, e]
theorem ent_neL {kd : Kn} {cA : Nat → ClassId} {ad : Nat → Nat} {σ : Mem} {k j i : Nat} {v : Int64} (h : i ≠ k) : ent kd cA ad (pL σ k j v) i = ent kd cA ad σ i := by
  have e : fv kd ad (pL σ k j v) i = fv kd ad σ i := rfl
  unfold ent; rw [pL_ne h, pL_1, e]
theorem ent_obj {kd : Kn} {cA : Nat → ClassId} {ad : Nat → Nat} {σ : Mem} {k c : Nat} (h : kd k = (c, 0)) (hc : c < 50) : ent kd cA ad σ k = .inr (c, (List.range (nf c)).map (fv kd ad σ k)) := by
  unfold ent; rw [h]; exact if_pos hc
theorem ent_int {kd : Kn} {cA : Nat → ClassId} {ad : Nat → Nat} {σ : Mem} {k c n : Nat} (h : kd k = (c, n)) (h1 : 50 ≤ c) (h2 : c < 53) : ent kd cA ad σ k = .inl (cA c, n, .inl (σ.1 k)) := by
  unfold ent; rw [h]; dsimp only
  rw [if_neg (by omega), if_neg (by omega), if_pos h2]
theorem ent_lng {kd : Kn} {cA : Nat → ClassId} {ad : Nat → Nat} {σ : Mem} {k n : Nat} (h : kd k = (53, n)) : ent kd cA ad σ k = .inl (cA 53, n, .inr (.inl (σ.2 k))) := by
  unfold ent; rw [h]; dsimp only
  rw [if_neg (by omega), if_pos rfl]
theorem ent_ref {kd : Kn} {cA : Nat → ClassId} {ad : Nat → Nat} {σ : Mem} {k c n : Nat} (h : kd k = (c, n)) (h1 : 60 ≤ c) : ent kd cA ad σ k = .inl (cA c, n, .inr (.inr (.inr (.inr (fun j => some (ad (raE c k j))))))) := by
  unfold ent; rw [h]; dsimp only
  rw [if_neg (by omega), if_neg (by omega), if_neg (by omega)]
theorem fv_at {kd : Kn} {ad : Nat → Nat} {σ : Mem} {k c j : Nat} (hj : j < nf c) : ((List.range (nf c)).map (fv kd ad σ k))[j]? = some (fv kd ad σ k j) := by
  rw [List.getElem?_map, List.getElem?_range hj]; rfl
theorem fv_int {kd : Kn} {ad : Nat → Nat} {σ : Mem} {k c j : Nat} (h : kd k = (c, 0)) (hf : fk c j = 0) : fv kd ad σ k j = .int (σ.1 k j) := by unfold fv; rw [h]; exact if_pos hf
theorem fv_ref {kd : Kn} {ad : Nat → Nat} {σ : Mem} {k c j : Nat} (h : kd k = (c, 0)) (hf : fk c j = 1) : fv kd ad σ k j = .ref (ad (k + ro c j)) := by
  unfold fv; rw [h]; dsimp only; rw [if_neg (by omega), if_pos hf]
theorem fv_mut {kd : Kn} {ad : Nat → Nat} {σ : Mem} {k c j : Nat} (h : kd k = (c, 0)) (hf : fk c j = 2) : fv kd ad σ k j = .ref (ad (σ.1 k j).toNatClampNeg) := by
  unfold fv; rw [h]; dsimp only; rw [if_neg (by omega), if_neg (by omega)]
theorem fv_set {kd : Kn} {ad : Nat → Nat} {σ : Mem} {k c j : Nat} {v : Int32} {u : Value} (h : kd k = (c, 0)) (hj : j < nf c) (hu : fv kd ad (pI σ k j v) k j = u) : ((List.range (nf c)).map (fv kd ad σ k)).set j u = (List.range (nf c)).map (fv kd ad (pI σ k j v) k) := by
  apply List.ext_getElem?
  intro i
  rw [List.getElem?_set]
  by_cases hi : i < nf c
  · rw [fv_at hi, fv_at hi]
    by_cases hk : j = i
    · subst hk
      rw [if_pos rfl, if_pos (by simpa using hj), hu]
    · rw [if_neg hk]
      congr 1
      unfold fv
      have : (pI σ k j v).1 k i = σ.1 k i := by simp [pI]; intro q; exact absurd q.symm hk
      rw [this]
  · rw [List.getElem?_eq_none (by simpa using hi), List.getElem?_eq_none (by simpa using hi)]
    by_cases hk : j = i
    · subst hk; exact absurd hj hi
    · rw [if_neg hk]
/-- what is known of a method's frame x over a picture z -/
def XG (x : Cx) (z : Sx) (own : String) (cc : ByteArray) (nL fr lo : Nat) : Prop := match x with
  | (p, _, _, R, s, m, args, _, meth, c) => p.tables.exec = Jvm.exec ∧ c.code = cc ∧ c.maxLocals = nL ∧ s.vm.findClass own = some m.cls ∧ (∀ w ∈ Tg, w.before args s = true) ∧ va_K z.1 classes (mty z) s ∧ ZOk z ∧ fr ≤ R.frames ∧ lo ≤ R.locals ∧ meth.locks = false
def XW (x : Cx) (H : Heap) (locs : List Loc) (Q : State → Prop) (pc : Nat) (ls : Array Slot) (st : List Value) : Prop := match x with
  | (p, l, e, R, s, m, args, below, meth, c) => W p l e R s m args below meth c H locs 0 0 Q (F0 m pc ls st)
/-- from pc, with these locals, this stack and this memory, the machine ends as the program κ says -/
def VK {ρ : Type} (x : Cx) (z : Sx) (nL : Nat) (Q : ρ → Mem → State → Prop) (pc : Nat) (L : List (Nat × Value)) (st : List Value) (σ : Mem) (κ : Option (ρ × Mem)) : Prop :=
  ∀ (r : ρ) (σ' : Mem), κ = some (r, σ') → ∀ (H : Heap) (locs : List Loc) (ls : Array Slot), va_P z.1 classes (mws z σ) H → va_S (zA z) x.2.2.2.2.1.heap H locs → lv_has ls nL L → XW x H locs (Q r σ') pc ls st
def inb (i : Int32) (n : Nat) : Bool := !(decide (i < 0)) && decide (i.toNatClampNeg < n)
def gd {α : Type} (b : Bool) (κ : Option α) : Option α := if b = true then κ else none
def bd {α β : Type} (κ : Option (α × Mem)) (f : α → Mem → Option β) : Option β := match κ with
  | none => none
  | some (r, σ) => f r σ
def lt_ {α β : Type} (a : α) (f : α → β) : β := f a
theorem gd_some {α : Type} {b : Bool} {κ : Option α} {v : α} (h : gd b κ = some v) : b = true ∧ κ = some v := by
  cases b
  · cases h
  · exact ⟨rfl, h⟩
theorem inb_in {i : Int32} {n : Nat} (h : inb i n = true) : vp_in i n := by
  simp only [inb, Bool.and_eq_true, Bool.not_eq_true', decide_eq_false_iff_not, decide_eq_true_eq] at h
  intro q
  rcases q with q | q
  · exact h.1 q
  · omega
/-- a class's tables -/
def CO (ci : Nat) (C : String) (T : u_T) (N : Nat) (ty : Nat → FieldType) : Prop := classes[ci]? = some (C, T, N) ∧ nf ci = N ∧ ci < 50 ∧ (∀ w ∈ u_ws C T N, w ∈ Tg) ∧ (∀ k, k < N → parseFieldDescriptor (T k).2.2.1 = some (ty k)) ∧ (∀ a, a < N → ∀ b, b < N → a ≠ b → (T a).2.1 ≠ (T b).2.1)
section VKR
variable {ρ : Type} {x : Cx} {z : Sx} {own : String} {cc : ByteArray} {nL fr lo : Nat} {Q : ρ → Mem → State → Prop} {pc : Nat} {L : List (Nat × Value)} {st : List Value} {σ : Mem} {κ κ1 κ2 : Option (ρ × Mem)}
theorem V_eq {κ' : Option (ρ × Mem)} (h : κ = κ') (k : VK x z nL Q pc L st σ κ') : VK x z nL Q pc L st σ κ := h ▸ k
theorem V_sub {L' : List (Nat × Value)} (ks : List Nat) (h : lv_pick L ks = L') (k : VK x z nL Q pc L' st σ κ) : VK x z nL Q pc L st σ κ :=
  fun r σ' e H locs ls hP hS hl => k r σ' e H locs ls hP hS (lv_sub hl ks h)
theorem V_none : VK x z nL Q pc L st σ none := fun r σ' e => by cases e
theorem V_lt {α : Type} {a : α} {f : α → Option (ρ × Mem)} (k : VK x z nL Q pc L st σ (f a)) : VK x z nL Q pc L st σ (lt_ a f) := k
theorem V_iconst {n : Int} {v : Int32} (X : XG x z own cc nL fr lo) (hd : decode cc pc = .ok (.iconst n, 1)) (hv : Int32.ofInt n = v) (k : VK x z nL Q (pc + 1) L (.int v :: st) σ κ) : VK x z nL Q pc L (st) σ κ := by
  obtain ⟨p, l, e, R, s, m, args, below, meth, c⟩ := x
  obtain ⟨hx, hb, hml, hown, hts, hK, hz, hfr, hlo, hlk⟩ := X
  intro r σ' h H locs ls hP hS hl
  exact lv_iconst hx hb hd hv (k r σ' h H locs ls hP hS hl)
theorem V_bipush {n : Int} {v : Int32} (X : XG x z own cc nL fr lo) (hd : decode cc pc = .ok (.bipush n, 2)) (hv : (Int8.ofInt n).toInt32 = v) (k : VK x z nL Q (pc + 2) L (.int v :: st) σ κ) : VK x z nL Q pc L (st) σ κ := by
  obtain ⟨p, l, e, R, s, m, args, below, meth, c⟩ := x
  obtain ⟨hx, hb, hml, hown, hts, hK, hz, hfr, hlo, hlk⟩ := X
  intro r σ' h H locs ls hP hS hl
  exact lv_bipush hx hb hd hv (k r σ' h H locs ls hP hS hl)
theorem V_sipush {n : Int} {v : Int32} (X : XG x z own cc nL fr lo) (hd : decode cc pc = .ok (.sipush n, 3)) (hv : (Int16.ofInt n).toInt32 = v) (k : VK x z nL Q (pc + 3) L (.int v :: st) σ κ) : VK x z nL Q pc L (st) σ κ := by
  obtain ⟨p, l, e, R, s, m, args, below, meth, c⟩ := x
  obtain ⟨hx, hb, hml, hown, hts, hK, hz, hfr, hlo, hlk⟩ := X
  intro r σ' h H locs ls hP hS hl
  exact lv_sipush hx hb hd hv (k r σ' h H locs ls hP hS hl)
theorem V_lconst {n : Fin 2} {v : Int64} (X : XG x z own cc nL fr lo) (hd : decode cc pc = .ok (.lconst n, 1)) (hv : Int64.ofNat (n : Nat) = v) (k : VK x z nL Q (pc + 1) L (.long v :: st) σ κ) : VK x z nL Q pc L (st) σ κ := by
  obtain ⟨p, l, e, R, s, m, args, below, meth, c⟩ := x
  obtain ⟨hx, hb, hml, hown, hts, hK, hz, hfr, hlo, hlk⟩ := X
  intro r σ' h H locs ls hP hS hl
  exact lv_lconst hx hb hd hv (k r σ' h H locs ls hP hS hl)
theorem V_ldc {index : Nat} {v : Int32} (X : XG x z own cc nL fr lo) (hd : decode cc pc = .ok (.ldc index, 2)) (hc : Cond.constant own index v ∈ Tg) (k : VK x z nL Q (pc + 2) L (.int v :: st) σ κ) : VK x z nL Q pc L (st) σ κ := by
  obtain ⟨p, l, e, R, s, m, args, below, meth, c⟩ := x
  obtain ⟨hx, hb, hml, hown, hts, hK, hz, hfr, hlo, hlk⟩ := X
  intro r σ' h H locs ls hP hS hl
  exact lv_ldc hx hb hown (hts _ hc) hd (k r σ' h H locs ls hP hS hl)
theorem V_ldc2 {index : Nat} {v : Int64} (X : XG x z own cc nL fr lo) (hd : decode cc pc = .ok (.ldc2_w index, 3)) (hc : Cond.constantLong own index v ∈ Tg) (k : VK x z nL Q (pc + 3) L (.long v :: st) σ κ) : VK x z nL Q pc L (st) σ κ := by
  obtain ⟨p, l, e, R, s, m, args, below, meth, c⟩ := x
  obtain ⟨hx, hb, hml, hown, hts, hK, hz, hfr, hlo, hlk⟩ := X
  intro r σ' h H locs ls hP hS hl
  exact lv_ldc2 hx hb hown (hts _ hc) hd (k r σ' h H locs ls hP hS hl)
theorem V_iload_n {v : Int32} {j : Fin 4} {i : Nat} (q : Nat) (X : XG x z own cc nL fr lo) (hd : decode cc pc = .ok (.iload_n j, 1)) (hi : (j : Nat) = i) (hL : L[q]? = some (i, .int v)) (k : VK x z nL Q (pc + 1) L (.int v :: st) σ κ) : VK x z nL Q pc L (st) σ κ := by
  obtain ⟨p, l, e, R, s, m, args, below, meth, c⟩ := x
  obtain ⟨hx, hb, hml, hown, hts, hK, hz, hfr, hlo, hlk⟩ := X
  intro r σ' h H locs ls hP hS hl
  exact lv_iload_n hx hb hd hi (lv_at hl q hL) (k r σ' h H locs ls hP hS hl)
theorem V_iload {v : Int32} {i : Nat} (q : Nat) (X : XG x z own cc nL fr lo) (hd : decode cc pc = .ok (.iload i, 2)) (hL : L[q]? = some (i, .int v)) (k : VK x z nL Q (pc + 2) L (.int v :: st) σ κ) : VK x z nL Q pc L (st) σ κ := by
  obtain ⟨p, l, e, R, s, m, args, below, meth, c⟩ := x
  obtain ⟨hx, hb, hml, hown, hts, hK, hz, hfr, hlo, hlk⟩ := X
  intro r σ' h H locs ls hP hS hl
  exact lv_iload hx hb hd (lv_at hl q hL) (k r σ' h H locs ls hP hS hl)
theorem V_lload_n {v : Int64} {j : Fin 4} {i : Nat} (q : Nat) (X : XG x z own cc nL fr lo) (hd : decode cc pc = .ok (.lload_n j, 1)) (hi : (j : Nat) = i) (hL : L[q]? = some (i, .long v)) (k : VK x z nL Q (pc + 1) L (.long v :: st) σ κ) : VK x z nL Q pc L (st) σ κ := by
  obtain ⟨p, l, e, R, s, m, args, below, meth, c⟩ := x
  obtain ⟨hx, hb, hml, hown, hts, hK, hz, hfr, hlo, hlk⟩ := X
  intro r σ' h H locs ls hP hS hl
  exact lv_lload_n hx hb hd hi (lv_at hl q hL) (k r σ' h H locs ls hP hS hl)
theorem V_lload {v : Int64} {i : Nat} (q : Nat) (X : XG x z own cc nL fr lo) (hd : decode cc pc = .ok (.lload i, 2)) (hL : L[q]? = some (i, .long v)) (k : VK x z nL Q (pc + 2) L (.long v :: st) σ κ) : VK x z nL Q pc L (st) σ κ := by
  obtain ⟨p, l, e, R, s, m, args, below, meth, c⟩ := x
  obtain ⟨hx, hb, hml, hown, hts, hK, hz, hfr, hlo, hlk⟩ := X
  intro r σ' h H locs ls hP hS hl
  exact lv_lload hx hb hd (lv_at hl q hL) (k r σ' h H locs ls hP hS hl)
theorem V_aload_n {v : Nat} {j : Fin 4} {i : Nat} (q : Nat) (X : XG x z own cc nL fr lo) (hd : decode cc pc = .ok (.aload_n j, 1)) (hi : (j : Nat) = i) (hL : L[q]? = some (i, .ref v)) (k : VK x z nL Q (pc + 1) L (.ref v :: st) σ κ) : VK x z nL Q pc L (st) σ κ := by
  obtain ⟨p, l, e, R, s, m, args, below, meth, c⟩ := x
  obtain ⟨hx, hb, hml, hown, hts, hK, hz, hfr, hlo, hlk⟩ := X
  intro r σ' h H locs ls hP hS hl
  exact lv_aload_n hx hb hd hi (lv_at hl q hL) (k r σ' h H locs ls hP hS hl)
theorem V_aload {v : Nat} {i : Nat} (q : Nat) (X : XG x z own cc nL fr lo) (hd : decode cc pc = .ok (.aload i, 2)) (hL : L[q]? = some (i, .ref v)) (k : VK x z nL Q (pc + 2) L (.ref v :: st) σ κ) : VK x z nL Q pc L (st) σ κ := by
  obtain ⟨p, l, e, R, s, m, args, below, meth, c⟩ := x
  obtain ⟨hx, hb, hml, hown, hts, hK, hz, hfr, hlo, hlk⟩ := X
  intro r σ' h H locs ls hP hS hl
  exact lv_aload hx hb hd (lv_at hl q hL) (k r σ' h H locs ls hP hS hl)
theorem V_aload_nN {j : Fin 4} {i : Nat} (q : Nat) (X : XG x z own cc nL fr lo) (hd : decode cc pc = .ok (.aload_n j, 1)) (hi : (j : Nat) = i) (hL : L[q]? = some (i, .null)) (k : VK x z nL Q (pc + 1) L (.null :: st) σ κ) : VK x z nL Q pc L (st) σ κ := by
  obtain ⟨p, l, e, R, s, m, args, below, meth, c⟩ := x
  obtain ⟨hx, hb, hml, hown, hts, hK, hz, hfr, hlo, hlk⟩ := X
  intro r σ' h H locs ls hP hS hl
  exact lv_aload_nN hx hb hd hi (lv_at hl q hL) (k r σ' h H locs ls hP hS hl)
theorem V_aloadN {i : Nat} (q : Nat) (X : XG x z own cc nL fr lo) (hd : decode cc pc = .ok (.aload i, 2)) (hL : L[q]? = some (i, .null)) (k : VK x z nL Q (pc + 2) L (.null :: st) σ κ) : VK x z nL Q pc L (st) σ κ := by
  obtain ⟨p, l, e, R, s, m, args, below, meth, c⟩ := x
  obtain ⟨hx, hb, hml, hown, hts, hK, hz, hfr, hlo, hlk⟩ := X
  intro r σ' h H locs ls hP hS hl
  exact lv_aloadN hx hb hd (lv_at hl q hL) (k r σ' h H locs ls hP hS hl)
theorem V_istore_n {v : Int32} {j : Fin 4} {i : Nat} {L' : List (Nat × Value)} (X : XG x z own cc nL fr lo) (hd : decode cc pc = .ok (.istore_n j, 1)) (hi : (j : Nat) = i) (hn : i < nL) (hl' : (i, Value.int v) :: L.filter (fun q => !(q.1 == i) && !(q.1 + 1 == i && q.2.category == 2)) = L') (k : VK x z nL Q (pc + 1) L' st σ κ) : VK x z nL Q pc L (Value.int v :: st) σ κ := by
  obtain ⟨p, l, e, R, s, m, args, below, meth, c⟩ := x
  obtain ⟨hx, hb, hml, hown, hts, hK, hz, hfr, hlo, hlk⟩ := X
  intro r σ' h H locs ls hP hS hl
  exact lv_istore_n hx hb hd hi hl hn hl' (fun ls hl => k r σ' h H locs ls hP hS hl)
theorem V_istore {v : Int32} {i : Nat} {L' : List (Nat × Value)} (X : XG x z own cc nL fr lo) (hd : decode cc pc = .ok (.istore i, 2)) (hn : i < nL) (hl' : (i, Value.int v) :: L.filter (fun q => !(q.1 == i) && !(q.1 + 1 == i && q.2.category == 2)) = L') (k : VK x z nL Q (pc + 2) L' st σ κ) : VK x z nL Q pc L (Value.int v :: st) σ κ := by
  obtain ⟨p, l, e, R, s, m, args, below, meth, c⟩ := x
  obtain ⟨hx, hb, hml, hown, hts, hK, hz, hfr, hlo, hlk⟩ := X
  intro r σ' h H locs ls hP hS hl
  exact lv_istore hx hb hd hl hn hl' (fun ls hl => k r σ' h H locs ls hP hS hl)
theorem V_lstore_n {v : Int64} {j : Fin 4} {i : Nat} {L' : List (Nat × Value)} (X : XG x z own cc nL fr lo) (hd : decode cc pc = .ok (.lstore_n j, 1)) (hi : (j : Nat) = i) (hn : i + 1 < nL) (hl' : (i, Value.long v) :: L.filter (fun q => !(q.1 == i) && (!(q.1 == i + 1) && !(q.1 + 1 == i && q.2.category == 2))) = L') (k : VK x z nL Q (pc + 1) L' st σ κ) : VK x z nL Q pc L (Value.long v :: st) σ κ := by
  obtain ⟨p, l, e, R, s, m, args, below, meth, c⟩ := x
  obtain ⟨hx, hb, hml, hown, hts, hK, hz, hfr, hlo, hlk⟩ := X
  intro r σ' h H locs ls hP hS hl
  exact lv_lstore_n hx hb hd hi hl hn hl' (fun ls hl => k r σ' h H locs ls hP hS hl)
theorem V_lstore {v : Int64} {i : Nat} {L' : List (Nat × Value)} (X : XG x z own cc nL fr lo) (hd : decode cc pc = .ok (.lstore i, 2)) (hn : i + 1 < nL) (hl' : (i, Value.long v) :: L.filter (fun q => !(q.1 == i) && (!(q.1 == i + 1) && !(q.1 + 1 == i && q.2.category == 2))) = L') (k : VK x z nL Q (pc + 2) L' st σ κ) : VK x z nL Q pc L (Value.long v :: st) σ κ := by
  obtain ⟨p, l, e, R, s, m, args, below, meth, c⟩ := x
  obtain ⟨hx, hb, hml, hown, hts, hK, hz, hfr, hlo, hlk⟩ := X
  intro r σ' h H locs ls hP hS hl
  exact lv_lstore hx hb hd hl hn hl' (fun ls hl => k r σ' h H locs ls hP hS hl)
theorem V_astore_n {v : Nat} {j : Fin 4} {i : Nat} {L' : List (Nat × Value)} (X : XG x z own cc nL fr lo) (hd : decode cc pc = .ok (.astore_n j, 1)) (hi : (j : Nat) = i) (hn : i < nL) (hl' : (i, Value.ref v) :: L.filter (fun q => !(q.1 == i) && !(q.1 + 1 == i && q.2.category == 2)) = L') (k : VK x z nL Q (pc + 1) L' st σ κ) : VK x z nL Q pc L (Value.ref v :: st) σ κ := by
  obtain ⟨p, l, e, R, s, m, args, below, meth, c⟩ := x
  obtain ⟨hx, hb, hml, hown, hts, hK, hz, hfr, hlo, hlk⟩ := X
  intro r σ' h H locs ls hP hS hl
  exact lv_astore_n hx hb hd hi hl hn hl' (fun ls hl => k r σ' h H locs ls hP hS hl)
theorem V_astore {v : Nat} {i : Nat} {L' : List (Nat × Value)} (X : XG x z own cc nL fr lo) (hd : decode cc pc = .ok (.astore i, 2)) (hn : i < nL) (hl' : (i, Value.ref v) :: L.filter (fun q => !(q.1 == i) && !(q.1 + 1 == i && q.2.category == 2)) = L') (k : VK x z nL Q (pc + 2) L' st σ κ) : VK x z nL Q pc L (Value.ref v :: st) σ κ := by
  obtain ⟨p, l, e, R, s, m, args, below, meth, c⟩ := x
  obtain ⟨hx, hb, hml, hown, hts, hK, hz, hfr, hlo, hlk⟩ := X
  intro r σ' h H locs ls hP hS hl
  exact lv_astore hx hb hd hl hn hl' (fun ls hl => k r σ' h H locs ls hP hS hl)
theorem V_astore_nN {j : Fin 4} {i : Nat} {L' : List (Nat × Value)} (X : XG x z own cc nL fr lo) (hd : decode cc pc = .ok (.astore_n j, 1)) (hi : (j : Nat) = i) (hn : i < nL) (hl' : (i, Value.null) :: L.filter (fun q => !(q.1 == i) && !(q.1 + 1 == i && q.2.category == 2)) = L') (k : VK x z nL Q (pc + 1) L' st σ κ) : VK x z nL Q pc L (Value.null :: st) σ κ := by
  obtain ⟨p, l, e, R, s, m, args, below, meth, c⟩ := x
  obtain ⟨hx, hb, hml, hown, hts, hK, hz, hfr, hlo, hlk⟩ := X
  intro r σ' h H locs ls hP hS hl
  exact lv_astore_nN hx hb hd hi hl hn hl' (fun ls hl => k r σ' h H locs ls hP hS hl)
theorem V_astoreN {i : Nat} {L' : List (Nat × Value)} (X : XG x z own cc nL fr lo) (hd : decode cc pc = .ok (.astore i, 2)) (hn : i < nL) (hl' : (i, Value.null) :: L.filter (fun q => !(q.1 == i) && !(q.1 + 1 == i && q.2.category == 2)) = L') (k : VK x z nL Q (pc + 2) L' st σ κ) : VK x z nL Q pc L (Value.null :: st) σ κ := by
  obtain ⟨p, l, e, R, s, m, args, below, meth, c⟩ := x
  obtain ⟨hx, hb, hml, hown, hts, hK, hz, hfr, hlo, hlk⟩ := X
  intro r σ' h H locs ls hP hS hl
  exact lv_astoreN hx hb hd hl hn hl' (fun ls hl => k r σ' h H locs ls hP hS hl)
theorem V_iinc {i : Nat} {n : Int} {a v : Int32} {L' : List (Nat × Value)} (q : Nat) (X : XG x z own cc nL fr lo) (hd : decode cc pc = .ok (.iinc i n, 3)) (hL : L[q]? = some (i, .int a)) (hv : a + Int32.ofInt n = v) (hn : i < nL) (hl' : (i, Value.int v) :: L.filter (fun q => !(q.1 == i) && !(q.1 + 1 == i && q.2.category == 2)) = L') (k : VK x z nL Q (pc + 3) L' st σ κ) : VK x z nL Q pc L st σ κ := by
  obtain ⟨p, l, e, R, s, m, args, below, meth, c⟩ := x
  obtain ⟨hx, hb, hml, hown, hts, hK, hz, hfr, hlo, hlk⟩ := X
  intro r σ' h H locs ls hP hS hl
  exact lv_iinc hx hb hd hl hL hv hn hl' (fun ls hl => k r σ' h H locs ls hP hS hl)
theorem V_iadd {a b : Int32} (X : XG x z own cc nL fr lo) (hd : decode cc pc = .ok (.iadd, 1)) (k : VK x z nL Q (pc + 1) L (.int (a + b) :: st) σ κ) : VK x z nL Q pc L (.int b :: .int a :: st) σ κ := by
  obtain ⟨p, l, e, R, s, m, args, below, meth, c⟩ := x
  obtain ⟨hx, hb, hml, hown, hts, hK, hz, hfr, hlo, hlk⟩ := X
  intro r σ' h H locs ls hP hS hl
  exact lv_iadd hx hb hd (k r σ' h H locs ls hP hS hl)
theorem V_isub {a b : Int32} (X : XG x z own cc nL fr lo) (hd : decode cc pc = .ok (.isub, 1)) (k : VK x z nL Q (pc + 1) L (.int (a - b) :: st) σ κ) : VK x z nL Q pc L (.int b :: .int a :: st) σ κ := by
  obtain ⟨p, l, e, R, s, m, args, below, meth, c⟩ := x
  obtain ⟨hx, hb, hml, hown, hts, hK, hz, hfr, hlo, hlk⟩ := X
  intro r σ' h H locs ls hP hS hl
  exact lv_isub hx hb hd (k r σ' h H locs ls hP hS hl)
theorem V_imul {a b : Int32} (X : XG x z own cc nL fr lo) (hd : decode cc pc = .ok (.imul, 1)) (k : VK x z nL Q (pc + 1) L (.int (a * b) :: st) σ κ) : VK x z nL Q pc L (.int b :: .int a :: st) σ κ := by
  obtain ⟨p, l, e, R, s, m, args, below, meth, c⟩ := x
  obtain ⟨hx, hb, hml, hown, hts, hK, hz, hfr, hlo, hlk⟩ := X
  intro r σ' h H locs ls hP hS hl
  exact lv_imul hx hb hd (k r σ' h H locs ls hP hS hl)
theorem V_iand {a b : Int32} (X : XG x z own cc nL fr lo) (hd : decode cc pc = .ok (.iand, 1)) (k : VK x z nL Q (pc + 1) L (.int (a &&& b) :: st) σ κ) : VK x z nL Q pc L (.int b :: .int a :: st) σ κ := by
  obtain ⟨p, l, e, R, s, m, args, below, meth, c⟩ := x
  obtain ⟨hx, hb, hml, hown, hts, hK, hz, hfr, hlo, hlk⟩ := X
  intro r σ' h H locs ls hP hS hl
  exact lv_iand hx hb hd (k r σ' h H locs ls hP hS hl)
theorem V_ior {a b : Int32} (X : XG x z own cc nL fr lo) (hd : decode cc pc = .ok (.ior, 1)) (k : VK x z nL Q (pc + 1) L (.int (a ||| b) :: st) σ κ) : VK x z nL Q pc L (.int b :: .int a :: st) σ κ := by
  obtain ⟨p, l, e, R, s, m, args, below, meth, c⟩ := x
  obtain ⟨hx, hb, hml, hown, hts, hK, hz, hfr, hlo, hlk⟩ := X
  intro r σ' h H locs ls hP hS hl
  exact lv_ior hx hb hd (k r σ' h H locs ls hP hS hl)
theorem V_ixor {a b : Int32} (X : XG x z own cc nL fr lo) (hd : decode cc pc = .ok (.ixor, 1)) (k : VK x z nL Q (pc + 1) L (.int (a ^^^ b) :: st) σ κ) : VK x z nL Q pc L (.int b :: .int a :: st) σ κ := by
  obtain ⟨p, l, e, R, s, m, args, below, meth, c⟩ := x
  obtain ⟨hx, hb, hml, hown, hts, hK, hz, hfr, hlo, hlk⟩ := X
  intro r σ' h H locs ls hP hS hl
  exact lv_ixor hx hb hd (k r σ' h H locs ls hP hS hl)
theorem V_ishl {a b : Int32} (X : XG x z own cc nL fr lo) (hd : decode cc pc = .ok (.ishl, 1)) (k : VK x z nL Q (pc + 1) L (.int (a <<< (b &&& 31)) :: st) σ κ) : VK x z nL Q pc L (.int b :: .int a :: st) σ κ := by
  obtain ⟨p, l, e, R, s, m, args, below, meth, c⟩ := x
  obtain ⟨hx, hb, hml, hown, hts, hK, hz, hfr, hlo, hlk⟩ := X
  intro r σ' h H locs ls hP hS hl
  exact lv_ishl hx hb hd (k r σ' h H locs ls hP hS hl)
theorem V_ishr {a b : Int32} (X : XG x z own cc nL fr lo) (hd : decode cc pc = .ok (.ishr, 1)) (k : VK x z nL Q (pc + 1) L (.int (a >>> (b &&& 31)) :: st) σ κ) : VK x z nL Q pc L (.int b :: .int a :: st) σ κ := by
  obtain ⟨p, l, e, R, s, m, args, below, meth, c⟩ := x
  obtain ⟨hx, hb, hml, hown, hts, hK, hz, hfr, hlo, hlk⟩ := X
  intro r σ' h H locs ls hP hS hl
  exact lv_ishr hx hb hd (k r σ' h H locs ls hP hS hl)
theorem V_iushr {a b : Int32} (X : XG x z own cc nL fr lo) (hd : decode cc pc = .ok (.iushr, 1)) (k : VK x z nL Q (pc + 1) L (.int (a.toUInt32 >>> (b.toUInt32 &&& Int32.toUInt32 31)).toInt32 :: st) σ κ) : VK x z nL Q pc L (.int b :: .int a :: st) σ κ := by
  obtain ⟨p, l, e, R, s, m, args, below, meth, c⟩ := x
  obtain ⟨hx, hb, hml, hown, hts, hK, hz, hfr, hlo, hlk⟩ := X
  intro r σ' h H locs ls hP hS hl
  exact lv_iushr hx hb hd rfl (k r σ' h H locs ls hP hS hl)
theorem V_ineg {a : Int32} (X : XG x z own cc nL fr lo) (hd : decode cc pc = .ok (.ineg, 1)) (k : VK x z nL Q (pc + 1) L (.int (-a) :: st) σ κ) : VK x z nL Q pc L (.int a :: st) σ κ := by
  obtain ⟨p, l, e, R, s, m, args, below, meth, c⟩ := x
  obtain ⟨hx, hb, hml, hown, hts, hK, hz, hfr, hlo, hlk⟩ := X
  intro r σ' h H locs ls hP hS hl
  exact lv_ineg hx hb hd (k r σ' h H locs ls hP hS hl)
theorem V_ladd {a b : Int64} (X : XG x z own cc nL fr lo) (hd : decode cc pc = .ok (.ladd, 1)) (k : VK x z nL Q (pc + 1) L (.long (a + b) :: st) σ κ) : VK x z nL Q pc L (.long b :: .long a :: st) σ κ := by
  obtain ⟨p, l, e, R, s, m, args, below, meth, c⟩ := x
  obtain ⟨hx, hb, hml, hown, hts, hK, hz, hfr, hlo, hlk⟩ := X
  intro r σ' h H locs ls hP hS hl
  exact lv_ladd hx hb hd (k r σ' h H locs ls hP hS hl)
theorem V_lsub {a b : Int64} (X : XG x z own cc nL fr lo) (hd : decode cc pc = .ok (.lsub, 1)) (k : VK x z nL Q (pc + 1) L (.long (a - b) :: st) σ κ) : VK x z nL Q pc L (.long b :: .long a :: st) σ κ := by
  obtain ⟨p, l, e, R, s, m, args, below, meth, c⟩ := x
  obtain ⟨hx, hb, hml, hown, hts, hK, hz, hfr, hlo, hlk⟩ := X
  intro r σ' h H locs ls hP hS hl
  exact lv_lsub hx hb hd (k r σ' h H locs ls hP hS hl)
theorem V_lmul {a b : Int64} (X : XG x z own cc nL fr lo) (hd : decode cc pc = .ok (.lmul, 1)) (k : VK x z nL Q (pc + 1) L (.long (a * b) :: st) σ κ) : VK x z nL Q pc L (.long b :: .long a :: st) σ κ := by
  obtain ⟨p, l, e, R, s, m, args, below, meth, c⟩ := x
  obtain ⟨hx, hb, hml, hown, hts, hK, hz, hfr, hlo, hlk⟩ := X
  intro r σ' h H locs ls hP hS hl
  exact lv_lmul hx hb hd (k r σ' h H locs ls hP hS hl)
theorem V_land {a b : Int64} (X : XG x z own cc nL fr lo) (hd : decode cc pc = .ok (.land, 1)) (k : VK x z nL Q (pc + 1) L (.long (a &&& b) :: st) σ κ) : VK x z nL Q pc L (.long b :: .long a :: st) σ κ := by
  obtain ⟨p, l, e, R, s, m, args, below, meth, c⟩ := x
  obtain ⟨hx, hb, hml, hown, hts, hK, hz, hfr, hlo, hlk⟩ := X
  intro r σ' h H locs ls hP hS hl
  exact lv_land hx hb hd (k r σ' h H locs ls hP hS hl)
theorem V_lor {a b : Int64} (X : XG x z own cc nL fr lo) (hd : decode cc pc = .ok (.lor, 1)) (k : VK x z nL Q (pc + 1) L (.long (a ||| b) :: st) σ κ) : VK x z nL Q pc L (.long b :: .long a :: st) σ κ := by
  obtain ⟨p, l, e, R, s, m, args, below, meth, c⟩ := x
  obtain ⟨hx, hb, hml, hown, hts, hK, hz, hfr, hlo, hlk⟩ := X
  intro r σ' h H locs ls hP hS hl
  exact lv_lor hx hb hd (k r σ' h H locs ls hP hS hl)
theorem V_lshl {a : Int64} {b : Int32} (X : XG x z own cc nL fr lo) (hd : decode cc pc = .ok (.lshl, 1)) (k : VK x z nL Q (pc + 1) L (.long (a <<< (b.toInt64 &&& 63)) :: st) σ κ) : VK x z nL Q pc L (.int b :: .long a :: st) σ κ := by
  obtain ⟨p, l, e, R, s, m, args, below, meth, c⟩ := x
  obtain ⟨hx, hb, hml, hown, hts, hK, hz, hfr, hlo, hlk⟩ := X
  intro r σ' h H locs ls hP hS hl
  exact lv_lshl hx hb hd rfl (k r σ' h H locs ls hP hS hl)
theorem V_lushr {a : Int64} {b : Int32} (X : XG x z own cc nL fr lo) (hd : decode cc pc = .ok (.lushr, 1)) (k : VK x z nL Q (pc + 1) L (.long (a.toUInt64 >>> (b.toInt64.toUInt64 &&& Int64.toUInt64 63)).toInt64 :: st) σ κ) : VK x z nL Q pc L (.int b :: .long a :: st) σ κ := by
  obtain ⟨p, l, e, R, s, m, args, below, meth, c⟩ := x
  obtain ⟨hx, hb, hml, hown, hts, hK, hz, hfr, hlo, hlk⟩ := X
  intro r σ' h H locs ls hP hS hl
  exact lv_lushr hx hb hd rfl (k r σ' h H locs ls hP hS hl)
theorem V_i2l {a : Int32} (X : XG x z own cc nL fr lo) (hd : decode cc pc = .ok (.i2l, 1)) (k : VK x z nL Q (pc + 1) L (.long a.toInt64 :: st) σ κ) : VK x z nL Q pc L (.int a :: st) σ κ := by
  obtain ⟨p, l, e, R, s, m, args, below, meth, c⟩ := x
  obtain ⟨hx, hb, hml, hown, hts, hK, hz, hfr, hlo, hlk⟩ := X
  intro r σ' h H locs ls hP hS hl
  exact lv_i2l hx hb hd rfl (k r σ' h H locs ls hP hS hl)
theorem V_l2i {a : Int64} (X : XG x z own cc nL fr lo) (hd : decode cc pc = .ok (.l2i, 1)) (k : VK x z nL Q (pc + 1) L (.int a.toInt32 :: st) σ κ) : VK x z nL Q pc L (.long a :: st) σ κ := by
  obtain ⟨p, l, e, R, s, m, args, below, meth, c⟩ := x
  obtain ⟨hx, hb, hml, hown, hts, hK, hz, hfr, hlo, hlk⟩ := X
  intro r σ' h H locs ls hP hS hl
  exact lv_l2i hx hb hd rfl (k r σ' h H locs ls hP hS hl)
theorem V_i2b {a : Int32} (X : XG x z own cc nL fr lo) (hd : decode cc pc = .ok (.i2b, 1)) (k : VK x z nL Q (pc + 1) L (.int a.toInt8.toInt32 :: st) σ κ) : VK x z nL Q pc L (.int a :: st) σ κ := by
  obtain ⟨p, l, e, R, s, m, args, below, meth, c⟩ := x
  obtain ⟨hx, hb, hml, hown, hts, hK, hz, hfr, hlo, hlk⟩ := X
  intro r σ' h H locs ls hP hS hl
  exact lv_i2b hx hb hd rfl (k r σ' h H locs ls hP hS hl)
theorem V_dup {v : Value} (X : XG x z own cc nL fr lo) (hd : decode cc pc = .ok (.dup, 1)) (hv : v.category = 1) (k : VK x z nL Q (pc + 1) L (v :: v :: st) σ κ) : VK x z nL Q pc L (v :: st) σ κ := by
  obtain ⟨p, l, e, R, s, m, args, below, meth, c⟩ := x
  obtain ⟨hx, hb, hml, hown, hts, hK, hz, hfr, hlo, hlk⟩ := X
  intro r σ' h H locs ls hP hS hl
  exact lv_dup hx hb hd hv (k r σ' h H locs ls hP hS hl)
theorem V_dup2 {v u : Value} (X : XG x z own cc nL fr lo) (hd : decode cc pc = .ok (.dup2, 1)) (hv : v.category = 1) (hu : u.category = 1) (k : VK x z nL Q (pc + 1) L (v :: u :: v :: u :: st) σ κ) : VK x z nL Q pc L (v :: u :: st) σ κ := by
  obtain ⟨p, l, e, R, s, m, args, below, meth, c⟩ := x
  obtain ⟨hx, hb, hml, hown, hts, hK, hz, hfr, hlo, hlk⟩ := X
  intro r σ' h H locs ls hP hS hl
  exact lv_dup2_11 hx hb hd hv hu (k r σ' h H locs ls hP hS hl)
theorem V_pop {v : Value} (X : XG x z own cc nL fr lo) (hd : decode cc pc = .ok (.pop, 1)) (hv : v.category = 1) (k : VK x z nL Q (pc + 1) L (st) σ κ) : VK x z nL Q pc L (v :: st) σ κ := by
  obtain ⟨p, l, e, R, s, m, args, below, meth, c⟩ := x
  obtain ⟨hx, hb, hml, hown, hts, hK, hz, hfr, hlo, hlk⟩ := X
  intro r σ' h H locs ls hP hS hl
  exact lv_pop hx hb hd hv (k r σ' h H locs ls hP hS hl)
theorem V_null (X : XG x z own cc nL fr lo) (hd : decode cc pc = .ok (.aconst_null, 1)) (k : VK x z nL Q (pc + 1) L (.null :: st) σ κ) : VK x z nL Q pc L (st) σ κ := by
  obtain ⟨p, l, e, R, s, m, args, below, meth, c⟩ := x
  obtain ⟨hx, hb, hml, hown, hts, hK, hz, hfr, hlo, hlk⟩ := X
  intro r σ' h H locs ls hP hS hl
  exact lv_null hx hb hd (k r σ' h H locs ls hP hS hl)
theorem V_idivK {a b : Int32} (X : XG x z own cc nL fr lo) (hd : decode cc pc = .ok (.idiv, 1)) (hne : ¬ b = 0) (k : VK x z nL Q (pc + 1) L (.int (a / b) :: st) σ κ) : VK x z nL Q pc L (.int b :: .int a :: st) σ κ := by
  obtain ⟨p, l, e, R, s, m, args, below, meth, c⟩ := x
  obtain ⟨hx, hb, hml, hown, hts, hK, hz, hfr, hlo, hlk⟩ := X
  intro r σ' h H locs ls hP hS hl
  exact lv_idiv hx hb hd hne (k r σ' h H locs ls hP hS hl)
theorem V_idiv {a b : Int32} (X : XG x z own cc nL fr lo) (hd : decode cc pc = .ok (.idiv, 1)) (k : VK x z nL Q (pc + 1) L (.int (a / b) :: st) σ κ) : VK x z nL Q pc L (.int b :: .int a :: st) σ (gd (!(decide (b = 0))) κ) := by
  obtain ⟨p, l, e, R, s, m, args, below, meth, c⟩ := x
  obtain ⟨hx, hb, hml, hown, hts, hK, hz, hfr, hlo, hlk⟩ := X
  intro r σ' h H locs ls hP hS hl
  obtain ⟨h1, h⟩ := gd_some h
  exact lv_idiv hx hb hd (by simpa using h1) (k r σ' h H locs ls hP hS hl)
theorem V_iremK {a b : Int32} (X : XG x z own cc nL fr lo) (hd : decode cc pc = .ok (.irem, 1)) (hne : ¬ b = 0) (k : VK x z nL Q (pc + 1) L (.int (a - a / b * b) :: st) σ κ) : VK x z nL Q pc L (.int b :: .int a :: st) σ κ := by
  obtain ⟨p, l, e, R, s, m, args, below, meth, c⟩ := x
  obtain ⟨hx, hb, hml, hown, hts, hK, hz, hfr, hlo, hlk⟩ := X
  intro r σ' h H locs ls hP hS hl
  exact lv_irem hx hb hd hne (k r σ' h H locs ls hP hS hl)
theorem V_irem {a b : Int32} (X : XG x z own cc nL fr lo) (hd : decode cc pc = .ok (.irem, 1)) (k : VK x z nL Q (pc + 1) L (.int (a - a / b * b) :: st) σ κ) : VK x z nL Q pc L (.int b :: .int a :: st) σ (gd (!(decide (b = 0))) κ) := by
  obtain ⟨p, l, e, R, s, m, args, below, meth, c⟩ := x
  obtain ⟨hx, hb, hml, hown, hts, hK, hz, hfr, hlo, hlk⟩ := X
  intro r σ' h H locs ls hP hS hl
  obtain ⟨h1, h⟩ := gd_some h
  exact lv_irem hx hb hd (by simpa using h1) (k r σ' h H locs ls hP hS hl)
theorem V_ldivK {a b : Int64} (X : XG x z own cc nL fr lo) (hd : decode cc pc = .ok (.ldiv, 1)) (hne : ¬ b = 0) (k : VK x z nL Q (pc + 1) L (.long (a / b) :: st) σ κ) : VK x z nL Q pc L (.long b :: .long a :: st) σ κ := by
  obtain ⟨p, l, e, R, s, m, args, below, meth, c⟩ := x
  obtain ⟨hx, hb, hml, hown, hts, hK, hz, hfr, hlo, hlk⟩ := X
  intro r σ' h H locs ls hP hS hl
  exact lv_ldiv hx hb hd hne (k r σ' h H locs ls hP hS hl)
theorem V_ldiv {a b : Int64} (X : XG x z own cc nL fr lo) (hd : decode cc pc = .ok (.ldiv, 1)) (k : VK x z nL Q (pc + 1) L (.long (a / b) :: st) σ κ) : VK x z nL Q pc L (.long b :: .long a :: st) σ (gd (!(decide (b = 0))) κ) := by
  obtain ⟨p, l, e, R, s, m, args, below, meth, c⟩ := x
  obtain ⟨hx, hb, hml, hown, hts, hK, hz, hfr, hlo, hlk⟩ := X
  intro r σ' h H locs ls hP hS hl
  obtain ⟨h1, h⟩ := gd_some h
  exact lv_ldiv hx hb hd (by simpa using h1) (k r σ' h H locs ls hP hS hl)
theorem V_lremK {a b : Int64} (X : XG x z own cc nL fr lo) (hd : decode cc pc = .ok (.lrem, 1)) (hne : ¬ b = 0) (k : VK x z nL Q (pc + 1) L (.long (a - a / b * b) :: st) σ κ) : VK x z nL Q pc L (.long b :: .long a :: st) σ κ := by
  obtain ⟨p, l, e, R, s, m, args, below, meth, c⟩ := x
  obtain ⟨hx, hb, hml, hown, hts, hK, hz, hfr, hlo, hlk⟩ := X
  intro r σ' h H locs ls hP hS hl
  exact lv_lrem hx hb hd hne (k r σ' h H locs ls hP hS hl)
theorem V_lrem {a b : Int64} (X : XG x z own cc nL fr lo) (hd : decode cc pc = .ok (.lrem, 1)) (k : VK x z nL Q (pc + 1) L (.long (a - a / b * b) :: st) σ κ) : VK x z nL Q pc L (.long b :: .long a :: st) σ (gd (!(decide (b = 0))) κ) := by
  obtain ⟨p, l, e, R, s, m, args, below, meth, c⟩ := x
  obtain ⟨hx, hb, hml, hown, hts, hK, hz, hfr, hlo, hlk⟩ := X
  intro r σ' h H locs ls hP hS hl
  obtain ⟨h1, h⟩ := gd_some h
  exact lv_lrem hx hb hd (by simpa using h1) (k r σ' h H locs ls hP hS hl)
theorem V_icmp_eq {a b : Int32} {off : Int} {tgt : Nat} (X : XG x z own cc nL fr lo) (hd : decode cc pc = .ok (.if_icmp .eq off, 3)) (ht : (pc : Int) + off = (tgt : Int)) (k1 : VK x z nL Q tgt L st σ κ1) (k2 : VK x z nL Q (pc + 3) L st σ κ2) : VK x z nL Q pc L (.int b :: .int a :: st) σ (if a = b then κ1 else κ2) := by
  obtain ⟨p, l, e, R, s, m, args, below, meth, c⟩ := x
  obtain ⟨hx, hb, hml, hown, hts, hK, hz, hfr, hlo, hlk⟩ := X
  intro r σ' h H locs ls hP hS hl
  exact lv_icmp_eq hx hb hd ht (fun q => k1 r σ' (by rw [if_pos q] at h; exact h) H locs ls hP hS hl) (fun q => k2 r σ' (by rw [if_neg q] at h; exact h) H locs ls hP hS hl)
theorem V_icmp_ne {a b : Int32} {off : Int} {tgt : Nat} (X : XG x z own cc nL fr lo) (hd : decode cc pc = .ok (.if_icmp .ne off, 3)) (ht : (pc : Int) + off = (tgt : Int)) (k1 : VK x z nL Q tgt L st σ κ1) (k2 : VK x z nL Q (pc + 3) L st σ κ2) : VK x z nL Q pc L (.int b :: .int a :: st) σ (if a = b then κ2 else κ1) := by
  obtain ⟨p, l, e, R, s, m, args, below, meth, c⟩ := x
  obtain ⟨hx, hb, hml, hown, hts, hK, hz, hfr, hlo, hlk⟩ := X
  intro r σ' h H locs ls hP hS hl
  exact lv_icmp_ne hx hb hd ht (fun q => k1 r σ' (by rw [if_neg q] at h; exact h) H locs ls hP hS hl) (fun q => k2 r σ' (by rw [if_pos q] at h; exact h) H locs ls hP hS hl)
theorem V_icmp_lt {a b : Int32} {off : Int} {tgt : Nat} (X : XG x z own cc nL fr lo) (hd : decode cc pc = .ok (.if_icmp .lt off, 3)) (ht : (pc : Int) + off = (tgt : Int)) (k1 : VK x z nL Q tgt L st σ κ1) (k2 : VK x z nL Q (pc + 3) L st σ κ2) : VK x z nL Q pc L (.int b :: .int a :: st) σ (if a < b then κ1 else κ2) := by
  obtain ⟨p, l, e, R, s, m, args, below, meth, c⟩ := x
  obtain ⟨hx, hb, hml, hown, hts, hK, hz, hfr, hlo, hlk⟩ := X
  intro r σ' h H locs ls hP hS hl
  exact lv_icmp_lt hx hb hd ht (fun q => k1 r σ' (by rw [if_pos q] at h; exact h) H locs ls hP hS hl) (fun q => k2 r σ' (by rw [if_neg q] at h; exact h) H locs ls hP hS hl)
theorem V_icmp_ge {a b : Int32} {off : Int} {tgt : Nat} (X : XG x z own cc nL fr lo) (hd : decode cc pc = .ok (.if_icmp .ge off, 3)) (ht : (pc : Int) + off = (tgt : Int)) (k1 : VK x z nL Q tgt L st σ κ1) (k2 : VK x z nL Q (pc + 3) L st σ κ2) : VK x z nL Q pc L (.int b :: .int a :: st) σ (if b ≤ a then κ1 else κ2) := by
  obtain ⟨p, l, e, R, s, m, args, below, meth, c⟩ := x
  obtain ⟨hx, hb, hml, hown, hts, hK, hz, hfr, hlo, hlk⟩ := X
  intro r σ' h H locs ls hP hS hl
  exact lv_icmp_ge hx hb hd ht (fun q => k1 r σ' (by rw [if_pos q] at h; exact h) H locs ls hP hS hl) (fun q => k2 r σ' (by rw [if_neg q] at h; exact h) H locs ls hP hS hl)
theorem V_icmp_gt {a b : Int32} {off : Int} {tgt : Nat} (X : XG x z own cc nL fr lo) (hd : decode cc pc = .ok (.if_icmp .gt off, 3)) (ht : (pc : Int) + off = (tgt : Int)) (k1 : VK x z nL Q tgt L st σ κ1) (k2 : VK x z nL Q (pc + 3) L st σ κ2) : VK x z nL Q pc L (.int b :: .int a :: st) σ (if b < a then κ1 else κ2) := by
  obtain ⟨p, l, e, R, s, m, args, below, meth, c⟩ := x
  obtain ⟨hx, hb, hml, hown, hts, hK, hz, hfr, hlo, hlk⟩ := X
  intro r σ' h H locs ls hP hS hl
  exact lv_icmp_gt hx hb hd ht (fun q => k1 r σ' (by rw [if_pos q] at h; exact h) H locs ls hP hS hl) (fun q => k2 r σ' (by rw [if_neg q] at h; exact h) H locs ls hP hS hl)
theorem V_icmp_le {a b : Int32} {off : Int} {tgt : Nat} (X : XG x z own cc nL fr lo) (hd : decode cc pc = .ok (.if_icmp .le off, 3)) (ht : (pc : Int) + off = (tgt : Int)) (k1 : VK x z nL Q tgt L st σ κ1) (k2 : VK x z nL Q (pc + 3) L st σ κ2) : VK x z nL Q pc L (.int b :: .int a :: st) σ (if a ≤ b then κ1 else κ2) := by
  obtain ⟨p, l, e, R, s, m, args, below, meth, c⟩ := x
  obtain ⟨hx, hb, hml, hown, hts, hK, hz, hfr, hlo, hlk⟩ := X
  intro r σ' h H locs ls hP hS hl
  exact lv_icmp_le hx hb hd ht (fun q => k1 r σ' (by rw [if_pos q] at h; exact h) H locs ls hP hS hl) (fun q => k2 r σ' (by rw [if_neg q] at h; exact h) H locs ls hP hS hl)
theorem V_if_eq {a : Int32} {off : Int} {tgt : Nat} (X : XG x z own cc nL fr lo) (hd : decode cc pc = .ok (.ifCond .eq off, 3)) (ht : (pc : Int) + off = (tgt : Int)) (k1 : VK x z nL Q tgt L st σ κ1) (k2 : VK x z nL Q (pc + 3) L st σ κ2) : VK x z nL Q pc L (.int a :: st) σ (if a = 0 then κ1 else κ2) := by
  obtain ⟨p, l, e, R, s, m, args, below, meth, c⟩ := x
  obtain ⟨hx, hb, hml, hown, hts, hK, hz, hfr, hlo, hlk⟩ := X
  intro r σ' h H locs ls hP hS hl
  exact lv_if_eq hx hb hd ht (fun q => k1 r σ' (by rw [if_pos q] at h; exact h) H locs ls hP hS hl) (fun q => k2 r σ' (by rw [if_neg q] at h; exact h) H locs ls hP hS hl)
theorem V_if_ne {a : Int32} {off : Int} {tgt : Nat} (X : XG x z own cc nL fr lo) (hd : decode cc pc = .ok (.ifCond .ne off, 3)) (ht : (pc : Int) + off = (tgt : Int)) (k1 : VK x z nL Q tgt L st σ κ1) (k2 : VK x z nL Q (pc + 3) L st σ κ2) : VK x z nL Q pc L (.int a :: st) σ (if a = 0 then κ2 else κ1) := by
  obtain ⟨p, l, e, R, s, m, args, below, meth, c⟩ := x
  obtain ⟨hx, hb, hml, hown, hts, hK, hz, hfr, hlo, hlk⟩ := X
  intro r σ' h H locs ls hP hS hl
  exact lv_if_ne hx hb hd ht (fun q => k1 r σ' (by rw [if_neg q] at h; exact h) H locs ls hP hS hl) (fun q => k2 r σ' (by rw [if_pos q] at h; exact h) H locs ls hP hS hl)
theorem V_if_lt {a : Int32} {off : Int} {tgt : Nat} (X : XG x z own cc nL fr lo) (hd : decode cc pc = .ok (.ifCond .lt off, 3)) (ht : (pc : Int) + off = (tgt : Int)) (k1 : VK x z nL Q tgt L st σ κ1) (k2 : VK x z nL Q (pc + 3) L st σ κ2) : VK x z nL Q pc L (.int a :: st) σ (if a < 0 then κ1 else κ2) := by
  obtain ⟨p, l, e, R, s, m, args, below, meth, c⟩ := x
  obtain ⟨hx, hb, hml, hown, hts, hK, hz, hfr, hlo, hlk⟩ := X
  intro r σ' h H locs ls hP hS hl
  exact lv_if_lt hx hb hd ht (fun q => k1 r σ' (by rw [if_pos q] at h; exact h) H locs ls hP hS hl) (fun q => k2 r σ' (by rw [if_neg q] at h; exact h) H locs ls hP hS hl)
theorem V_if_ge {a : Int32} {off : Int} {tgt : Nat} (X : XG x z own cc nL fr lo) (hd : decode cc pc = .ok (.ifCond .ge off, 3)) (ht : (pc : Int) + off = (tgt : Int)) (k1 : VK x z nL Q tgt L st σ κ1) (k2 : VK x z nL Q (pc + 3) L st σ κ2) : VK x z nL Q pc L (.int a :: st) σ (if 0 ≤ a then κ1 else κ2) := by
  obtain ⟨p, l, e, R, s, m, args, below, meth, c⟩ := x
  obtain ⟨hx, hb, hml, hown, hts, hK, hz, hfr, hlo, hlk⟩ := X
  intro r σ' h H locs ls hP hS hl
  exact lv_if_ge hx hb hd ht (fun q => k1 r σ' (by rw [if_pos q] at h; exact h) H locs ls hP hS hl) (fun q => k2 r σ' (by rw [if_neg q] at h; exact h) H locs ls hP hS hl)
theorem V_if_gt {a : Int32} {off : Int} {tgt : Nat} (X : XG x z own cc nL fr lo) (hd : decode cc pc = .ok (.ifCond .gt off, 3)) (ht : (pc : Int) + off = (tgt : Int)) (k1 : VK x z nL Q tgt L st σ κ1) (k2 : VK x z nL Q (pc + 3) L st σ κ2) : VK x z nL Q pc L (.int a :: st) σ (if 0 < a then κ1 else κ2) := by
  obtain ⟨p, l, e, R, s, m, args, below, meth, c⟩ := x
  obtain ⟨hx, hb, hml, hown, hts, hK, hz, hfr, hlo, hlk⟩ := X
  intro r σ' h H locs ls hP hS hl
  exact lv_if_gt hx hb hd ht (fun q => k1 r σ' (by rw [if_pos q] at h; exact h) H locs ls hP hS hl) (fun q => k2 r σ' (by rw [if_neg q] at h; exact h) H locs ls hP hS hl)
theorem V_if_le {a : Int32} {off : Int} {tgt : Nat} (X : XG x z own cc nL fr lo) (hd : decode cc pc = .ok (.ifCond .le off, 3)) (ht : (pc : Int) + off = (tgt : Int)) (k1 : VK x z nL Q tgt L st σ κ1) (k2 : VK x z nL Q (pc + 3) L st σ κ2) : VK x z nL Q pc L (.int a :: st) σ (if a ≤ 0 then κ1 else κ2) := by
  obtain ⟨p, l, e, R, s, m, args, below, meth, c⟩ := x
  obtain ⟨hx, hb, hml, hown, hts, hK, hz, hfr, hlo, hlk⟩ := X
  intro r σ' h H locs ls hP hS hl
  exact lv_if_le hx hb hd ht (fun q => k1 r σ' (by rw [if_pos q] at h; exact h) H locs ls hP hS hl) (fun q => k2 r σ' (by rw [if_neg q] at h; exact h) H locs ls hP hS hl)
theorem V_goto {off : Int} {tgt : Nat} (X : XG x z own cc nL fr lo) (hd : decode cc pc = .ok (.goto off, 3)) (ht : (pc : Int) + off = (tgt : Int)) (k : VK x z nL Q tgt L st σ κ) : VK x z nL Q pc L st σ κ := by
  obtain ⟨p, l, e, R, s, m, args, below, meth, c⟩ := x
  obtain ⟨hx, hb, hml, hown, hts, hK, hz, hfr, hlo, hlk⟩ := X
  intro r σ' h H locs ls hP hS hl
  exact lv_goto hx hb hd ht (k r σ' h H locs ls hP hS hl)
theorem V_ifnull {v : Nat} {off : Int} (X : XG x z own cc nL fr lo) (hd : decode cc pc = .ok (.ifnull off, 3)) (k : VK x z nL Q (pc + 3) L st σ κ) : VK x z nL Q pc L (.ref v :: st) σ κ := by
  obtain ⟨p, l, e, R, s, m, args, below, meth, c⟩ := x
  obtain ⟨hx, hb, hml, hown, hts, hK, hz, hfr, hlo, hlk⟩ := X
  intro r σ' h H locs ls hP hS hl
  exact lv_ifnull hx hb hd (k r σ' h H locs ls hP hS hl)
theorem V_ifnonnull {v : Nat} {off : Int} {tgt : Nat} (X : XG x z own cc nL fr lo) (hd : decode cc pc = .ok (.ifnonnull off, 3)) (ht : (pc : Int) + off = (tgt : Int)) (k : VK x z nL Q tgt L st σ κ) : VK x z nL Q pc L (.ref v :: st) σ κ := by
  obtain ⟨p, l, e, R, s, m, args, below, meth, c⟩ := x
  obtain ⟨hx, hb, hml, hown, hts, hK, hz, hfr, hlo, hlk⟩ := X
  intro r σ' h H locs ls hP hS hl
  exact lv_ifnonnull hx hb hd ht (k r σ' h H locs ls hP hS hl)
theorem V_ifnullN {off : Int} {tgt : Nat} (X : XG x z own cc nL fr lo) (hd : decode cc pc = .ok (.ifnull off, 3)) (ht : (pc : Int) + off = (tgt : Int)) (k : VK x z nL Q tgt L st σ κ) : VK x z nL Q pc L (.null :: st) σ κ := by
  obtain ⟨p, l, e, R, s, m, args, below, meth, c⟩ := x
  obtain ⟨hx, hb, hml, hown, hts, hK, hz, hfr, hlo, hlk⟩ := X
  intro r σ' h H locs ls hP hS hl
  exact lv_ifnullN hx hb hd ht (k r σ' h H locs ls hP hS hl)
theorem V_ifnonnullN {off : Int} (X : XG x z own cc nL fr lo) (hd : decode cc pc = .ok (.ifnonnull off, 3)) (k : VK x z nL Q (pc + 3) L st σ κ) : VK x z nL Q pc L (.null :: st) σ κ := by
  obtain ⟨p, l, e, R, s, m, args, below, meth, c⟩ := x
  obtain ⟨hx, hb, hml, hown, hts, hK, hz, hfr, hlo, hlk⟩ := X
  intro r σ' h H locs ls hP hS hl
  exact lv_ifnonnullN hx hb hd (k r σ' h H locs ls hP hS hl)
theorem V_getI {C ref : String} {T : u_T} {N ci index k0 : Nat} {ty : Nat → FieldType} (j : Nat) (X : XG x z own cc nL fr lo) (hd : decode cc pc = .ok (.getfield index, 3)) (hC : CO ci C T N ty) (hk : z.2.2.2.1 k0 = (ci, 0)) (hj : j < N) (hf : fk ci j = 0) (hw : Cond.fieldLink own index (T j).1 (T j).2.1 (T j).2.2.1 ∈ Tg) (k : VK x z nL Q (pc + 3) L (.int (σ.1 k0 j) :: st) σ κ) : VK x z nL Q pc L (.ref (z.2.2.1 k0) :: st) σ κ := by
  obtain ⟨p, l, e, R, s, m, args, below, meth, c⟩ := x
  obtain ⟨hx, hb, hml, hown, hts, hK, hz, hfr, hlo, hlk⟩ := X
  intro r σ' h H locs ls hP hS hl
  obtain ⟨c1, c2, c3, c4, c5, c6⟩ := hC
  have hlt : k0 < z.2.2.2.2 := hz.2.1 k0 (by rw [hk]; show ci < 99; omega)
  exact va_get (D := z.1) (ci := ci) (v := .int (σ.1 k0 j)) (C := C) (T := T) (N := N) hx hb hts c4 hown hK hP k0 (by rw [mws_at hlt, ent_obj hk c3]) c1 j hj (hts _ hw) (fun _ h9 => h9) (by rw [fv_at (by omega), fv_int hk hf]) hd (k r σ' h H locs ls hP hS hl)
theorem V_getR {C : String} {T : u_T} {N ci index k0 k1 : Nat} {ty : Nat → FieldType} (j : Nat) (X : XG x z own cc nL fr lo) (hd : decode cc pc = .ok (.getfield index, 3)) (hC : CO ci C T N ty) (hk : z.2.2.2.1 k0 = (ci, 0)) (hj : j < N) (hf : fk ci j = 1) (he : k0 + ro ci j = k1) (hw : Cond.fieldLink own index (T j).1 (T j).2.1 (T j).2.2.1 ∈ Tg) (k : VK x z nL Q (pc + 3) L (.ref (z.2.2.1 k1) :: st) σ κ) : VK x z nL Q pc L (.ref (z.2.2.1 k0) :: st) σ κ := by
  obtain ⟨p, l, e, R, s, m, args, below, meth, c⟩ := x
  obtain ⟨hx, hb, hml, hown, hts, hK, hz, hfr, hlo, hlk⟩ := X
  intro r σ' h H locs ls hP hS hl
  obtain ⟨c1, c2, c3, c4, c5, c6⟩ := hC
  subst he
  have hlt : k0 < z.2.2.2.2 := hz.2.1 k0 (by rw [hk]; show ci < 99; omega)
  exact va_get (D := z.1) (ci := ci) (v := .ref (z.2.2.1 (k0 + ro ci j))) (C := C) (T := T) (N := N) hx hb hts c4 hown hK hP k0 (by rw [mws_at hlt, ent_obj hk c3]) c1 j hj (hts _ hw) (fun _ h9 => h9) (by rw [fv_at (by omega), fv_ref hk hf]) hd (k r σ' h H locs ls hP hS hl)
theorem V_getQ {C : String} {T : u_T} {N ci index k0 : Nat} {ty : Nat → FieldType} {K : Nat × Nat} (j : Nat) (X : XG x z own cc nL fr lo) (hd : decode cc pc = .ok (.getfield index, 3)) (hC : CO ci C T N ty) (hk : z.2.2.2.1 k0 = (ci, 0)) (hj : j < N) (hf : fk ci j = 2) (hw : Cond.fieldLink own index (T j).1 (T j).2.1 (T j).2.2.1 ∈ Tg) (k : z.2.2.2.1 (σ.1 k0 j).toNatClampNeg = K → VK x z nL Q (pc + 3) L (.ref (z.2.2.1 (σ.1 k0 j).toNatClampNeg) :: st) σ κ) : VK x z nL Q pc L (.ref (z.2.2.1 k0) :: st) σ (gd (decide (z.2.2.2.1 (σ.1 k0 j).toNatClampNeg = K)) κ) := by
  obtain ⟨p, l, e, R, s, m, args, below, meth, c⟩ := x
  obtain ⟨hx, hb, hml, hown, hts, hK, hz, hfr, hlo, hlk⟩ := X
  intro r σ' h H locs ls hP hS hl
  obtain ⟨c1, c2, c3, c4, c5, c6⟩ := hC
  obtain ⟨h1, h⟩ := gd_some h
  have hlt : k0 < z.2.2.2.2 := hz.2.1 k0 (by rw [hk]; show ci < 99; omega)
  exact va_get (D := z.1) (ci := ci) (v := .ref (z.2.2.1 (σ.1 k0 j).toNatClampNeg)) (C := C) (T := T) (N := N) hx hb hts c4 hown hK hP k0 (by rw [mws_at hlt, ent_obj hk c3]) c1 j hj (hts _ hw) (fun _ h9 => h9) (by rw [fv_at (by omega), fv_mut hk hf]) hd (k (of_decide_eq_true h1) r σ' h H locs ls hP hS hl)
theorem V_putI {C : String} {T : u_T} {N ci index k0 : Nat} {ty : Nat → FieldType} {v : Int32} (j : Nat) (X : XG x z own cc nL fr lo) (hd : decode cc pc = .ok (.putfield index, 3)) (hC : CO ci C T N ty) (hk : z.2.2.2.1 k0 = (ci, 0)) (hj : j < N) (hf : fk ci j = 0) (hw : Cond.fieldLink own index (T j).1 (T j).2.1 (T j).2.2.1 ∈ Tg) (hfin : (T j).2.2.2 = false) (hn : narrow (ty j) (.int v) = .int v) (hft : fits (ty j) (.int v) = true) (k : VK x z nL Q (pc + 3) L st (pI σ k0 j v) κ) : VK x z nL Q pc L (.int v :: .ref (z.2.2.1 k0) :: st) σ κ := by
  obtain ⟨p, l, e, R, s, m, args, below, meth, c⟩ := x
  obtain ⟨hx, hb, hml, hown, hts, hK, hz, hfr, hlo, hlk⟩ := X
  intro r σ' h H locs ls hP hS hl
  obtain ⟨c1, c2, c3, c4, c5, c6⟩ := hC
  have hlt : k0 < z.2.2.2.2 := hz.2.1 k0 (by rw [hk]; show ci < 99; omega)
  refine va_put (D := z.1) (ci := ci) (v := .int v) (ty := ty j) (C := C) (T := T) (N := N) hx hb hts c4 ty c5 c6 hown hK hP (mws_D hz σ) hS k0 (by rw [mws_at hlt, ent_obj hk c3]) c1 j hj (hts _ hw) (fun _ h9 => h9) hfin (c5 j hj) hn hft (by simp; omega) hd (fun H1 locs1 hP hD hS => ?_)
  rw [fv_set (v := v) hk (by omega) (fv_int hk hf |>.trans (by simp [pI])), mws_set (σ' := pI σ k0 j v) (ent_obj hk c3) (fun i hi => ent_ne hi)] at hP
  exact k r σ' h H1 locs1 ls hP hS hl
theorem V_putQ {C : String} {T : u_T} {N ci index k0 k1 : Nat} {ty : Nat → FieldType} (j : Nat) (X : XG x z own cc nL fr lo) (hd : decode cc pc = .ok (.putfield index, 3)) (hC : CO ci C T N ty) (hk : z.2.2.2.1 k0 = (ci, 0)) (hk1 : k1 < z.2.2.2.2) (hj : j < N) (hf : fk ci j = 2) (hw : Cond.fieldLink own index (T j).1 (T j).2.1 (T j).2.2.1 ∈ Tg) (hfin : (T j).2.2.2 = false) (hn : ∀ a, narrow (ty j) (.ref a) = .ref a) (hft : ∀ a, fits (ty j) (.ref a) = true) (k : VK x z nL Q (pc + 3) L st (pI σ k0 j (Int32.ofNat k1)) κ) : VK x z nL Q pc L (.ref (z.2.2.1 k1) :: .ref (z.2.2.1 k0) :: st) σ κ := by
  obtain ⟨p, l, e, R, s, m, args, below, meth, c⟩ := x
  obtain ⟨hx, hb, hml, hown, hts, hK, hz, hfr, hlo, hlk⟩ := X
  intro r σ' h H locs ls hP hS hl
  obtain ⟨c1, c2, c3, c4, c5, c6⟩ := hC
  have hlt : k0 < z.2.2.2.2 := hz.2.1 k0 (by rw [hk]; show ci < 99; omega)
  have hcl : (Int32.ofNat k1).toNatClampNeg = k1 := nI_clamp (by have := hz.2.2; omega)
  refine va_put (D := z.1) (ci := ci) (v := .ref (z.2.2.1 k1)) (ty := ty j) (C := C) (T := T) (N := N) hx hb hts c4 ty c5 c6 hown hK hP (mws_D hz σ) hS k0 (by rw [mws_at hlt, ent_obj hk c3]) c1 j hj (hts _ hw) (fun _ h9 => h9) hfin (c5 j hj) (hn _) (hft _) (by simp; omega) hd (fun H1 locs1 hP hD hS => ?_)
  rw [fv_set (v := Int32.ofNat k1) hk (by omega) (fv_mut hk hf |>.trans (by simp only [pI, and_self, if_true]; rw [hcl])), mws_set (σ' := pI σ k0 j (Int32.ofNat k1)) (ent_obj hk c3) (fun i hi => ent_ne hi)] at hP
  exact k r σ' h H1 locs1 ls hP hS hl
theorem V_iald {k0 n : Nat} {i : Int32} (X : XG x z own cc nL fr lo) (hd : decode cc pc = .ok (.iaload, 1)) (hk : z.2.2.2.1 k0 = (50, n)) (k : VK x z nL Q (pc + 1) L (.int (σ.1 k0 i.toNatClampNeg) :: st) σ κ) : VK x z nL Q pc L (.int i :: .ref (z.2.2.1 k0) :: st) σ (gd (inb i n) κ) := by
  obtain ⟨p, l, e, R, s, m, args, below, meth, c⟩ := x
  obtain ⟨hx, hb, hml, hown, hts, hK, hz, hfr, hlo, hlk⟩ := X
  intro r σ' h H locs ls hP hS hl
  obtain ⟨h1, h⟩ := gd_some h
  have hlt : k0 < z.2.2.2.2 := hz.2.1 k0 (by rw [hk]; show 50 < 99; omega)
  exact va_iald hx hb hK hP k0 0 (by rw [mws_at hlt, ent_int hk (by omega) (by omega)]) rfl (inb_in h1) hd (k r σ' h H locs ls hP hS hl)
theorem V_zald {k0 n : Nat} {i : Int32} (X : XG x z own cc nL fr lo) (hd : decode cc pc = .ok (.baload, 1)) (hk : z.2.2.2.1 k0 = (51, n)) (k : VK x z nL Q (pc + 1) L (.int (σ.1 k0 i.toNatClampNeg) :: st) σ κ) : VK x z nL Q pc L (.int i :: .ref (z.2.2.1 k0) :: st) σ (gd (inb i n) κ) := by
  obtain ⟨p, l, e, R, s, m, args, below, meth, c⟩ := x
  obtain ⟨hx, hb, hml, hown, hts, hK, hz, hfr, hlo, hlk⟩ := X
  intro r σ' h H locs ls hP hS hl
  obtain ⟨h1, h⟩ := gd_some h
  have hlt : k0 < z.2.2.2.2 := hz.2.1 k0 (by rw [hk]; show 51 < 99; omega)
  exact va_zald hx hb hK hP k0 1 (by rw [mws_at hlt, ent_int hk (by omega) (by omega)]) rfl (inb_in h1) hd (k r σ' h H locs ls hP hS hl)
theorem V_bald {k0 n : Nat} {i : Int32} (X : XG x z own cc nL fr lo) (hd : decode cc pc = .ok (.baload, 1)) (hk : z.2.2.2.1 k0 = (52, n)) (k : VK x z nL Q (pc + 1) L (.int (σ.1 k0 i.toNatClampNeg) :: st) σ κ) : VK x z nL Q pc L (.int i :: .ref (z.2.2.1 k0) :: st) σ (gd (inb i n) κ) := by
  obtain ⟨p, l, e, R, s, m, args, below, meth, c⟩ := x
  obtain ⟨hx, hb, hml, hown, hts, hK, hz, hfr, hlo, hlk⟩ := X
  intro r σ' h H locs ls hP hS hl
  obtain ⟨h1, h⟩ := gd_some h
  have hlt : k0 < z.2.2.2.2 := hz.2.1 k0 (by rw [hk]; show 52 < 99; omega)
  exact va_bald hx hb hK hP k0 2 (by rw [mws_at hlt, ent_int hk (by omega) (by omega)]) rfl (inb_in h1) hd (k r σ' h H locs ls hP hS hl)
theorem V_lald {k0 n : Nat} {i : Int32} (X : XG x z own cc nL fr lo) (hd : decode cc pc = .ok (.laload, 1)) (hk : z.2.2.2.1 k0 = (53, n)) (k : VK x z nL Q (pc + 1) L (.long (σ.2 k0 i.toNatClampNeg) :: st) σ κ) : VK x z nL Q pc L (.int i :: .ref (z.2.2.1 k0) :: st) σ (gd (inb i n) κ) := by
  obtain ⟨p, l, e, R, s, m, args, below, meth, c⟩ := x
  obtain ⟨hx, hb, hml, hown, hts, hK, hz, hfr, hlo, hlk⟩ := X
  intro r σ' h H locs ls hP hS hl
  obtain ⟨h1, h⟩ := gd_some h
  have hlt : k0 < z.2.2.2.2 := hz.2.1 k0 (by rw [hk]; show 53 < 99; omega)
  exact va_lald hx hb hK hP k0 3 (by rw [mws_at hlt, ent_lng hk]) rfl (inb_in h1) hd (k r σ' h H locs ls hP hS hl)
theorem V_aald60 {k0 n : Nat} {i : Int32} (X : XG x z own cc nL fr lo) (hd : decode cc pc = .ok (.aaload, 1)) (hk : z.2.2.2.1 k0 = (60, n)) (k : inb i n = true → VK x z nL Q (pc + 1) L (.ref (z.2.2.1 (raE 60 k0 i.toNatClampNeg)) :: st) σ κ) : VK x z nL Q pc L (.int i :: .ref (z.2.2.1 k0) :: st) σ (gd (inb i n) κ) := by
  obtain ⟨p, l, e, R, s, m, args, below, meth, c⟩ := x
  obtain ⟨hx, hb, hml, hown, hts, hK, hz, hfr, hlo, hlk⟩ := X
  intro r σ' h H locs ls hP hS hl
  obtain ⟨h1, h⟩ := gd_some h
  have hlt : k0 < z.2.2.2.2 := hz.2.1 k0 (by rw [hk]; show 60 < 99; omega)
  exact va_aldq (f := fun j => some (z.2.2.1 (raE 60 k0 j))) hx hb hK hP k0 4 (by rw [mws_at hlt, ent_ref hk (by omega)]) rfl (inb_in h1) hd (k h1 r σ' h H locs ls hP hS hl)
theorem V_aald61 {k0 n : Nat} {i : Int32} (X : XG x z own cc nL fr lo) (hd : decode cc pc = .ok (.aaload, 1)) (hk : z.2.2.2.1 k0 = (61, n)) (k : inb i n = true → VK x z nL Q (pc + 1) L (.ref (z.2.2.1 (raE 61 k0 i.toNatClampNeg)) :: st) σ κ) : VK x z nL Q pc L (.int i :: .ref (z.2.2.1 k0) :: st) σ (gd (inb i n) κ) := by
  obtain ⟨p, l, e, R, s, m, args, below, meth, c⟩ := x
  obtain ⟨hx, hb, hml, hown, hts, hK, hz, hfr, hlo, hlk⟩ := X
  intro r σ' h H locs ls hP hS hl
  obtain ⟨h1, h⟩ := gd_some h
  have hlt : k0 < z.2.2.2.2 := hz.2.1 k0 (by rw [hk]; show 61 < 99; omega)
  exact va_aldq (f := fun j => some (z.2.2.1 (raE 61 k0 j))) hx hb hK hP k0 5 (by rw [mws_at hlt, ent_ref hk (by omega)]) rfl (inb_in h1) hd (k h1 r σ' h H locs ls hP hS hl)
theorem V_aald62 {k0 n : Nat} {i : Int32} (X : XG x z own cc nL fr lo) (hd : decode cc pc = .ok (.aaload, 1)) (hk : z.2.2.2.1 k0 = (62, n)) (k : inb i n = true → VK x z nL Q (pc + 1) L (.ref (z.2.2.1 (raE 62 k0 i.toNatClampNeg)) :: st) σ κ) : VK x z nL Q pc L (.int i :: .ref (z.2.2.1 k0) :: st) σ (gd (inb i n) κ) := by
  obtain ⟨p, l, e, R, s, m, args, below, meth, c⟩ := x
  obtain ⟨hx, hb, hml, hown, hts, hK, hz, hfr, hlo, hlk⟩ := X
  intro r σ' h H locs ls hP hS hl
  obtain ⟨h1, h⟩ := gd_some h
  have hlt : k0 < z.2.2.2.2 := hz.2.1 k0 (by rw [hk]; show 62 < 99; omega)
  exact va_aldq (f := fun j => some (z.2.2.1 (raE 62 k0 j))) hx hb hK hP k0 6 (by rw [mws_at hlt, ent_ref hk (by omega)]) rfl (inb_in h1) hd (k h1 r σ' h H locs ls hP hS hl)
theorem V_aald63 {k0 n : Nat} {i : Int32} (X : XG x z own cc nL fr lo) (hd : decode cc pc = .ok (.aaload, 1)) (hk : z.2.2.2.1 k0 = (63, n)) (k : inb i n = true → VK x z nL Q (pc + 1) L (.ref (z.2.2.1 (raE 63 k0 i.toNatClampNeg)) :: st) σ κ) : VK x z nL Q pc L (.int i :: .ref (z.2.2.1 k0) :: st) σ (gd (inb i n) κ) := by
  obtain ⟨p, l, e, R, s, m, args, below, meth, c⟩ := x
  obtain ⟨hx, hb, hml, hown, hts, hK, hz, hfr, hlo, hlk⟩ := X
  intro r σ' h H locs ls hP hS hl
  obtain ⟨h1, h⟩ := gd_some h
  have hlt : k0 < z.2.2.2.2 := hz.2.1 k0 (by rw [hk]; show 63 < 99; omega)
  exact va_aldq (f := fun j => some (z.2.2.1 (raE 63 k0 j))) hx hb hK hP k0 7 (by rw [mws_at hlt, ent_ref hk (by omega)]) rfl (inb_in h1) hd (k h1 r σ' h H locs ls hP hS hl)
theorem V_iast {k0 n : Nat} {i v : Int32} (X : XG x z own cc nL fr lo) (hd : decode cc pc = .ok (.iastore, 1)) (hk : z.2.2.2.1 k0 = (50, n)) (k : VK x z nL Q (pc + 1) L st (pI σ k0 i.toNatClampNeg (v)) κ) : VK x z nL Q pc L (.int v :: .int i :: .ref (z.2.2.1 k0) :: st) σ (gd (inb i n) κ) := by
  obtain ⟨p, l, e, R, s, m, args, below, meth, c⟩ := x
  obtain ⟨hx, hb, hml, hown, hts, hK, hz, hfr, hlo, hlk⟩ := X
  intro r σ' h H locs ls hP hS hl
  obtain ⟨h1, h⟩ := gd_some h
  have hlt : k0 < z.2.2.2.2 := hz.2.1 k0 (by rw [hk]; show 50 < 99; omega)
  refine va_iast hx hb hK hP (mws_D hz σ) hS k0 0 (by rw [mws_at hlt, ent_int hk (by omega) (by omega)]) rfl (inb_in h1) hd (fun H1 locs1 hP hD hS => ?_)
  rw [mws_set (σ' := pI σ k0 i.toNatClampNeg (v)) (by rw [ent_int hk (by omega) (by omega), pI_up]) (fun i hi => ent_ne hi)] at hP
  exact k r σ' h H1 locs1 ls hP hS hl
theorem V_zast {k0 n : Nat} {i v : Int32} (X : XG x z own cc nL fr lo) (hd : decode cc pc = .ok (.bastore, 1)) (hk : z.2.2.2.1 k0 = (51, n)) (k : VK x z nL Q (pc + 1) L st (pI σ k0 i.toNatClampNeg (vp_nar .boolean v)) κ) : VK x z nL Q pc L (.int v :: .int i :: .ref (z.2.2.1 k0) :: st) σ (gd (inb i n) κ) := by
  obtain ⟨p, l, e, R, s, m, args, below, meth, c⟩ := x
  obtain ⟨hx, hb, hml, hown, hts, hK, hz, hfr, hlo, hlk⟩ := X
  intro r σ' h H locs ls hP hS hl
  obtain ⟨h1, h⟩ := gd_some h
  have hlt : k0 < z.2.2.2.2 := hz.2.1 k0 (by rw [hk]; show 51 < 99; omega)
  refine va_zast hx hb hK hP (mws_D hz σ) hS k0 1 (by rw [mws_at hlt, ent_int hk (by omega) (by omega)]) rfl (inb_in h1) hd (fun H1 locs1 hP hD hS => ?_)
  rw [mws_set (σ' := pI σ k0 i.toNatClampNeg (vp_nar .boolean v)) (by rw [ent_int hk (by omega) (by omega), pI_up]) (fun i hi => ent_ne hi)] at hP
  exact k r σ' h H1 locs1 ls hP hS hl
theorem V_bast {k0 n : Nat} {i v : Int32} (X : XG x z own cc nL fr lo) (hd : decode cc pc = .ok (.bastore, 1)) (hk : z.2.2.2.1 k0 = (52, n)) (k : VK x z nL Q (pc + 1) L st (pI σ k0 i.toNatClampNeg (vp_nar .byte v)) κ) : VK x z nL Q pc L (.int v :: .int i :: .ref (z.2.2.1 k0) :: st) σ (gd (inb i n) κ) := by
  obtain ⟨p, l, e, R, s, m, args, below, meth, c⟩ := x
  obtain ⟨hx, hb, hml, hown, hts, hK, hz, hfr, hlo, hlk⟩ := X
  intro r σ' h H locs ls hP hS hl
  obtain ⟨h1, h⟩ := gd_some h
  have hlt : k0 < z.2.2.2.2 := hz.2.1 k0 (by rw [hk]; show 52 < 99; omega)
  refine va_bast hx hb hK hP (mws_D hz σ) hS k0 2 (by rw [mws_at hlt, ent_int hk (by omega) (by omega)]) rfl (inb_in h1) hd (fun H1 locs1 hP hD hS => ?_)
  rw [mws_set (σ' := pI σ k0 i.toNatClampNeg (vp_nar .byte v)) (by rw [ent_int hk (by omega) (by omega), pI_up]) (fun i hi => ent_ne hi)] at hP
  exact k r σ' h H1 locs1 ls hP hS hl
theorem V_last {k0 n : Nat} {i : Int32} {v : Int64} (X : XG x z own cc nL fr lo) (hd : decode cc pc = .ok (.lastore, 1)) (hk : z.2.2.2.1 k0 = (53, n)) (k : VK x z nL Q (pc + 1) L st (pL σ k0 i.toNatClampNeg v) κ) : VK x z nL Q pc L (.long v :: .int i :: .ref (z.2.2.1 k0) :: st) σ (gd (inb i n) κ) := by
  obtain ⟨p, l, e, R, s, m, args, below, meth, c⟩ := x
  obtain ⟨hx, hb, hml, hown, hts, hK, hz, hfr, hlo, hlk⟩ := X
  intro r σ' h H locs ls hP hS hl
  obtain ⟨h1, h⟩ := gd_some h
  have hlt : k0 < z.2.2.2.2 := hz.2.1 k0 (by rw [hk]; show 53 < 99; omega)
  refine va_last hx hb hK hP (mws_D hz σ) hS k0 3 (by rw [mws_at hlt, ent_lng hk]) rfl (inb_in h1) hd (fun H1 locs1 hP hD hS => ?_)
  rw [mws_set (σ' := pL σ k0 i.toNatClampNeg v) (by rw [ent_lng hk]; congr 5; funext a; simp [pL, vp_updL]) (fun i hi => ent_neL hi)] at hP
  exact k r σ' h H1 locs1 ls hP hS hl
theorem V_alen50 {k0 n : Nat} {v : Int32} (X : XG x z own cc nL fr lo) (hd : decode cc pc = .ok (.arraylength, 1)) (hk : z.2.2.2.1 k0 = (50, n)) (hv : Int32.ofNat n = v) (k : VK x z nL Q (pc + 1) L (.int v :: st) σ κ) : VK x z nL Q pc L (.ref (z.2.2.1 k0) :: st) σ κ := by
  obtain ⟨p, l, e, R, s, m, args, below, meth, c⟩ := x
  obtain ⟨hx, hb, hml, hown, hts, hK, hz, hfr, hlo, hlk⟩ := X
  intro r σ' h H locs ls hP hS hl
  have hlt : k0 < z.2.2.2.2 := hz.2.1 k0 (by rw [hk]; show 50 < 99; omega)
  exact va_alen hx hb hK hP k0 0 (by rw [mws_at hlt, ent_int hk (by omega) (by omega)]) rfl hv hd (k r σ' h H locs ls hP hS hl)
theorem V_alen52 {k0 n : Nat} {v : Int32} (X : XG x z own cc nL fr lo) (hd : decode cc pc = .ok (.arraylength, 1)) (hk : z.2.2.2.1 k0 = (52, n)) (hv : Int32.ofNat n = v) (k : VK x z nL Q (pc + 1) L (.int v :: st) σ κ) : VK x z nL Q pc L (.ref (z.2.2.1 k0) :: st) σ κ := by
  obtain ⟨p, l, e, R, s, m, args, below, meth, c⟩ := x
  obtain ⟨hx, hb, hml, hown, hts, hK, hz, hfr, hlo, hlk⟩ := X
  intro r σ' h H locs ls hP hS hl
  have hlt : k0 < z.2.2.2.2 := hz.2.1 k0 (by rw [hk]; show 52 < 99; omega)
  exact va_alen hx hb hK hP k0 2 (by rw [mws_at hlt, ent_int hk (by omega) (by omega)]) rfl hv hd (k r σ' h H locs ls hP hS hl)
end VKR
end
