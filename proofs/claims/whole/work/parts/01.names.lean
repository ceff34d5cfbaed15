-- ===== PART A: goes FIRST, ahead of the names: the tables' words, and 'selects' of the private methods out of them =====
/-- a private method of a class that the tables say can be made, by its rows of tables_1 -/
def lw_okq (q : MethodName × Nat) : Prop := (q.1.cls ≠ "java/lang/invoke/MethodHandle" ∧ q.1.cls ≠ "java/lang/invoke/VarHandle") ∧ Cond.instantiable q.1.cls q.2 ∈ tables_1 ∧ Cond.privateMethod q.1 ∈ tables_1 ∧ Cond.instanceMethod q.1 ∈ tables_1
theorem lw_p0 : lw_okq (⟨"JingleLaws", "noRow", "(I)Z"⟩, 10) := ⟨⟨by decide +kernel, by decide +kernel⟩, List.mem_of_getElem? (i := 15) (by decide +kernel), List.mem_of_getElem? (i := 292) (by decide +kernel), List.mem_of_getElem? (i := 293) (by decide +kernel)⟩
theorem lw_p1 : lw_okq (⟨"JingleLaws", "finding", "(I)I"⟩, 10) := ⟨⟨by decide +kernel, by decide +kernel⟩, List.mem_of_getElem? (i := 15) (by decide +kernel), List.mem_of_getElem? (i := 300) (by decide +kernel), List.mem_of_getElem? (i := 301) (by decide +kernel)⟩
theorem lw_p2 : lw_okq (⟨"JingleLaws", "unfound", "(I)I"⟩, 10) := ⟨⟨by decide +kernel, by decide +kernel⟩, List.mem_of_getElem? (i := 15) (by decide +kernel), List.mem_of_getElem? (i := 309) (by decide +kernel), List.mem_of_getElem? (i := 310) (by decide +kernel)⟩
theorem lw_p3 : lw_okq (⟨"JingleLaws$Reader", "readByte", "(I)V"⟩, 5) := ⟨⟨by decide +kernel, by decide +kernel⟩, List.mem_of_getElem? (i := 47) (by decide +kernel), List.mem_of_getElem? (i := 361) (by decide +kernel), List.mem_of_getElem? (i := 362) (by decide +kernel)⟩
theorem lw_p4 : lw_okq (⟨"JingleLaws$Reader", "next", "()I"⟩, 5) := ⟨⟨by decide +kernel, by decide +kernel⟩, List.mem_of_getElem? (i := 47) (by decide +kernel), List.mem_of_getElem? (i := 365) (by decide +kernel), List.mem_of_getElem? (i := 366) (by decide +kernel)⟩
theorem lw_p5 : lw_okq (⟨"JingleLaws$Reader", "byteAt", "(I)I"⟩, 5) := ⟨⟨by decide +kernel, by decide +kernel⟩, List.mem_of_getElem? (i := 47) (by decide +kernel), List.mem_of_getElem? (i := 369) (by decide +kernel), List.mem_of_getElem? (i := 370) (by decide +kernel)⟩
theorem lw_p6 : lw_okq (⟨"JingleLaws$Reader", "readNumber", "(II)I"⟩, 5) := ⟨⟨by decide +kernel, by decide +kernel⟩, List.mem_of_getElem? (i := 47) (by decide +kernel), List.mem_of_getElem? (i := 374) (by decide +kernel), List.mem_of_getElem? (i := 375) (by decide +kernel)⟩
theorem lw_p7 : lw_okq (⟨"JingleLaws$Reader", "readHand", "()V"⟩, 5) := ⟨⟨by decide +kernel, by decide +kernel⟩, List.mem_of_getElem? (i := 47) (by decide +kernel), List.mem_of_getElem? (i := 378) (by decide +kernel), List.mem_of_getElem? (i := 379) (by decide +kernel)⟩
theorem lw_p8 : lw_okq (⟨"JingleLaws$Reader", "readRule", "()V"⟩, 5) := ⟨⟨by decide +kernel, by decide +kernel⟩, List.mem_of_getElem? (i := 47) (by decide +kernel), List.mem_of_getElem? (i := 383) (by decide +kernel), List.mem_of_getElem? (i := 384) (by decide +kernel)⟩
theorem lw_p9 : lw_okq (⟨"JingleLaws", "noCamp", "()Z"⟩, 10) := ⟨⟨by decide +kernel, by decide +kernel⟩, List.mem_of_getElem? (i := 15) (by decide +kernel), List.mem_of_getElem? (i := 418) (by decide +kernel), List.mem_of_getElem? (i := 419) (by decide +kernel)⟩
theorem lw_p10 : lw_okq (⟨"JingleLaws$Camp", "addPlayer", "(II)V"⟩, 13) := ⟨⟨by decide +kernel, by decide +kernel⟩, List.mem_of_getElem? (i := 53) (by decide +kernel), List.mem_of_getElem? (i := 443) (by decide +kernel), List.mem_of_getElem? (i := 444) (by decide +kernel)⟩
theorem lw_p11 : lw_okq (⟨"JingleLaws$Camp", "beatBehind", "(I)I"⟩, 13) := ⟨⟨by decide +kernel, by decide +kernel⟩, List.mem_of_getElem? (i := 53) (by decide +kernel), List.mem_of_getElem? (i := 451) (by decide +kernel), List.mem_of_getElem? (i := 452) (by decide +kernel)⟩
theorem lw_p12 : lw_okq (⟨"JingleLaws$Camp", "lossBehind", "(I)I"⟩, 13) := ⟨⟨by decide +kernel, by decide +kernel⟩, List.mem_of_getElem? (i := 53) (by decide +kernel), List.mem_of_getElem? (i := 456) (by decide +kernel), List.mem_of_getElem? (i := 457) (by decide +kernel)⟩
theorem lw_p13 : lw_okq (⟨"JingleLaws$Camp", "strengthBehind", "(I)I"⟩, 13) := ⟨⟨by decide +kernel, by decide +kernel⟩, List.mem_of_getElem? (i := 53) (by decide +kernel), List.mem_of_getElem? (i := 463) (by decide +kernel), List.mem_of_getElem? (i := 464) (by decide +kernel)⟩
theorem lw_p14 : lw_okq (⟨"JingleLaws", "noRule", "(I)Z"⟩, 10) := ⟨⟨by decide +kernel, by decide +kernel⟩, List.mem_of_getElem? (i := 15) (by decide +kernel), List.mem_of_getElem? (i := 485) (by decide +kernel), List.mem_of_getElem? (i := 486) (by decide +kernel)⟩
theorem lw_p15 : lw_okq (⟨"JingleLaws", "noHand", "(I)Z"⟩, 10) := ⟨⟨by decide +kernel, by decide +kernel⟩, List.mem_of_getElem? (i := 15) (by decide +kernel), List.mem_of_getElem? (i := 493) (by decide +kernel), List.mem_of_getElem? (i := 494) (by decide +kernel)⟩
def lw_privs_1 : List (MethodName × Nat) := [(⟨"JingleLaws", "noRow", "(I)Z"⟩, 10), (⟨"JingleLaws", "finding", "(I)I"⟩, 10), (⟨"JingleLaws", "unfound", "(I)I"⟩, 10), (⟨"JingleLaws$Reader", "readByte", "(I)V"⟩, 5), (⟨"JingleLaws$Reader", "next", "()I"⟩, 5), (⟨"JingleLaws$Reader", "byteAt", "(I)I"⟩, 5), (⟨"JingleLaws$Reader", "readNumber", "(II)I"⟩, 5), (⟨"JingleLaws$Reader", "readHand", "()V"⟩, 5), (⟨"JingleLaws$Reader", "readRule", "()V"⟩, 5), (⟨"JingleLaws", "noCamp", "()Z"⟩, 10), (⟨"JingleLaws$Camp", "addPlayer", "(II)V"⟩, 13), (⟨"JingleLaws$Camp", "beatBehind", "(I)I"⟩, 13), (⟨"JingleLaws$Camp", "lossBehind", "(I)I"⟩, 13), (⟨"JingleLaws$Camp", "strengthBehind", "(I)I"⟩, 13), (⟨"JingleLaws", "noRule", "(I)Z"⟩, 10), (⟨"JingleLaws", "noHand", "(I)Z"⟩, 10)]
theorem lw_r1 : ∀ q ∈ lw_privs_1, lw_okq q := List.forall_mem_cons.mpr ⟨lw_p0, List.forall_mem_cons.mpr ⟨lw_p1, List.forall_mem_cons.mpr ⟨lw_p2, List.forall_mem_cons.mpr ⟨lw_p3, List.forall_mem_cons.mpr ⟨lw_p4, List.forall_mem_cons.mpr ⟨lw_p5, List.forall_mem_cons.mpr ⟨lw_p6, List.forall_mem_cons.mpr ⟨lw_p7, List.forall_mem_cons.mpr ⟨lw_p8, List.forall_mem_cons.mpr ⟨lw_p9, List.forall_mem_cons.mpr ⟨lw_p10, List.forall_mem_cons.mpr ⟨lw_p11, List.forall_mem_cons.mpr ⟨lw_p12, List.forall_mem_cons.mpr ⟨lw_p13, List.forall_mem_cons.mpr ⟨lw_p14, List.forall_mem_cons.mpr ⟨lw_p15, fun _ h => absurd h List.not_mem_nil⟩⟩⟩⟩⟩⟩⟩⟩⟩⟩⟩⟩⟩⟩⟩⟩
theorem lw_p16 : lw_okq (⟨"JingleLaws$Camp", "barredBy", "(I)I"⟩, 13) := ⟨⟨by decide +kernel, by decide +kernel⟩, List.mem_of_getElem? (i := 53) (by decide +kernel), List.mem_of_getElem? (i := 531) (by decide +kernel), List.mem_of_getElem? (i := 532) (by decide +kernel)⟩
theorem lw_p17 : lw_okq (⟨"JingleLaws$Rota", "listSongs", "(LJingleLaws$Camp;)V"⟩, 9) := ⟨⟨by decide +kernel, by decide +kernel⟩, List.mem_of_getElem? (i := 204) (by decide +kernel), List.mem_of_getElem? (i := 605) (by decide +kernel), List.mem_of_getElem? (i := 606) (by decide +kernel)⟩
theorem lw_p18 : lw_okq (⟨"JingleLaws$Rota", "workOut", "(LJingleLaws$Camp;I)V"⟩, 9) := ⟨⟨by decide +kernel, by decide +kernel⟩, List.mem_of_getElem? (i := 204) (by decide +kernel), List.mem_of_getElem? (i := 609) (by decide +kernel), List.mem_of_getElem? (i := 610) (by decide +kernel)⟩
theorem lw_p19 : lw_okq (⟨"JingleLaws$Rota", "letPlayAlone", "(LJingleLaws$Camp;II)V"⟩, 9) := ⟨⟨by decide +kernel, by decide +kernel⟩, List.mem_of_getElem? (i := 204) (by decide +kernel), List.mem_of_getElem? (i := 614) (by decide +kernel), List.mem_of_getElem? (i := 615) (by decide +kernel)⟩
theorem lw_p20 : lw_okq (⟨"JingleLaws$Rota", "worthOfLost", "()I"⟩, 9) := ⟨⟨by decide +kernel, by decide +kernel⟩, List.mem_of_getElem? (i := 204) (by decide +kernel), List.mem_of_getElem? (i := 620) (by decide +kernel), List.mem_of_getElem? (i := 621) (by decide +kernel)⟩
theorem lw_p21 : lw_okq (⟨"JingleLaws$Rota", "worthOf", "(I)I"⟩, 9) := ⟨⟨by decide +kernel, by decide +kernel⟩, List.mem_of_getElem? (i := 204) (by decide +kernel), List.mem_of_getElem? (i := 624) (by decide +kernel), List.mem_of_getElem? (i := 625) (by decide +kernel)⟩
theorem lw_p22 : lw_okq (⟨"JingleLaws$Rota", "weighWay", "(I)V"⟩, 9) := ⟨⟨by decide +kernel, by decide +kernel⟩, List.mem_of_getElem? (i := 204) (by decide +kernel), List.mem_of_getElem? (i := 630) (by decide +kernel), List.mem_of_getElem? (i := 631) (by decide +kernel)⟩
theorem lw_p23 : lw_okq (⟨"JingleLaws$Rota", "keepWay", "(I)V"⟩, 9) := ⟨⟨by decide +kernel, by decide +kernel⟩, List.mem_of_getElem? (i := 204) (by decide +kernel), List.mem_of_getElem? (i := 634) (by decide +kernel), List.mem_of_getElem? (i := 635) (by decide +kernel)⟩
theorem lw_p24 : lw_okq (⟨"JingleLaws$Rota", "nextWay", "(I)V"⟩, 9) := ⟨⟨by decide +kernel, by decide +kernel⟩, List.mem_of_getElem? (i := 204) (by decide +kernel), List.mem_of_getElem? (i := 638) (by decide +kernel), List.mem_of_getElem? (i := 639) (by decide +kernel)⟩
theorem lw_p25 : lw_okq (⟨"JingleLaws$Foretold", "outcome", "(IIII)I"⟩, 4) := ⟨⟨by decide +kernel, by decide +kernel⟩, List.mem_of_getElem? (i := 183) (by decide +kernel), List.mem_of_getElem? (i := 671) (by decide +kernel), List.mem_of_getElem? (i := 672) (by decide +kernel)⟩
theorem lw_p26 : lw_okq (⟨"JingleLaws", "unheard", "(III)I"⟩, 10) := ⟨⟨by decide +kernel, by decide +kernel⟩, List.mem_of_getElem? (i := 15) (by decide +kernel), List.mem_of_getElem? (i := 693) (by decide +kernel), List.mem_of_getElem? (i := 694) (by decide +kernel)⟩
theorem lw_p27 : lw_okq (⟨"JingleLaws$Foretold", "isSo", "(I)Z"⟩, 4) := ⟨⟨by decide +kernel, by decide +kernel⟩, List.mem_of_getElem? (i := 183) (by decide +kernel), List.mem_of_getElem? (i := 706) (by decide +kernel), List.mem_of_getElem? (i := 707) (by decide +kernel)⟩
theorem lw_p28 : lw_okq (⟨"JingleLaws$Foretold", "draw", "(J)V"⟩, 4) := ⟨⟨by decide +kernel, by decide +kernel⟩, List.mem_of_getElem? (i := 183) (by decide +kernel), List.mem_of_getElem? (i := 755) (by decide +kernel), List.mem_of_getElem? (i := 756) (by decide +kernel)⟩
theorem lw_p29 : lw_okq (⟨"JingleLaws$Asks", "songSize", "(LJingleLaws$Camp;I)I"⟩, 2) := ⟨⟨by decide +kernel, by decide +kernel⟩, List.mem_of_getElem? (i := 242) (by decide +kernel), List.mem_of_getElem? (i := 785) (by decide +kernel), List.mem_of_getElem? (i := 786) (by decide +kernel)⟩
theorem lw_p30 : lw_okq (⟨"JingleLaws$Asks", "leave", "(I)V"⟩, 2) := ⟨⟨by decide +kernel, by decide +kernel⟩, List.mem_of_getElem? (i := 242) (by decide +kernel), List.mem_of_getElem? (i := 789) (by decide +kernel), List.mem_of_getElem? (i := 790) (by decide +kernel)⟩
theorem lw_p31 : lw_okq (⟨"JingleLaws$Asks", "songMark", "(LJingleLaws$Camp;I)I"⟩, 2) := ⟨⟨by decide +kernel, by decide +kernel⟩, List.mem_of_getElem? (i := 242) (by decide +kernel), List.mem_of_getElem? (i := 793) (by decide +kernel), List.mem_of_getElem? (i := 794) (by decide +kernel)⟩
def lw_privs_2 : List (MethodName × Nat) := [(⟨"JingleLaws$Camp", "barredBy", "(I)I"⟩, 13), (⟨"JingleLaws$Rota", "listSongs", "(LJingleLaws$Camp;)V"⟩, 9), (⟨"JingleLaws$Rota", "workOut", "(LJingleLaws$Camp;I)V"⟩, 9), (⟨"JingleLaws$Rota", "letPlayAlone", "(LJingleLaws$Camp;II)V"⟩, 9), (⟨"JingleLaws$Rota", "worthOfLost", "()I"⟩, 9), (⟨"JingleLaws$Rota", "worthOf", "(I)I"⟩, 9), (⟨"JingleLaws$Rota", "weighWay", "(I)V"⟩, 9), (⟨"JingleLaws$Rota", "keepWay", "(I)V"⟩, 9), (⟨"JingleLaws$Rota", "nextWay", "(I)V"⟩, 9), (⟨"JingleLaws$Foretold", "outcome", "(IIII)I"⟩, 4), (⟨"JingleLaws", "unheard", "(III)I"⟩, 10), (⟨"JingleLaws$Foretold", "isSo", "(I)Z"⟩, 4), (⟨"JingleLaws$Foretold", "draw", "(J)V"⟩, 4), (⟨"JingleLaws$Asks", "songSize", "(LJingleLaws$Camp;I)I"⟩, 2), (⟨"JingleLaws$Asks", "leave", "(I)V"⟩, 2), (⟨"JingleLaws$Asks", "songMark", "(LJingleLaws$Camp;I)I"⟩, 2)]
theorem lw_r2 : ∀ q ∈ lw_privs_2, lw_okq q := List.forall_mem_cons.mpr ⟨lw_p16, List.forall_mem_cons.mpr ⟨lw_p17, List.forall_mem_cons.mpr ⟨lw_p18, List.forall_mem_cons.mpr ⟨lw_p19, List.forall_mem_cons.mpr ⟨lw_p20, List.forall_mem_cons.mpr ⟨lw_p21, List.forall_mem_cons.mpr ⟨lw_p22, List.forall_mem_cons.mpr ⟨lw_p23, List.forall_mem_cons.mpr ⟨lw_p24, List.forall_mem_cons.mpr ⟨lw_p25, List.forall_mem_cons.mpr ⟨lw_p26, List.forall_mem_cons.mpr ⟨lw_p27, List.forall_mem_cons.mpr ⟨lw_p28, List.forall_mem_cons.mpr ⟨lw_p29, List.forall_mem_cons.mpr ⟨lw_p30, List.forall_mem_cons.mpr ⟨lw_p31, fun _ h => absurd h List.not_mem_nil⟩⟩⟩⟩⟩⟩⟩⟩⟩⟩⟩⟩⟩⟩⟩⟩
theorem lw_p32 : lw_okq (⟨"JingleLaws$Asks", "lostSize", "(LJingleLaws$Camp;I)I"⟩, 2) := ⟨⟨by decide +kernel, by decide +kernel⟩, List.mem_of_getElem? (i := 242) (by decide +kernel), List.mem_of_getElem? (i := 797) (by decide +kernel), List.mem_of_getElem? (i := 798) (by decide +kernel)⟩
theorem lw_p33 : lw_okq (⟨"JingleLaws$Asks", "lostMark", "(LJingleLaws$Camp;I)I"⟩, 2) := ⟨⟨by decide +kernel, by decide +kernel⟩, List.mem_of_getElem? (i := 242) (by decide +kernel), List.mem_of_getElem? (i := 805) (by decide +kernel), List.mem_of_getElem? (i := 806) (by decide +kernel)⟩
theorem lw_p34 : lw_okq (⟨"JingleLawsModel", "finding", "(I)I"⟩, 27) := ⟨⟨by decide +kernel, by decide +kernel⟩, List.mem_of_getElem? (i := 827) (by decide +kernel), List.mem_of_getElem? (i := 929) (by decide +kernel), List.mem_of_getElem? (i := 930) (by decide +kernel)⟩
theorem lw_p35 : lw_okq (⟨"JingleLawsModel", "begin", "()V"⟩, 27) := ⟨⟨by decide +kernel, by decide +kernel⟩, List.mem_of_getElem? (i := 827) (by decide +kernel), List.mem_of_getElem? (i := 960) (by decide +kernel), List.mem_of_getElem? (i := 961) (by decide +kernel)⟩
theorem lw_p36 : lw_okq (⟨"JingleLawsModel", "nextToken", "()V"⟩, 27) := ⟨⟨by decide +kernel, by decide +kernel⟩, List.mem_of_getElem? (i := 827) (by decide +kernel), List.mem_of_getElem? (i := 964) (by decide +kernel), List.mem_of_getElem? (i := 965) (by decide +kernel)⟩
theorem lw_p37 : lw_okq (⟨"JingleLawsModel", "isLetter", "(I)Z"⟩, 27) := ⟨⟨by decide +kernel, by decide +kernel⟩, List.mem_of_getElem? (i := 827) (by decide +kernel), List.mem_of_getElem? (i := 973) (by decide +kernel), List.mem_of_getElem? (i := 974) (by decide +kernel)⟩
theorem lw_p38 : lw_okq (⟨"JingleLawsModel", "must", "(Z)V"⟩, 27) := ⟨⟨by decide +kernel, by decide +kernel⟩, List.mem_of_getElem? (i := 827) (by decide +kernel), List.mem_of_getElem? (i := 977) (by decide +kernel), List.mem_of_getElem? (i := 978) (by decide +kernel)⟩
theorem lw_p39 : lw_okq (⟨"JingleLawsModel", "bad", "(I)V"⟩, 27) := ⟨⟨by decide +kernel, by decide +kernel⟩, List.mem_of_getElem? (i := 827) (by decide +kernel), List.mem_of_getElem? (i := 981) (by decide +kernel), List.mem_of_getElem? (i := 982) (by decide +kernel)⟩
theorem lw_p40 : lw_okq (⟨"JingleLawsModel", "number", "(II)I"⟩, 27) := ⟨⟨by decide +kernel, by decide +kernel⟩, List.mem_of_getElem? (i := 827) (by decide +kernel), List.mem_of_getElem? (i := 985) (by decide +kernel), List.mem_of_getElem? (i := 986) (by decide +kernel)⟩
theorem lw_p41 : lw_okq (⟨"JingleLawsModel", "mustSign", "(I)V"⟩, 27) := ⟨⟨by decide +kernel, by decide +kernel⟩, List.mem_of_getElem? (i := 827) (by decide +kernel), List.mem_of_getElem? (i := 989) (by decide +kernel), List.mem_of_getElem? (i := 990) (by decide +kernel)⟩
theorem lw_p42 : lw_okq (⟨"JingleLawsModel", "readHand", "()V"⟩, 27) := ⟨⟨by decide +kernel, by decide +kernel⟩, List.mem_of_getElem? (i := 827) (by decide +kernel), List.mem_of_getElem? (i := 993) (by decide +kernel), List.mem_of_getElem? (i := 994) (by decide +kernel)⟩
theorem lw_p43 : lw_okq (⟨"JingleLawsModel", "isSort", "()Z"⟩, 27) := ⟨⟨by decide +kernel, by decide +kernel⟩, List.mem_of_getElem? (i := 827) (by decide +kernel), List.mem_of_getElem? (i := 997) (by decide +kernel), List.mem_of_getElem? (i := 998) (by decide +kernel)⟩
theorem lw_p44 : lw_okq (⟨"JingleLawsModel", "readRule", "()V"⟩, 27) := ⟨⟨by decide +kernel, by decide +kernel⟩, List.mem_of_getElem? (i := 827) (by decide +kernel), List.mem_of_getElem? (i := 1004) (by decide +kernel), List.mem_of_getElem? (i := 1005) (by decide +kernel)⟩
theorem lw_p45 : lw_okq (⟨"JingleLawsModel", "failed", "()Z"⟩, 27) := ⟨⟨by decide +kernel, by decide +kernel⟩, List.mem_of_getElem? (i := 827) (by decide +kernel), List.mem_of_getElem? (i := 1008) (by decide +kernel), List.mem_of_getElem? (i := 1009) (by decide +kernel)⟩
theorem lw_p46 : lw_okq (⟨"JingleLawsModel", "isThere", "()Z"⟩, 27) := ⟨⟨by decide +kernel, by decide +kernel⟩, List.mem_of_getElem? (i := 827) (by decide +kernel), List.mem_of_getElem? (i := 1017) (by decide +kernel), List.mem_of_getElem? (i := 1018) (by decide +kernel)⟩
theorem lw_p47 : lw_okq (⟨"JingleLawsModel", "keep", "()V"⟩, 27) := ⟨⟨by decide +kernel, by decide +kernel⟩, List.mem_of_getElem? (i := 827) (by decide +kernel), List.mem_of_getElem? (i := 1023) (by decide +kernel), List.mem_of_getElem? (i := 1024) (by decide +kernel)⟩
def lw_privs_3 : List (MethodName × Nat) := [(⟨"JingleLaws$Asks", "lostSize", "(LJingleLaws$Camp;I)I"⟩, 2), (⟨"JingleLaws$Asks", "lostMark", "(LJingleLaws$Camp;I)I"⟩, 2), (⟨"JingleLawsModel", "finding", "(I)I"⟩, 27), (⟨"JingleLawsModel", "begin", "()V"⟩, 27), (⟨"JingleLawsModel", "nextToken", "()V"⟩, 27), (⟨"JingleLawsModel", "isLetter", "(I)Z"⟩, 27), (⟨"JingleLawsModel", "must", "(Z)V"⟩, 27), (⟨"JingleLawsModel", "bad", "(I)V"⟩, 27), (⟨"JingleLawsModel", "number", "(II)I"⟩, 27), (⟨"JingleLawsModel", "mustSign", "(I)V"⟩, 27), (⟨"JingleLawsModel", "readHand", "()V"⟩, 27), (⟨"JingleLawsModel", "isSort", "()Z"⟩, 27), (⟨"JingleLawsModel", "readRule", "()V"⟩, 27), (⟨"JingleLawsModel", "failed", "()Z"⟩, 27), (⟨"JingleLawsModel", "isThere", "()Z"⟩, 27), (⟨"JingleLawsModel", "keep", "()V"⟩, 27)]
theorem lw_r3 : ∀ q ∈ lw_privs_3, lw_okq q := List.forall_mem_cons.mpr ⟨lw_p32, List.forall_mem_cons.mpr ⟨lw_p33, List.forall_mem_cons.mpr ⟨lw_p34, List.forall_mem_cons.mpr ⟨lw_p35, List.forall_mem_cons.mpr ⟨lw_p36, List.forall_mem_cons.mpr ⟨lw_p37, List.forall_mem_cons.mpr ⟨lw_p38, List.forall_mem_cons.mpr ⟨lw_p39, List.forall_mem_cons.mpr ⟨lw_p40, List.forall_mem_cons.mpr ⟨lw_p41, List.forall_mem_cons.mpr ⟨lw_p42, List.forall_mem_cons.mpr ⟨lw_p43, List.forall_mem_cons.mpr ⟨lw_p44, List.forall_mem_cons.mpr ⟨lw_p45, List.forall_mem_cons.mpr ⟨lw_p46, List.forall_mem_cons.mpr ⟨lw_p47, fun _ h => absurd h List.not_mem_nil⟩⟩⟩⟩⟩⟩⟩⟩⟩⟩⟩⟩⟩⟩⟩⟩
theorem lw_p48 : lw_okq (⟨"JingleLawsModel", "hour", "([I)V"⟩, 27) := ⟨⟨by decide +kernel, by decide +kernel⟩, List.mem_of_getElem? (i := 827) (by decide +kernel), List.mem_of_getElem? (i := 1027) (by decide +kernel), List.mem_of_getElem? (i := 1028) (by decide +kernel)⟩
theorem lw_p49 : lw_okq (⟨"JingleLawsModel", "isRule", "(I)Z"⟩, 27) := ⟨⟨by decide +kernel, by decide +kernel⟩, List.mem_of_getElem? (i := 827) (by decide +kernel), List.mem_of_getElem? (i := 1068) (by decide +kernel), List.mem_of_getElem? (i := 1069) (by decide +kernel)⟩
theorem lw_p50 : lw_okq (⟨"JingleLawsModel", "isHand", "(I)Z"⟩, 27) := ⟨⟨by decide +kernel, by decide +kernel⟩, List.mem_of_getElem? (i := 827) (by decide +kernel), List.mem_of_getElem? (i := 1076) (by decide +kernel), List.mem_of_getElem? (i := 1077) (by decide +kernel)⟩
theorem lw_p51 : lw_okq (⟨"JingleLawsModel", "layThen", "()V"⟩, 27) := ⟨⟨by decide +kernel, by decide +kernel⟩, List.mem_of_getElem? (i := 827) (by decide +kernel), List.mem_of_getElem? (i := 1120) (by decide +kernel), List.mem_of_getElem? (i := 1121) (by decide +kernel)⟩
theorem lw_p52 : lw_okq (⟨"JingleLawsModel", "hoursOf", "([II)V"⟩, 27) := ⟨⟨by decide +kernel, by decide +kernel⟩, List.mem_of_getElem? (i := 827) (by decide +kernel), List.mem_of_getElem? (i := 1124) (by decide +kernel), List.mem_of_getElem? (i := 1125) (by decide +kernel)⟩
theorem lw_p53 : lw_okq (⟨"JingleLawsModel", "second", "(III)I"⟩, 27) := ⟨⟨by decide +kernel, by decide +kernel⟩, List.mem_of_getElem? (i := 827) (by decide +kernel), List.mem_of_getElem? (i := 1170) (by decide +kernel), List.mem_of_getElem? (i := 1171) (by decide +kernel)⟩
theorem lw_p54 : lw_okq (⟨"JingleLawsModel", "third", "(III)I"⟩, 27) := ⟨⟨by decide +kernel, by decide +kernel⟩, List.mem_of_getElem? (i := 827) (by decide +kernel), List.mem_of_getElem? (i := 1174) (by decide +kernel), List.mem_of_getElem? (i := 1175) (by decide +kernel)⟩
theorem lw_p55 : lw_okq (⟨"JingleLawsModel", "fourth", "(III)I"⟩, 27) := ⟨⟨by decide +kernel, by decide +kernel⟩, List.mem_of_getElem? (i := 827) (by decide +kernel), List.mem_of_getElem? (i := 1178) (by decide +kernel), List.mem_of_getElem? (i := 1179) (by decide +kernel)⟩
theorem lw_p56 : lw_okq (⟨"JingleLawsModel", "afterTurns", "(III)I"⟩, 27) := ⟨⟨by decide +kernel, by decide +kernel⟩, List.mem_of_getElem? (i := 827) (by decide +kernel), List.mem_of_getElem? (i := 1182) (by decide +kernel), List.mem_of_getElem? (i := 1183) (by decide +kernel)⟩
theorem lw_p57 : lw_okq (⟨"JingleLawsModel", "lacks", "(I)I"⟩, 27) := ⟨⟨by decide +kernel, by decide +kernel⟩, List.mem_of_getElem? (i := 827) (by decide +kernel), List.mem_of_getElem? (i := 1191) (by decide +kernel), List.mem_of_getElem? (i := 1192) (by decide +kernel)⟩
theorem lw_p58 : lw_okq (⟨"JingleLawsModel", "rowFound", "(III)I"⟩, 27) := ⟨⟨by decide +kernel, by decide +kernel⟩, List.mem_of_getElem? (i := 827) (by decide +kernel), List.mem_of_getElem? (i := 1203) (by decide +kernel), List.mem_of_getElem? (i := 1204) (by decide +kernel)⟩
theorem lw_p59 : lw_okq (⟨"JingleLawsModel", "isSo", "(III)Z"⟩, 27) := ⟨⟨by decide +kernel, by decide +kernel⟩, List.mem_of_getElem? (i := 827) (by decide +kernel), List.mem_of_getElem? (i := 1207) (by decide +kernel), List.mem_of_getElem? (i := 1208) (by decide +kernel)⟩
theorem lw_p60 : lw_okq (⟨"JingleLawsModel", "sizeOf", "(I)I"⟩, 27) := ⟨⟨by decide +kernel, by decide +kernel⟩, List.mem_of_getElem? (i := 827) (by decide +kernel), List.mem_of_getElem? (i := 1252) (by decide +kernel), List.mem_of_getElem? (i := 1253) (by decide +kernel)⟩
theorem lw_p61 : lw_okq (⟨"JingleLawsModel", "lostSize", "(I)I"⟩, 27) := ⟨⟨by decide +kernel, by decide +kernel⟩, List.mem_of_getElem? (i := 827) (by decide +kernel), List.mem_of_getElem? (i := 1256) (by decide +kernel), List.mem_of_getElem? (i := 1257) (by decide +kernel)⟩
theorem lw_p62 : lw_okq (⟨"JingleLawsModel", "began", "(I)V"⟩, 27) := ⟨⟨by decide +kernel, by decide +kernel⟩, List.mem_of_getElem? (i := 827) (by decide +kernel), List.mem_of_getElem? (i := 1260) (by decide +kernel), List.mem_of_getElem? (i := 1261) (by decide +kernel)⟩
theorem lw_p63 : lw_okq (⟨"JingleLawsModel", "plainSize", "(I)I"⟩, 27) := ⟨⟨by decide +kernel, by decide +kernel⟩, List.mem_of_getElem? (i := 827) (by decide +kernel), List.mem_of_getElem? (i := 1264) (by decide +kernel), List.mem_of_getElem? (i := 1265) (by decide +kernel)⟩
def lw_privs_4 : List (MethodName × Nat) := [(⟨"JingleLawsModel", "hour", "([I)V"⟩, 27), (⟨"JingleLawsModel", "isRule", "(I)Z"⟩, 27), (⟨"JingleLawsModel", "isHand", "(I)Z"⟩, 27), (⟨"JingleLawsModel", "layThen", "()V"⟩, 27), (⟨"JingleLawsModel", "hoursOf", "([II)V"⟩, 27), (⟨"JingleLawsModel", "second", "(III)I"⟩, 27), (⟨"JingleLawsModel", "third", "(III)I"⟩, 27), (⟨"JingleLawsModel", "fourth", "(III)I"⟩, 27), (⟨"JingleLawsModel", "afterTurns", "(III)I"⟩, 27), (⟨"JingleLawsModel", "lacks", "(I)I"⟩, 27), (⟨"JingleLawsModel", "rowFound", "(III)I"⟩, 27), (⟨"JingleLawsModel", "isSo", "(III)Z"⟩, 27), (⟨"JingleLawsModel", "sizeOf", "(I)I"⟩, 27), (⟨"JingleLawsModel", "lostSize", "(I)I"⟩, 27), (⟨"JingleLawsModel", "began", "(I)V"⟩, 27), (⟨"JingleLawsModel", "plainSize", "(I)I"⟩, 27)]
theorem lw_r4 : ∀ q ∈ lw_privs_4, lw_okq q := List.forall_mem_cons.mpr ⟨lw_p48, List.forall_mem_cons.mpr ⟨lw_p49, List.forall_mem_cons.mpr ⟨lw_p50, List.forall_mem_cons.mpr ⟨lw_p51, List.forall_mem_cons.mpr ⟨lw_p52, List.forall_mem_cons.mpr ⟨lw_p53, List.forall_mem_cons.mpr ⟨lw_p54, List.forall_mem_cons.mpr ⟨lw_p55, List.forall_mem_cons.mpr ⟨lw_p56, List.forall_mem_cons.mpr ⟨lw_p57, List.forall_mem_cons.mpr ⟨lw_p58, List.forall_mem_cons.mpr ⟨lw_p59, List.forall_mem_cons.mpr ⟨lw_p60, List.forall_mem_cons.mpr ⟨lw_p61, List.forall_mem_cons.mpr ⟨lw_p62, List.forall_mem_cons.mpr ⟨lw_p63, fun _ h => absurd h List.not_mem_nil⟩⟩⟩⟩⟩⟩⟩⟩⟩⟩⟩⟩⟩⟩⟩⟩
theorem lw_p64 : lw_okq (⟨"JingleLawsModel", "markOf", "(I)I"⟩, 27) := ⟨⟨by decide +kernel, by decide +kernel⟩, List.mem_of_getElem? (i := 827) (by decide +kernel), List.mem_of_getElem? (i := 1268) (by decide +kernel), List.mem_of_getElem? (i := 1269) (by decide +kernel)⟩
def lw_privs_5 : List (MethodName × Nat) := [(⟨"JingleLawsModel", "markOf", "(I)I"⟩, 27)]
theorem lw_r5 : ∀ q ∈ lw_privs_5, lw_okq q := List.forall_mem_cons.mpr ⟨lw_p64, fun _ h => absurd h List.not_mem_nil⟩
def lw_privs : List (MethodName × Nat) := lw_privs_1 ++ (lw_privs_2 ++ (lw_privs_3 ++ (lw_privs_4 ++ (lw_privs_5))))
def lw_tbl : List Cond := k2_sels lw_privs ++ tables_1
theorem lw_privs_ok : ∀ q ∈ lw_privs, lw_okq q := by
  show ∀ q ∈ lw_privs_1 ++ (lw_privs_2 ++ (lw_privs_3 ++ (lw_privs_4 ++ (lw_privs_5)))), lw_okq q
  exact List.forall_mem_append.mpr ⟨lw_r1, List.forall_mem_append.mpr ⟨lw_r2, List.forall_mem_append.mpr ⟨lw_r3, List.forall_mem_append.mpr ⟨lw_r4, lw_r5⟩⟩⟩⟩

def RX0 : String := "JingleLaws$Acts"
def TX0 : u_T := fun k => match k with
  | 0 => ("JingleLaws$Acts", "lines", "[[I", true)
  | 1 => ("JingleLaws$Acts", "next", "I", false)
  | _ => ("JingleLaws$Acts", "count", "I", false)
def tyX0 : Nat → FieldType := fun k => match k with
  | 0 => .array (.array .int)
  | 1 => .int
  | _ => .int
abbrev wsX00 : List Cond := u_ws RX0 TX0 3
theorem nmX0 : ∀ a, a < 3 → ∀ b, b < 3 → a ≠ b → (TX0 a).2.1 ≠ (TX0 b).2.1 := by decide +kernel
theorem tyX0_ok : ∀ k, k < 3 → parseFieldDescriptor (TX0 k).2.2.1 = some (tyX0 k) := by decide +kernel
abbrev cX0_init : ByteArray := prog_2_method_1_code
def yX0_init : MethodName := ⟨RX0, "<init>", "()V"⟩
abbrev cX0_forget : ByteArray := prog_2_method_2_code
def yX0_forget : MethodName := ⟨RX0, "forget", "()V"⟩
abbrev cX0_keep : ByteArray := prog_2_method_3_code
def yX0_keep : MethodName := ⟨RX0, "keep", "(LJingleLaws$Camp;)V"⟩
abbrev cX0_takeBack : ByteArray := prog_2_method_4_code
def yX0_takeBack : MethodName := ⟨RX0, "takeBack", "(LJingleLaws$Camp;)V"⟩
def RX1 : String := "JingleLaws$Asks"
def TX1 : u_T := fun k => match k with
  | 0 => ("JingleLaws$Asks", "left", "[I", true)
  | _ => ("JingleLaws$Asks", "length", "I", false)
def tyX1 : Nat → FieldType := fun k => match k with
  | 0 => .array .int
  | _ => .int
abbrev wsX10 : List Cond := u_ws RX1 TX1 2
theorem nmX1 : ∀ a, a < 2 → ∀ b, b < 2 → a ≠ b → (TX1 a).2.1 ≠ (TX1 b).2.1 := by decide +kernel
theorem tyX1_ok : ∀ k, k < 2 → parseFieldDescriptor (TX1 k).2.2.1 = some (tyX1 k) := by decide +kernel
abbrev cX1_init : ByteArray := prog_3_method_1_code
def yX1_init : MethodName := ⟨RX1, "<init>", "()V"⟩
abbrev cX1_leave : ByteArray := prog_3_method_2_code
def yX1_leave : MethodName := ⟨RX1, "leave", "(I)V"⟩
abbrev cX1_sizeOf : ByteArray := prog_3_method_3_code
def yX1_sizeOf : MethodName := ⟨RX1, "sizeOf", "(LJingleLaws$Camp;I)I"⟩
abbrev cX1_markOf : ByteArray := prog_3_method_4_code
def yX1_markOf : MethodName := ⟨RX1, "markOf", "(LJingleLaws$Camp;I)I"⟩
abbrev cX1_songSize : ByteArray := prog_3_method_5_code
def yX1_songSize : MethodName := ⟨RX1, "songSize", "(LJingleLaws$Camp;I)I"⟩
abbrev cX1_songMark : ByteArray := prog_3_method_6_code
def yX1_songMark : MethodName := ⟨RX1, "songMark", "(LJingleLaws$Camp;I)I"⟩
abbrev cX1_lostSize : ByteArray := prog_3_method_7_code
def yX1_lostSize : MethodName := ⟨RX1, "lostSize", "(LJingleLaws$Camp;I)I"⟩
abbrev cX1_lostMark : ByteArray := prog_3_method_8_code
def yX1_lostMark : MethodName := ⟨RX1, "lostMark", "(LJingleLaws$Camp;I)I"⟩
def RX2 : String := "JingleLaws$Camp"
def TX2 : u_T := fun k => match k with
  | 0 => ("JingleLaws$Camp", "loud", "I", false)
  | 1 => ("JingleLaws$Camp", "hour", "I", false)
  | 2 => ("JingleLaws$Camp", "handCount", "I", false)
  | 3 => ("JingleLaws$Camp", "ruleCount", "I", false)
  | 4 => ("JingleLaws$Camp", "strength", "[I", true)
  | 5 => ("JingleLaws$Camp", "plays", "[I", true)
  | 6 => ("JingleLaws$Camp", "kind", "[I", true)
  | 7 => ("JingleLaws$Camp", "beat", "[I", true)
  | 8 => ("JingleLaws$Camp", "loss", "[I", true)
  | 9 => ("JingleLaws$Camp", "bars", "[I", true)
  | 10 => ("JingleLaws$Camp", "players", "[I", true)
  | 11 => ("JingleLaws$Camp", "played", "[I", true)
  | _ => ("JingleLaws$Camp", "gain", "[I", true)
def tyX2 : Nat → FieldType := fun k => match k with
  | 0 => .int
  | 1 => .int
  | 2 => .int
  | 3 => .int
  | 4 => .array .int
  | 5 => .array .int
  | 6 => .array .int
  | 7 => .array .int
  | 8 => .array .int
  | 9 => .array .int
  | 10 => .array .int
  | 11 => .array .int
  | _ => .array .int
abbrev wsX20 : List Cond := u_ws RX2 TX2 13
theorem nmX2 : ∀ a, a < 13 → ∀ b, b < 13 → a ≠ b → (TX2 a).2.1 ≠ (TX2 b).2.1 := by decide +kernel
theorem tyX2_ok : ∀ k, k < 13 → parseFieldDescriptor (TX2 k).2.2.1 = some (tyX2 k) := by decide +kernel
abbrev cX2_init : ByteArray := prog_4_method_1_code
def yX2_init : MethodName := ⟨RX2, "<init>", "()V"⟩
abbrev cX2_isNone : ByteArray := prog_4_method_2_code
def yX2_isNone : MethodName := ⟨RX2, "isNone", "()Z"⟩
abbrev cX2_clear : ByteArray := prog_4_method_3_code
def yX2_clear : MethodName := ⟨RX2, "clear", "()V"⟩
abbrev cX2_become : ByteArray := prog_4_method_4_code
def yX2_become : MethodName := ⟨RX2, "become", "(LJingleLaws$Camp;)V"⟩
abbrev cX2_keeper : ByteArray := prog_4_method_5_code
def yX2_keeper : MethodName := ⟨RX2, "keeper", "()I"⟩
abbrev cX2_tally : ByteArray := prog_4_method_6_code
def yX2_tally : MethodName := ⟨RX2, "tally", "()V"⟩
abbrev cX2_addPlayer : ByteArray := prog_4_method_7_code
def yX2_addPlayer : MethodName := ⟨RX2, "addPlayer", "(II)V"⟩
abbrev cX2_passHours : ByteArray := prog_4_method_8_code
def yX2_passHours : MethodName := ⟨RX2, "passHours", "(I)V"⟩
abbrev cX2_passHour : ByteArray := prog_4_method_9_code
def yX2_passHour : MethodName := ⟨RX2, "passHour", "()V"⟩
abbrev cX2_beatBehind : ByteArray := prog_4_method_10_code
def yX2_beatBehind : MethodName := ⟨RX2, "beatBehind", "(I)I"⟩
abbrev cX2_lossBehind : ByteArray := prog_4_method_11_code
def yX2_lossBehind : MethodName := ⟨RX2, "lossBehind", "(I)I"⟩
abbrev cX2_strengthBehind : ByteArray := prog_4_method_12_code
def yX2_strengthBehind : MethodName := ⟨RX2, "strengthBehind", "(I)I"⟩
abbrev cX2_holds : ByteArray := prog_4_method_13_code
def yX2_holds : MethodName := ⟨RX2, "holds", "(I)Z"⟩
abbrev cX2_holding : ByteArray := prog_4_method_14_code
def yX2_holding : MethodName := ⟨RX2, "holding", "()I"⟩
abbrev cX2_holdingOver : ByteArray := prog_4_method_15_code
def yX2_holdingOver : MethodName := ⟨RX2, "holdingOver", "(I)I"⟩
abbrev cX2_barring : ByteArray := prog_4_method_16_code
def yX2_barring : MethodName := ⟨RX2, "barring", "()I"⟩
abbrev cX2_barredBy : ByteArray := prog_4_method_17_code
def yX2_barredBy : MethodName := ⟨RX2, "barredBy", "(I)I"⟩
abbrev cX2_fewestBarring : ByteArray := prog_4_method_18_code
def yX2_fewestBarring : MethodName := ⟨RX2, "fewestBarring", "(I)I"⟩
abbrev cX2_allBeat : ByteArray := prog_4_method_19_code
def yX2_allBeat : MethodName := ⟨RX2, "allBeat", "()I"⟩
abbrev cX2_allStrength : ByteArray := prog_4_method_20_code
def yX2_allStrength : MethodName := ⟨RX2, "allStrength", "()I"⟩
abbrev cX2_shareOf : ByteArray := prog_4_method_21_code
def yX2_shareOf : MethodName := ⟨RX2, "shareOf", "(II)I"⟩
def RX3 : String := "JingleLaws$Foretold"
def TX3 : u_T := fun k => match k with
  | 0 => ("JingleLaws$Foretold", "guess", "LJingleLaws$Camp;", true)
  | 1 => ("JingleLaws$Foretold", "plan", "LJingleLaws$Camp;", true)
  | 2 => ("JingleLaws$Foretold", "heard", "[I", true)
  | _ => ("JingleLaws$Foretold", "heardCount", "I", false)
def tyX3 : Nat → FieldType := fun k => match k with
  | 0 => .object "JingleLaws$Camp"
  | 1 => .object "JingleLaws$Camp"
  | 2 => .array .int
  | _ => .int
abbrev wsX30 : List Cond := u_ws RX3 TX3 4
theorem nmX3 : ∀ a, a < 4 → ∀ b, b < 4 → a ≠ b → (TX3 a).2.1 ≠ (TX3 b).2.1 := by decide +kernel
theorem tyX3_ok : ∀ k, k < 4 → parseFieldDescriptor (TX3 k).2.2.1 = some (tyX3 k) := by decide +kernel
abbrev cX3_init : ByteArray := prog_5_method_1_code
def yX3_init : MethodName := ⟨RX3, "<init>", "()V"⟩
abbrev cX3_behind : ByteArray := prog_5_method_2_code
def yX3_behind : MethodName := ⟨RX3, "behind", "(LJingleLaws$Camp;I)LJingleLaws$Camp;"⟩
abbrev cX3_firstFall : ByteArray := prog_5_method_3_code
def yX3_firstFall : MethodName := ⟨RX3, "firstFall", "(LJingleLaws$Camp;II)I"⟩
abbrev cX3_fewestHands : ByteArray := prog_5_method_4_code
def yX3_fewestHands : MethodName := ⟨RX3, "fewestHands", "(LJingleLaws$Camp;II)I"⟩
abbrev cX3_letPlay : ByteArray := prog_5_method_5_code
def yX3_letPlay : MethodName := ⟨RX3, "letPlay", "(LJingleLaws$Camp;II)V"⟩
abbrev cX3_comesOfTurns : ByteArray := prog_5_method_6_code
def yX3_comesOfTurns : MethodName := ⟨RX3, "comesOfTurns", "(LJingleLaws$Camp;III)I"⟩
abbrev cX3_outcome : ByteArray := prog_5_method_7_code
def yX3_outcome : MethodName := ⟨RX3, "outcome", "(IIII)I"⟩
abbrev cX3_hear : ByteArray := prog_5_method_8_code
def yX3_hear : MethodName := ⟨RX3, "hear", "([III)V"⟩
abbrev cX3_isSo : ByteArray := prog_5_method_9_code
def yX3_isSo : MethodName := ⟨RX3, "isSo", "(I)Z"⟩
abbrev cX3_fittingKinds : ByteArray := prog_5_method_10_code
def yX3_fittingKinds : MethodName := ⟨RX3, "fittingKinds", "(LJingleLaws$Camp;I)I"⟩
abbrev cX3_fittingLosses : ByteArray := prog_5_method_11_code
def yX3_fittingLosses : MethodName := ⟨RX3, "fittingLosses", "(LJingleLaws$Camp;I)I"⟩
abbrev cX3_fittingBeats : ByteArray := prog_5_method_12_code
def yX3_fittingBeats : MethodName := ⟨RX3, "fittingBeats", "(LJingleLaws$Camp;IZ)I"⟩
abbrev cX3_fittingStrengths : ByteArray := prog_5_method_13_code
def yX3_fittingStrengths : MethodName := ⟨RX3, "fittingStrengths", "(LJingleLaws$Camp;II)I"⟩
abbrev cX3_allCases : ByteArray := prog_5_method_14_code
def yX3_allCases : MethodName := ⟨RX3, "allCases", "(LJingleLaws$Camp;)J"⟩
abbrev cX3_casesHolding : ByteArray := prog_5_method_15_code
def yX3_casesHolding : MethodName := ⟨RX3, "casesHolding", "(LJingleLaws$Camp;III)J"⟩
abbrev cX3_drawnNights : ByteArray := prog_5_method_16_code
def yX3_drawnNights : MethodName := ⟨RX3, "drawnNights", "(LJingleLaws$Camp;II)LJingleLaws$Camp;"⟩
abbrev cX3_draw : ByteArray := prog_5_method_17_code
def yX3_draw : MethodName := ⟨RX3, "draw", "(J)V"⟩
def RX4 : String := "JingleLaws$Reader"
def TX4 : u_T := fun k => match k with
  | 0 => ("JingleLaws$Reader", "tape", "[I", true)
  | 1 => ("JingleLaws$Reader", "length", "I", false)
  | 2 => ("JingleLaws$Reader", "draft", "LJingleLaws$Camp;", true)
  | 3 => ("JingleLaws$Reader", "at", "I", false)
  | _ => ("JingleLaws$Reader", "faultFound", "I", false)
def tyX4 : Nat → FieldType := fun k => match k with
  | 0 => .array .int
  | 1 => .int
  | 2 => .object "JingleLaws$Camp"
  | 3 => .int
  | _ => .int
abbrev wsX40 : List Cond := u_ws RX4 TX4 5
theorem nmX4 : ∀ a, a < 5 → ∀ b, b < 5 → a ≠ b → (TX4 a).2.1 ≠ (TX4 b).2.1 := by decide +kernel
theorem tyX4_ok : ∀ k, k < 5 → parseFieldDescriptor (TX4 k).2.2.1 = some (tyX4 k) := by decide +kernel
abbrev cX4_init : ByteArray := prog_6_method_1_code
def yX4_init : MethodName := ⟨RX4, "<init>", "()V"⟩
abbrev cX4_readCamp : ByteArray := prog_6_method_2_code
def yX4_readCamp : MethodName := ⟨RX4, "readCamp", "()V"⟩
abbrev cX4_readHand : ByteArray := prog_6_method_3_code
def yX4_readHand : MethodName := ⟨RX4, "readHand", "()V"⟩
abbrev cX4_readRule : ByteArray := prog_6_method_4_code
def yX4_readRule : MethodName := ⟨RX4, "readRule", "()V"⟩
abbrev cX4_kindTold : ByteArray := prog_6_method_5_code
def yX4_kindTold : MethodName := ⟨RX4, "kindTold", "(I)I"⟩
abbrev cX4_next : ByteArray := prog_6_method_6_code
def yX4_next : MethodName := ⟨RX4, "next", "()I"⟩
abbrev cX4_byteAt : ByteArray := prog_6_method_7_code
def yX4_byteAt : MethodName := ⟨RX4, "byteAt", "(I)I"⟩
abbrev cX4_readByte : ByteArray := prog_6_method_8_code
def yX4_readByte : MethodName := ⟨RX4, "readByte", "(I)V"⟩
abbrev cX4_readNumber : ByteArray := prog_6_method_9_code
def yX4_readNumber : MethodName := ⟨RX4, "readNumber", "(II)I"⟩
def RX5 : String := "JingleLaws$Rota"
def TX5 : u_T := fun k => match k with
  | 0 => ("JingleLaws$Rota", "guess", "LJingleLaws$Camp;", true)
  | 1 => ("JingleLaws$Rota", "songs", "[I", true)
  | 2 => ("JingleLaws$Rota", "songCount", "I", false)
  | 3 => ("JingleLaws$Rota", "songWorth", "[[I", true)
  | 4 => ("JingleLaws$Rota", "lostWorth", "[I", true)
  | 5 => ("JingleLaws$Rota", "way", "[I", true)
  | 6 => ("JingleLaws$Rota", "sets", "[I", true)
  | 7 => ("JingleLaws$Rota", "bestWorth", "I", false)
  | _ => ("JingleLaws$Rota", "best", "[I", true)
def tyX5 : Nat → FieldType := fun k => match k with
  | 0 => .object "JingleLaws$Camp"
  | 1 => .array .int
  | 2 => .int
  | 3 => .array (.array .int)
  | 4 => .array .int
  | 5 => .array .int
  | 6 => .array .int
  | 7 => .int
  | _ => .array .int
abbrev wsX50 : List Cond := u_ws RX5 TX5 9
theorem nmX5 : ∀ a, a < 9 → ∀ b, b < 9 → a ≠ b → (TX5 a).2.1 ≠ (TX5 b).2.1 := by decide +kernel
theorem tyX5_ok : ∀ k, k < 9 → parseFieldDescriptor (TX5 k).2.2.1 = some (tyX5 k) := by decide +kernel
abbrev cX5_init : ByteArray := prog_7_method_1_code
def yX5_init : MethodName := ⟨RX5, "<init>", "()V"⟩
abbrev cX5_bestHolding : ByteArray := prog_7_method_2_code
def yX5_bestHolding : MethodName := ⟨RX5, "bestHolding", "()I"⟩
abbrev cX5_find : ByteArray := prog_7_method_3_code
def yX5_find : MethodName := ⟨RX5, "find", "(LJingleLaws$Camp;I)V"⟩
abbrev cX5_listSongs : ByteArray := prog_7_method_4_code
def yX5_listSongs : MethodName := ⟨RX5, "listSongs", "(LJingleLaws$Camp;)V"⟩
abbrev cX5_workOut : ByteArray := prog_7_method_5_code
def yX5_workOut : MethodName := ⟨RX5, "workOut", "(LJingleLaws$Camp;I)V"⟩
abbrev cX5_letPlayAlone : ByteArray := prog_7_method_6_code
def yX5_letPlayAlone : MethodName := ⟨RX5, "letPlayAlone", "(LJingleLaws$Camp;II)V"⟩
abbrev cX5_worthOf : ByteArray := prog_7_method_7_code
def yX5_worthOf : MethodName := ⟨RX5, "worthOf", "(I)I"⟩
abbrev cX5_worthOfLost : ByteArray := prog_7_method_8_code
def yX5_worthOfLost : MethodName := ⟨RX5, "worthOfLost", "()I"⟩
abbrev cX5_weighWay : ByteArray := prog_7_method_9_code
def yX5_weighWay : MethodName := ⟨RX5, "weighWay", "(I)V"⟩
abbrev cX5_keepWay : ByteArray := prog_7_method_10_code
def yX5_keepWay : MethodName := ⟨RX5, "keepWay", "(I)V"⟩
abbrev cX5_nextWay : ByteArray := prog_7_method_11_code
def yX5_nextWay : MethodName := ⟨RX5, "nextWay", "(I)V"⟩
def RX6 : String := "JingleLaws$Rows"
def TX6 : u_T := fun k => match k with
  | 0 => ("JingleLaws$Rows", "items", "[[I", true)
  | 1 => ("JingleLaws$Rows", "lane", "[I", true)
  | _ => ("JingleLaws$Rows", "size", "[I", true)
def tyX6 : Nat → FieldType := fun k => match k with
  | 0 => .array (.array .int)
  | 1 => .array .int
  | _ => .array .int
abbrev wsX60 : List Cond := u_ws RX6 TX6 3
theorem nmX6 : ∀ a, a < 3 → ∀ b, b < 3 → a ≠ b → (TX6 a).2.1 ≠ (TX6 b).2.1 := by decide +kernel
theorem tyX6_ok : ∀ k, k < 3 → parseFieldDescriptor (TX6 k).2.2.1 = some (tyX6 k) := by decide +kernel
abbrev cX6_init : ByteArray := prog_8_method_1_code
def yX6_init : MethodName := ⟨RX6, "<init>", "()V"⟩
abbrev cX6_isMissing : ByteArray := prog_8_method_2_code
def yX6_isMissing : MethodName := ⟨RX6, "isMissing", "(I)Z"⟩
abbrev cX6_hasPlaces : ByteArray := prog_8_method_3_code
def yX6_hasPlaces : MethodName := ⟨RX6, "hasPlaces", "(III)Z"⟩
abbrev cX6_make : ByteArray := prog_8_method_4_code
def yX6_make : MethodName := ⟨RX6, "make", "(III)V"⟩
abbrev cX6_put : ByteArray := prog_8_method_5_code
def yX6_put : MethodName := ⟨RX6, "put", "(III)I"⟩
abbrev cX6_lose : ByteArray := prog_8_method_6_code
def yX6_lose : MethodName := ⟨RX6, "lose", "(I)I"⟩
abbrev cX6_howMany : ByteArray := prog_8_method_7_code
def yX6_howMany : MethodName := ⟨RX6, "howMany", "()I"⟩
def RX7 : String := "JingleLaws"
def TX7 : u_T := fun k => match k with
  | 0 => ("JingleLaws", "rows", "LJingleLaws$Rows;", true)
  | 1 => ("JingleLaws", "reader", "LJingleLaws$Reader;", true)
  | 2 => ("JingleLaws", "now", "LJingleLaws$Camp;", true)
  | 3 => ("JingleLaws", "images", "[LJingleLaws$Camp;", true)
  | 4 => ("JingleLaws", "acts", "LJingleLaws$Acts;", true)
  | 5 => ("JingleLaws", "foretold", "LJingleLaws$Foretold;", true)
  | 6 => ("JingleLaws", "rota", "LJingleLaws$Rota;", true)
  | 7 => ("JingleLaws", "asks", "LJingleLaws$Asks;", true)
  | 8 => ("JingleLaws", "latestFault", "I", false)
  | _ => ("JingleLaws", "latestFinding", "I", false)
def tyX7 : Nat → FieldType := fun k => match k with
  | 0 => .object "JingleLaws$Rows"
  | 1 => .object "JingleLaws$Reader"
  | 2 => .object "JingleLaws$Camp"
  | 3 => .array (.object "JingleLaws$Camp")
  | 4 => .object "JingleLaws$Acts"
  | 5 => .object "JingleLaws$Foretold"
  | 6 => .object "JingleLaws$Rota"
  | 7 => .object "JingleLaws$Asks"
  | 8 => .int
  | _ => .int
abbrev wsX70 : List Cond := u_ws RX7 TX7 10
theorem nmX7 : ∀ a, a < 10 → ∀ b, b < 10 → a ≠ b → (TX7 a).2.1 ≠ (TX7 b).2.1 := by decide +kernel
theorem tyX7_ok : ∀ k, k < 10 → parseFieldDescriptor (TX7 k).2.2.1 = some (tyX7 k) := by decide +kernel
abbrev cX7_init : ByteArray := prog_1_method_1_code
def yX7_init : MethodName := ⟨RX7, "<init>", "()V"⟩
abbrev cX7_row : ByteArray := prog_1_method_2_code
def yX7_row : MethodName := ⟨RX7, "row", "(III)I"⟩
abbrev cX7_set : ByteArray := prog_1_method_3_code
def yX7_set : MethodName := ⟨RX7, "set", "(III)I"⟩
abbrev cX7_copy : ByteArray := prog_1_method_4_code
def yX7_copy : MethodName := ⟨RX7, "copy", "(IIIII)I"⟩
abbrev cX7_drop : ByteArray := prog_1_method_5_code
def yX7_drop : MethodName := ⟨RX7, "drop", "(I)I"⟩
abbrev cX7_feed : ByteArray := prog_1_method_6_code
def yX7_feed : MethodName := ⟨RX7, "feed", "(I)I"⟩
abbrev cX7_camp : ByteArray := prog_1_method_7_code
def yX7_camp : MethodName := ⟨RX7, "camp", "()I"⟩
abbrev cX7_fault : ByteArray := prog_1_method_8_code
def yX7_fault : MethodName := ⟨RX7, "fault", "()I"⟩
abbrev cX7_undo : ByteArray := prog_1_method_9_code
def yX7_undo : MethodName := ⟨RX7, "undo", "()I"⟩
abbrev cX7_hours : ByteArray := prog_1_method_10_code
def yX7_hours : MethodName := ⟨RX7, "hours", "(I)I"⟩
abbrev cX7_give : ByteArray := prog_1_method_11_code
def yX7_give : MethodName := ⟨RX7, "give", "(II)I"⟩
abbrev cX7_play : ByteArray := prog_1_method_12_code
def yX7_play : MethodName := ⟨RX7, "play", "(II)I"⟩
abbrev cX7_soup : ByteArray := prog_1_method_13_code
def yX7_soup : MethodName := ⟨RX7, "soup", "(II)I"⟩
abbrev cX7_bars : ByteArray := prog_1_method_14_code
def yX7_bars : MethodName := ⟨RX7, "bars", "(II)I"⟩
abbrev cX7_rule : ByteArray := prog_1_method_15_code
def yX7_rule : MethodName := ⟨RX7, "rule", "(II)I"⟩
abbrev cX7_hand : ByteArray := prog_1_method_16_code
def yX7_hand : MethodName := ⟨RX7, "hand", "(II)I"⟩
abbrev cX7_stand : ByteArray := prog_1_method_17_code
def yX7_stand : MethodName := ⟨RX7, "stand", "(I)I"⟩
abbrev cX7_ahead : ByteArray := prog_1_method_18_code
def yX7_ahead : MethodName := ⟨RX7, "ahead", "(II)I"⟩
abbrev cX7_strong : ByteArray := prog_1_method_19_code
def yX7_strong : MethodName := ⟨RX7, "strong", "(II)I"⟩
abbrev cX7_barred : ByteArray := prog_1_method_20_code
def yX7_barred : MethodName := ⟨RX7, "barred", "(I)I"⟩
abbrev cX7_when : ByteArray := prog_1_method_21_code
def yX7_when : MethodName := ⟨RX7, "when", "(I)I"⟩
abbrev cX7_first : ByteArray := prog_1_method_22_code
def yX7_first : MethodName := ⟨RX7, "first", "(I)I"⟩
abbrev cX7_hands : ByteArray := prog_1_method_23_code
def yX7_hands : MethodName := ⟨RX7, "hands", "(III)I"⟩
abbrev cX7_rota : ByteArray := prog_1_method_24_code
def yX7_rota : MethodName := ⟨RX7, "rota", "(II)I"⟩
abbrev cX7_cover : ByteArray := prog_1_method_25_code
def yX7_cover : MethodName := ⟨RX7, "cover", "(II)I"⟩
abbrev cX7_fall : ByteArray := prog_1_method_26_code
def yX7_fall : MethodName := ⟨RX7, "fall", "(I)I"⟩
abbrev cX7_byTurns : ByteArray := prog_1_method_27_code
def yX7_byTurns : MethodName := ⟨RX7, "byTurns", "(III)I"⟩
abbrev cX7_share : ByteArray := prog_1_method_28_code
def yX7_share : MethodName := ⟨RX7, "share", "(II)I"⟩
abbrev cX7_who : ByteArray := prog_1_method_29_code
def yX7_who : MethodName := ⟨RX7, "who", "(IIIII)I"⟩
abbrev cX7_felt : ByteArray := prog_1_method_30_code
def yX7_felt : MethodName := ⟨RX7, "felt", "(IIIII)I"⟩
abbrev cX7_sleep : ByteArray := prog_1_method_31_code
def yX7_sleep : MethodName := ⟨RX7, "sleep", "(IIII)J"⟩
abbrev cX7_drawn : ByteArray := prog_1_method_32_code
def yX7_drawn : MethodName := ⟨RX7, "drawn", "(III)I"⟩
abbrev cX7_image : ByteArray := prog_1_method_33_code
def yX7_image : MethodName := ⟨RX7, "image", "(I)I"⟩
abbrev cX7_restore : ByteArray := prog_1_method_34_code
def yX7_restore : MethodName := ⟨RX7, "restore", "(I)I"⟩
abbrev cX7_kind : ByteArray := prog_1_method_35_code
def yX7_kind : MethodName := ⟨RX7, "kind", "(I)I"⟩
abbrev cX7_as : ByteArray := prog_1_method_36_code
def yX7_as : MethodName := ⟨RX7, "as", "(II)I"⟩
abbrev cX7_ask : ByteArray := prog_1_method_37_code
def yX7_ask : MethodName := ⟨RX7, "ask", "(II)I"⟩
abbrev cX7_trace : ByteArray := prog_1_method_38_code
def yX7_trace : MethodName := ⟨RX7, "trace", "(I)I"⟩
abbrev cX7_count : ByteArray := prog_1_method_39_code
def yX7_count : MethodName := ⟨RX7, "count", "(I)I"⟩
abbrev cX7_status : ByteArray := prog_1_method_40_code
def yX7_status : MethodName := ⟨RX7, "status", "()I"⟩
abbrev cX7_within : ByteArray := prog_1_method_41_code
def yX7_within : MethodName := ⟨RX7, "within", "(III)Z"⟩
abbrev cX7_isKind : ByteArray := prog_1_method_42_code
def yX7_isKind : MethodName := ⟨RX7, "isKind", "(II)Z"⟩
abbrev cX7_greatestCommon : ByteArray := prog_1_method_43_code
def yX7_greatestCommon : MethodName := ⟨RX7, "greatestCommon", "(JJ)J"⟩
abbrev cX7_fewest : ByteArray := prog_1_method_44_code
def yX7_fewest : MethodName := ⟨RX7, "fewest", "(II)I"⟩
abbrev cX7_noRow : ByteArray := prog_1_method_45_code
def yX7_noRow : MethodName := ⟨RX7, "noRow", "(I)Z"⟩
abbrev cX7_noCamp : ByteArray := prog_1_method_46_code
def yX7_noCamp : MethodName := ⟨RX7, "noCamp", "()Z"⟩
abbrev cX7_noRule : ByteArray := prog_1_method_47_code
def yX7_noRule : MethodName := ⟨RX7, "noRule", "(I)Z"⟩
abbrev cX7_noHand : ByteArray := prog_1_method_48_code
def yX7_noHand : MethodName := ⟨RX7, "noHand", "(I)Z"⟩
abbrev cX7_unheard : ByteArray := prog_1_method_49_code
def yX7_unheard : MethodName := ⟨RX7, "unheard", "(III)I"⟩
abbrev cX7_finding : ByteArray := prog_1_method_50_code
def yX7_finding : MethodName := ⟨RX7, "finding", "(I)I"⟩
abbrev cX7_unfound : ByteArray := prog_1_method_51_code
def yX7_unfound : MethodName := ⟨RX7, "unfound", "(I)I"⟩
def RX8 : String := "JingleLawsModel"
def TX8 : u_T := fun k => match k with
  | 0 => ("JingleLawsModel", "thrown", "I", false)
  | 1 => ("JingleLawsModel", "status", "I", false)
  | 2 => ("JingleLawsModel", "lane", "[I", true)
  | 3 => ("JingleLawsModel", "many", "[I", true)
  | 4 => ("JingleLawsModel", "item", "[I", true)
  | 5 => ("JingleLawsModel", "camp", "[I", true)
  | 6 => ("JingleLawsModel", "fresh", "[I", true)
  | 7 => ("JingleLawsModel", "then", "[I", true)
  | 8 => ("JingleLawsModel", "was", "[I", true)
  | 9 => ("JingleLawsModel", "acts", "I", false)
  | 10 => ("JingleLawsModel", "tape", "[I", true)
  | 11 => ("JingleLawsModel", "taped", "I", false)
  | 12 => ("JingleLawsModel", "cursor", "I", false)
  | 13 => ("JingleLawsModel", "start", "I", false)
  | 14 => ("JingleLawsModel", "token", "I", false)
  | 15 => ("JingleLawsModel", "value", "I", false)
  | 16 => ("JingleLawsModel", "fault", "I", false)
  | 17 => ("JingleLawsModel", "faultAt", "I", false)
  | 18 => ("JingleLawsModel", "latest", "I", false)
  | 19 => ("JingleLawsModel", "beats", "[I", true)
  | 20 => ("JingleLawsModel", "strengths", "[I", true)
  | 21 => ("JingleLawsModel", "rota", "[I", true)
  | 22 => ("JingleLawsModel", "turn", "[I", true)
  | 23 => ("JingleLawsModel", "isKept", "[Z", true)
  | 24 => ("JingleLawsModel", "kept", "[I", true)
  | 25 => ("JingleLawsModel", "trace", "[I", true)
  | _ => ("JingleLawsModel", "traced", "I", false)
def tyX8 : Nat → FieldType := fun k => match k with
  | 0 => .int
  | 1 => .int
  | 2 => .array .int
  | 3 => .array .int
  | 4 => .array .int
  | 5 => .array .int
  | 6 => .array .int
  | 7 => .array .int
  | 8 => .array .int
  | 9 => .int
  | 10 => .array .int
  | 11 => .int
  | 12 => .int
  | 13 => .int
  | 14 => .int
  | 15 => .int
  | 16 => .int
  | 17 => .int
  | 18 => .int
  | 19 => .array .int
  | 20 => .array .int
  | 21 => .array .int
  | 22 => .array .int
  | 23 => .array .boolean
  | 24 => .array .int
  | 25 => .array .int
  | _ => .int
abbrev wsX80 : List Cond := u_ws RX8 TX8 27
theorem nmX8 : ∀ a, a < 27 → ∀ b, b < 27 → a ≠ b → (TX8 a).2.1 ≠ (TX8 b).2.1 := by decide +kernel
theorem tyX8_ok : ∀ k, k < 27 → parseFieldDescriptor (TX8 k).2.2.1 = some (tyX8 k) := by decide +kernel
abbrev cX8_init : ByteArray := prog_10_method_1_code
def yX8_init : MethodName := ⟨RX8, "<init>", "()V"⟩
abbrev cX8_in : ByteArray := prog_10_method_3_code
def yX8_in : MethodName := ⟨RX8, "in", "(JJJ)Z"⟩
abbrev cX8_finding : ByteArray := prog_10_method_4_code
def yX8_finding : MethodName := ⟨RX8, "finding", "(I)I"⟩
abbrev cX8_isRow : ByteArray := prog_10_method_5_code
def yX8_isRow : MethodName := ⟨RX8, "isRow", "(I)Z"⟩
abbrev cX8_row : ByteArray := prog_10_method_6_code
def yX8_row : MethodName := ⟨RX8, "row", "(III)I"⟩
abbrev cX8_set : ByteArray := prog_10_method_7_code
def yX8_set : MethodName := ⟨RX8, "set", "(III)I"⟩
abbrev cX8_copy : ByteArray := prog_10_method_8_code
def yX8_copy : MethodName := ⟨RX8, "copy", "(IIIII)I"⟩
abbrev cX8_drop : ByteArray := prog_10_method_9_code
def yX8_drop : MethodName := ⟨RX8, "drop", "(I)I"⟩
abbrev cX8_feed : ByteArray := prog_10_method_10_code
def yX8_feed : MethodName := ⟨RX8, "feed", "(I)I"⟩
abbrev cX8_bad : ByteArray := prog_10_method_11_code
def yX8_bad : MethodName := ⟨RX8, "bad", "(I)V"⟩
abbrev cX8_nextToken : ByteArray := prog_10_method_12_code
def yX8_nextToken : MethodName := ⟨RX8, "nextToken", "()V"⟩
abbrev cX8_must : ByteArray := prog_10_method_13_code
def yX8_must : MethodName := ⟨RX8, "must", "(Z)V"⟩
abbrev cX8_isLetter : ByteArray := prog_10_method_14_code
def yX8_isLetter : MethodName := ⟨RX8, "isLetter", "(I)Z"⟩
abbrev cX8_number : ByteArray := prog_10_method_15_code
def yX8_number : MethodName := ⟨RX8, "number", "(II)I"⟩
abbrev cX8_mustSign : ByteArray := prog_10_method_16_code
def yX8_mustSign : MethodName := ⟨RX8, "mustSign", "(I)V"⟩
abbrev cX8_begin : ByteArray := prog_10_method_17_code
def yX8_begin : MethodName := ⟨RX8, "begin", "()V"⟩
abbrev cX8_failed : ByteArray := prog_10_method_18_code
def yX8_failed : MethodName := ⟨RX8, "failed", "()Z"⟩
abbrev cX8_fault : ByteArray := prog_10_method_19_code
def yX8_fault : MethodName := ⟨RX8, "fault", "()I"⟩
abbrev cX8_kindBy : ByteArray := prog_10_method_20_code
def yX8_kindBy : MethodName := ⟨RX8, "kindBy", "(I)I"⟩
abbrev cX8_isSort : ByteArray := prog_10_method_21_code
def yX8_isSort : MethodName := ⟨RX8, "isSort", "()Z"⟩
abbrev cX8_readHand : ByteArray := prog_10_method_22_code
def yX8_readHand : MethodName := ⟨RX8, "readHand", "()V"⟩
abbrev cX8_readRule : ByteArray := prog_10_method_23_code
def yX8_readRule : MethodName := ⟨RX8, "readRule", "()V"⟩
abbrev cX8_camp : ByteArray := prog_10_method_24_code
def yX8_camp : MethodName := ⟨RX8, "camp", "()I"⟩
abbrev cX8_isThere : ByteArray := prog_10_method_25_code
def yX8_isThere : MethodName := ⟨RX8, "isThere", "()Z"⟩
abbrev cX8_isRule : ByteArray := prog_10_method_26_code
def yX8_isRule : MethodName := ⟨RX8, "isRule", "(I)Z"⟩
abbrev cX8_isHand : ByteArray := prog_10_method_27_code
def yX8_isHand : MethodName := ⟨RX8, "isHand", "(I)Z"⟩
abbrev cX8_bits : ByteArray := prog_10_method_28_code
def yX8_bits : MethodName := ⟨RX8, "bits", "(I)I"⟩
abbrev cX8_has : ByteArray := prog_10_method_29_code
def yX8_has : MethodName := ⟨RX8, "has", "(II)Z"⟩
abbrev cX8_of : ByteArray := prog_10_method_30_code
def yX8_of : MethodName := ⟨RX8, "of", "([III)I"⟩
abbrev cX8_be : ByteArray := prog_10_method_31_code
def yX8_be : MethodName := ⟨RX8, "be", "([IIII)V"⟩
abbrev cX8_strength : ByteArray := prog_10_method_32_code
def yX8_strength : MethodName := ⟨RX8, "strength", "([II)I"⟩
abbrev cX8_playsOf : ByteArray := prog_10_method_33_code
def yX8_playsOf : MethodName := ⟨RX8, "playsOf", "([II)I"⟩
abbrev cX8_plays : ByteArray := prog_10_method_34_code
def yX8_plays : MethodName := ⟨RX8, "plays", "([III)V"⟩
abbrev cX8_isLost : ByteArray := prog_10_method_35_code
def yX8_isLost : MethodName := ⟨RX8, "isLost", "([II)Z"⟩
abbrev cX8_isPlayedBy : ByteArray := prog_10_method_36_code
def yX8_isPlayedBy : MethodName := ⟨RX8, "isPlayedBy", "([III)Z"⟩
abbrev cX8_handsOf : ByteArray := prog_10_method_37_code
def yX8_handsOf : MethodName := ⟨RX8, "handsOf", "([II)I"⟩
abbrev cX8_rulesOf : ByteArray := prog_10_method_38_code
def yX8_rulesOf : MethodName := ⟨RX8, "rulesOf", "([II)I"⟩
abbrev cX8_lossOf : ByteArray := prog_10_method_39_code
def yX8_lossOf : MethodName := ⟨RX8, "lossOf", "([IIZ)I"⟩
abbrev cX8_hour : ByteArray := prog_10_method_40_code
def yX8_hour : MethodName := ⟨RX8, "hour", "([I)V"⟩
abbrev cX8_hoursOf : ByteArray := prog_10_method_41_code
def yX8_hoursOf : MethodName := ⟨RX8, "hoursOf", "([II)V"⟩
abbrev cX8_holding : ByteArray := prog_10_method_42_code
def yX8_holding : MethodName := ⟨RX8, "holding", "([I)I"⟩
abbrev cX8_barredBy : ByteArray := prog_10_method_43_code
def yX8_barredBy : MethodName := ⟨RX8, "barredBy", "([I)I"⟩
abbrev cX8_allBeat : ByteArray := prog_10_method_44_code
def yX8_allBeat : MethodName := ⟨RX8, "allBeat", "([I)I"⟩
abbrev cX8_allStrength : ByteArray := prog_10_method_45_code
def yX8_allStrength : MethodName := ⟨RX8, "allStrength", "([I)I"⟩
abbrev cX8_layThen : ByteArray := prog_10_method_46_code
def yX8_layThen : MethodName := ⟨RX8, "layThen", "()V"⟩
abbrev cX8_keep : ByteArray := prog_10_method_47_code
def yX8_keep : MethodName := ⟨RX8, "keep", "()V"⟩
abbrev cX8_hours : ByteArray := prog_10_method_48_code
def yX8_hours : MethodName := ⟨RX8, "hours", "(I)I"⟩
abbrev cX8_give : ByteArray := prog_10_method_49_code
def yX8_give : MethodName := ⟨RX8, "give", "(II)I"⟩
abbrev cX8_play : ByteArray := prog_10_method_50_code
def yX8_play : MethodName := ⟨RX8, "play", "(II)I"⟩
abbrev cX8_soup : ByteArray := prog_10_method_51_code
def yX8_soup : MethodName := ⟨RX8, "soup", "(II)I"⟩
abbrev cX8_bars : ByteArray := prog_10_method_52_code
def yX8_bars : MethodName := ⟨RX8, "bars", "(II)I"⟩
abbrev cX8_undo : ByteArray := prog_10_method_53_code
def yX8_undo : MethodName := ⟨RX8, "undo", "()I"⟩
abbrev cX8_rule : ByteArray := prog_10_method_54_code
def yX8_rule : MethodName := ⟨RX8, "rule", "(II)I"⟩
abbrev cX8_hand : ByteArray := prog_10_method_55_code
def yX8_hand : MethodName := ⟨RX8, "hand", "(II)I"⟩
abbrev cX8_stand : ByteArray := prog_10_method_56_code
def yX8_stand : MethodName := ⟨RX8, "stand", "(I)I"⟩
abbrev cX8_ahead : ByteArray := prog_10_method_57_code
def yX8_ahead : MethodName := ⟨RX8, "ahead", "(II)I"⟩
abbrev cX8_strong : ByteArray := prog_10_method_58_code
def yX8_strong : MethodName := ⟨RX8, "strong", "(II)I"⟩
abbrev cX8_barred : ByteArray := prog_10_method_59_code
def yX8_barred : MethodName := ⟨RX8, "barred", "(I)I"⟩
abbrev cX8_when : ByteArray := prog_10_method_60_code
def yX8_when : MethodName := ⟨RX8, "when", "(I)I"⟩
abbrev cX8_first : ByteArray := prog_10_method_61_code
def yX8_first : MethodName := ⟨RX8, "first", "(I)I"⟩
abbrev cX8_hands : ByteArray := prog_10_method_62_code
def yX8_hands : MethodName := ⟨RX8, "hands", "(III)I"⟩
abbrev cX8_rota : ByteArray := prog_10_method_63_code
def yX8_rota : MethodName := ⟨RX8, "rota", "(II)I"⟩
abbrev cX8_cover : ByteArray := prog_10_method_64_code
def yX8_cover : MethodName := ⟨RX8, "cover", "(II)I"⟩
abbrev cX8_fall : ByteArray := prog_10_method_65_code
def yX8_fall : MethodName := ⟨RX8, "fall", "(I)I"⟩
abbrev cX8_afterTurns : ByteArray := prog_10_method_66_code
def yX8_afterTurns : MethodName := ⟨RX8, "afterTurns", "(III)I"⟩
abbrev cX8_fourth : ByteArray := prog_10_method_67_code
def yX8_fourth : MethodName := ⟨RX8, "fourth", "(III)I"⟩
abbrev cX8_third : ByteArray := prog_10_method_68_code
def yX8_third : MethodName := ⟨RX8, "third", "(III)I"⟩
abbrev cX8_second : ByteArray := prog_10_method_69_code
def yX8_second : MethodName := ⟨RX8, "second", "(III)I"⟩
abbrev cX8_byTurns : ByteArray := prog_10_method_70_code
def yX8_byTurns : MethodName := ⟨RX8, "byTurns", "(III)I"⟩
abbrev cX8_lacks : ByteArray := prog_10_method_71_code
def yX8_lacks : MethodName := ⟨RX8, "lacks", "(I)I"⟩
abbrev cX8_share : ByteArray := prog_10_method_72_code
def yX8_share : MethodName := ⟨RX8, "share", "(II)I"⟩
abbrev cX8_isSo : ByteArray := prog_10_method_73_code
def yX8_isSo : MethodName := ⟨RX8, "isSo", "(III)Z"⟩
abbrev cX8_rowFound : ByteArray := prog_10_method_74_code
def yX8_rowFound : MethodName := ⟨RX8, "rowFound", "(III)I"⟩
abbrev cX8_isMany : ByteArray := prog_10_method_75_code
def yX8_isMany : MethodName := ⟨RX8, "isMany", "(II)Z"⟩
abbrev cX8_who : ByteArray := prog_10_method_76_code
def yX8_who : MethodName := ⟨RX8, "who", "(IIIII)I"⟩
abbrev cX8_felt : ByteArray := prog_10_method_77_code
def yX8_felt : MethodName := ⟨RX8, "felt", "(IIIII)I"⟩
abbrev cX8_sleep : ByteArray := prog_10_method_78_code
def yX8_sleep : MethodName := ⟨RX8, "sleep", "(IIII)J"⟩
abbrev cX8_drawn : ByteArray := prog_10_method_79_code
def yX8_drawn : MethodName := ⟨RX8, "drawn", "(III)I"⟩
abbrev cX8_image : ByteArray := prog_10_method_80_code
def yX8_image : MethodName := ⟨RX8, "image", "(I)I"⟩
abbrev cX8_restore : ByteArray := prog_10_method_81_code
def yX8_restore : MethodName := ⟨RX8, "restore", "(I)I"⟩
abbrev cX8_isOf : ByteArray := prog_10_method_82_code
def yX8_isOf : MethodName := ⟨RX8, "isOf", "(II)Z"⟩
abbrev cX8_kind : ByteArray := prog_10_method_83_code
def yX8_kind : MethodName := ⟨RX8, "kind", "(I)I"⟩
abbrev cX8_as : ByteArray := prog_10_method_84_code
def yX8_as : MethodName := ⟨RX8, "as", "(II)I"⟩
abbrev cX8_began : ByteArray := prog_10_method_85_code
def yX8_began : MethodName := ⟨RX8, "began", "(I)V"⟩
abbrev cX8_plainSize : ByteArray := prog_10_method_86_code
def yX8_plainSize : MethodName := ⟨RX8, "plainSize", "(I)I"⟩
abbrev cX8_lostSize : ByteArray := prog_10_method_87_code
def yX8_lostSize : MethodName := ⟨RX8, "lostSize", "(I)I"⟩
abbrev cX8_markOf : ByteArray := prog_10_method_88_code
def yX8_markOf : MethodName := ⟨RX8, "markOf", "(I)I"⟩
abbrev cX8_sizeOf : ByteArray := prog_10_method_89_code
def yX8_sizeOf : MethodName := ⟨RX8, "sizeOf", "(I)I"⟩
abbrev cX8_ask : ByteArray := prog_10_method_90_code
def yX8_ask : MethodName := ⟨RX8, "ask", "(II)I"⟩
abbrev cX8_trace : ByteArray := prog_10_method_91_code
def yX8_trace : MethodName := ⟨RX8, "trace", "(I)I"⟩
abbrev cX8_count : ByteArray := prog_10_method_92_code
def yX8_count : MethodName := ⟨RX8, "count", "(I)I"⟩
abbrev cX8_status : ByteArray := prog_10_method_93_code
def yX8_status : MethodName := ⟨RX8, "status", "()I"⟩
def RJ6 : String := "java/lang/Integer"
abbrev cJ6_numberOfTrailingZeros_0f7a4 : ByteArray := prog_11_method_48_code
def yJ6_numberOfTrailingZeros_0f7a4 : MethodName := ⟨RJ6, "numberOfTrailingZeros", "(I)I"⟩
abbrev cJ6_bitCount_0f7a4 : ByteArray := prog_11_method_49_code
def yJ6_bitCount_0f7a4 : MethodName := ⟨RJ6, "bitCount", "(I)I"⟩
def RJ9 : String := "java/lang/Math"
abbrev cJ9_max_7cf53 : ByteArray := prog_12_method_65_code
def yJ9_max_7cf53 : MethodName := ⟨RJ9, "max", "(II)I"⟩
abbrev cJ9_min_7cf53 : ByteArray := prog_12_method_69_code
def yJ9_min_7cf53 : MethodName := ⟨RJ9, "min", "(II)I"⟩
def RJ10 : String := "java/lang/System"
def RJ7 : String := "java/util/Arrays"
abbrev cJ7_fill_53178 : ByteArray := prog_14_method_103_code
def yJ7_fill_53178 : MethodName := ⟨RJ7, "fill", "([II)V"⟩
def RL : String := "JingleLawsLaw"
abbrev cL_law : ByteArray := code
def yL_law : MethodName := ⟨RL, "law", "([I)Z"⟩
abbrev vwCl : List vw_C := [(RX0, TX0, 3), (RX1, TX1, 2), (RX2, TX2, 13), (RX3, TX3, 4), (RX4, TX4, 5), (RX5, TX5, 9), (RX6, TX6, 3), (RX7, TX7, 10), (RX8, TX8, 27)]
