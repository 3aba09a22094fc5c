-- ===== PART A: goes FIRST, ahead of the names: the tables' words, and 'selects' of the private methods out of them =====
/-- a private method of a class that the tables say can be made, by its rows of tables_1 -/
def lw_okq (q : MethodName × Nat) : Prop := (q.1.cls ≠ "java/lang/invoke/MethodHandle" ∧ q.1.cls ≠ "java/lang/invoke/VarHandle") ∧ Cond.instantiable q.1.cls q.2 ∈ tables_1 ∧ Cond.privateMethod q.1 ∈ tables_1 ∧ Cond.instanceMethod q.1 ∈ tables_1
theorem lw_p0 : lw_okq (⟨"TenthBean", "putBytes", "(I)V"⟩, 13) := ⟨⟨by decide +kernel, by decide +kernel⟩, List.mem_of_getElem? (i := 26) (by decide +kernel), List.mem_of_getElem? (i := 497) (by decide +kernel), List.mem_of_getElem? (i := 498) (by decide +kernel)⟩
theorem lw_p1 : lw_okq (⟨"TenthBean", "refused", "(I)Z"⟩, 13) := ⟨⟨by decide +kernel, by decide +kernel⟩, List.mem_of_getElem? (i := 26) (by decide +kernel), List.mem_of_getElem? (i := 505) (by decide +kernel), List.mem_of_getElem? (i := 506) (by decide +kernel)⟩
theorem lw_p2 : lw_okq (⟨"TenthBean$Tokens", "standTogether", "(CC)I"⟩, 5) := ⟨⟨by decide +kernel, by decide +kernel⟩, List.mem_of_getElem? (i := 234) (by decide +kernel), List.mem_of_getElem? (i := 533) (by decide +kernel), List.mem_of_getElem? (i := 534) (by decide +kernel)⟩
theorem lw_p3 : lw_okq (⟨"TenthBean$Reader", "faultOfLine", "(I)I"⟩, 7) := ⟨⟨by decide +kernel, by decide +kernel⟩, List.mem_of_getElem? (i := 34) (by decide +kernel), List.mem_of_getElem? (i := 601) (by decide +kernel), List.mem_of_getElem? (i := 602) (by decide +kernel)⟩
theorem lw_p4 : lw_okq (⟨"TenthBean$Reader", "fail", "(I)Z"⟩, 7) := ⟨⟨by decide +kernel, by decide +kernel⟩, List.mem_of_getElem? (i := 34) (by decide +kernel), List.mem_of_getElem? (i := 616) (by decide +kernel), List.mem_of_getElem? (i := 617) (by decide +kernel)⟩
theorem lw_p5 : lw_okq (⟨"TenthBean$Reader", "readLegion", "()Z"⟩, 7) := ⟨⟨by decide +kernel, by decide +kernel⟩, List.mem_of_getElem? (i := 34) (by decide +kernel), List.mem_of_getElem? (i := 621) (by decide +kernel), List.mem_of_getElem? (i := 622) (by decide +kernel)⟩
theorem lw_p6 : lw_okq (⟨"TenthBean$Reader", "readNamed", "(Ljava/lang/String;II)I"⟩, 7) := ⟨⟨by decide +kernel, by decide +kernel⟩, List.mem_of_getElem? (i := 34) (by decide +kernel), List.mem_of_getElem? (i := 626) (by decide +kernel), List.mem_of_getElem? (i := 627) (by decide +kernel)⟩
theorem lw_p7 : lw_okq (⟨"TenthBean$Reader", "readWord", "(Ljava/lang/String;)Z"⟩, 7) := ⟨⟨by decide +kernel, by decide +kernel⟩, List.mem_of_getElem? (i := 34) (by decide +kernel), List.mem_of_getElem? (i := 630) (by decide +kernel), List.mem_of_getElem? (i := 631) (by decide +kernel)⟩
theorem lw_p8 : lw_okq (⟨"TenthBean$Reader", "readWhole", "(II)I"⟩, 7) := ⟨⟨by decide +kernel, by decide +kernel⟩, List.mem_of_getElem? (i := 34) (by decide +kernel), List.mem_of_getElem? (i := 635) (by decide +kernel), List.mem_of_getElem? (i := 636) (by decide +kernel)⟩
theorem lw_p9 : lw_okq (⟨"TenthBean$Reader", "readTen", "()Z"⟩, 7) := ⟨⟨by decide +kernel, by decide +kernel⟩, List.mem_of_getElem? (i := 34) (by decide +kernel), List.mem_of_getElem? (i := 646) (by decide +kernel), List.mem_of_getElem? (i := 647) (by decide +kernel)⟩
theorem lw_p10 : lw_okq (⟨"TenthBean$Reader", "isFreshName", "()Z"⟩, 7) := ⟨⟨by decide +kernel, by decide +kernel⟩, List.mem_of_getElem? (i := 34) (by decide +kernel), List.mem_of_getElem? (i := 650) (by decide +kernel), List.mem_of_getElem? (i := 651) (by decide +kernel)⟩
theorem lw_p11 : lw_okq (⟨"TenthBean$Reader", "readMan", "()Z"⟩, 7) := ⟨⟨by decide +kernel, by decide +kernel⟩, List.mem_of_getElem? (i := 34) (by decide +kernel), List.mem_of_getElem? (i := 662) (by decide +kernel), List.mem_of_getElem? (i := 663) (by decide +kernel)⟩
theorem lw_p12 : lw_okq (⟨"TenthBean$Reader", "readKind", "()I"⟩, 7) := ⟨⟨by decide +kernel, by decide +kernel⟩, List.mem_of_getElem? (i := 34) (by decide +kernel), List.mem_of_getElem? (i := 666) (by decide +kernel), List.mem_of_getElem? (i := 667) (by decide +kernel)⟩
theorem lw_p13 : lw_okq (⟨"TenthBean$Reader", "findTold", "([JI)I"⟩, 7) := ⟨⟨by decide +kernel, by decide +kernel⟩, List.mem_of_getElem? (i := 34) (by decide +kernel), List.mem_of_getElem? (i := 675) (by decide +kernel), List.mem_of_getElem? (i := 676) (by decide +kernel)⟩
theorem lw_p14 : lw_okq (⟨"TenthBean$Reader", "readFriend", "()Z"⟩, 7) := ⟨⟨by decide +kernel, by decide +kernel⟩, List.mem_of_getElem? (i := 34) (by decide +kernel), List.mem_of_getElem? (i := 684) (by decide +kernel), List.mem_of_getElem? (i := 685) (by decide +kernel)⟩
theorem lw_p15 : lw_okq (⟨"TenthBean$Reader", "readMember", "()I"⟩, 7) := ⟨⟨by decide +kernel, by decide +kernel⟩, List.mem_of_getElem? (i := 34) (by decide +kernel), List.mem_of_getElem? (i := 688) (by decide +kernel), List.mem_of_getElem? (i := 689) (by decide +kernel)⟩
def lw_privs_1 : List (MethodName × Nat) := [(⟨"TenthBean", "putBytes", "(I)V"⟩, 13), (⟨"TenthBean", "refused", "(I)Z"⟩, 13), (⟨"TenthBean$Tokens", "standTogether", "(CC)I"⟩, 5), (⟨"TenthBean$Reader", "faultOfLine", "(I)I"⟩, 7), (⟨"TenthBean$Reader", "fail", "(I)Z"⟩, 7), (⟨"TenthBean$Reader", "readLegion", "()Z"⟩, 7), (⟨"TenthBean$Reader", "readNamed", "(Ljava/lang/String;II)I"⟩, 7), (⟨"TenthBean$Reader", "readWord", "(Ljava/lang/String;)Z"⟩, 7), (⟨"TenthBean$Reader", "readWhole", "(II)I"⟩, 7), (⟨"TenthBean$Reader", "readTen", "()Z"⟩, 7), (⟨"TenthBean$Reader", "isFreshName", "()Z"⟩, 7), (⟨"TenthBean$Reader", "readMan", "()Z"⟩, 7), (⟨"TenthBean$Reader", "readKind", "()I"⟩, 7), (⟨"TenthBean$Reader", "findTold", "([JI)I"⟩, 7), (⟨"TenthBean$Reader", "readFriend", "()Z"⟩, 7), (⟨"TenthBean$Reader", "readMember", "()I"⟩, 7)]
theorem lw_r1 : ∀ q ∈ lw_privs_1, lw_okq q := List.forall_mem_cons.mpr ⟨lw_p0, List.forall_mem_cons.mpr ⟨lw_p1, List.forall_mem_cons.mpr ⟨lw_p2, List.forall_mem_cons.mpr ⟨lw_p3, List.forall_mem_cons.mpr ⟨lw_p4, List.forall_mem_cons.mpr ⟨lw_p5, List.forall_mem_cons.mpr ⟨lw_p6, List.forall_mem_cons.mpr ⟨lw_p7, List.forall_mem_cons.mpr ⟨lw_p8, List.forall_mem_cons.mpr ⟨lw_p9, List.forall_mem_cons.mpr ⟨lw_p10, List.forall_mem_cons.mpr ⟨lw_p11, List.forall_mem_cons.mpr ⟨lw_p12, List.forall_mem_cons.mpr ⟨lw_p13, List.forall_mem_cons.mpr ⟨lw_p14, List.forall_mem_cons.mpr ⟨lw_p15, fun _ h => absurd h List.not_mem_nil⟩⟩⟩⟩⟩⟩⟩⟩⟩⟩⟩⟩⟩⟩⟩⟩
theorem lw_p16 : lw_okq (⟨"TenthBean$Reader", "findOther", "(I)I"⟩, 7) := ⟨⟨by decide +kernel, by decide +kernel⟩, List.mem_of_getElem? (i := 34) (by decide +kernel), List.mem_of_getElem? (i := 692) (by decide +kernel), List.mem_of_getElem? (i := 693) (by decide +kernel)⟩
theorem lw_p17 : lw_okq (⟨"TenthBean$Reader", "readHelmet", "()Z"⟩, 7) := ⟨⟨by decide +kernel, by decide +kernel⟩, List.mem_of_getElem? (i := 34) (by decide +kernel), List.mem_of_getElem? (i := 699) (by decide +kernel), List.mem_of_getElem? (i := 700) (by decide +kernel)⟩
theorem lw_p18 : lw_okq (⟨"TenthBean$Reader", "readDrew", "()Z"⟩, 7) := ⟨⟨by decide +kernel, by decide +kernel⟩, List.mem_of_getElem? (i := 34) (by decide +kernel), List.mem_of_getElem? (i := 707) (by decide +kernel), List.mem_of_getElem? (i := 708) (by decide +kernel)⟩
theorem lw_p19 : lw_okq (⟨"TenthBean$Reader", "readGone", "()Z"⟩, 7) := ⟨⟨by decide +kernel, by decide +kernel⟩, List.mem_of_getElem? (i := 34) (by decide +kernel), List.mem_of_getElem? (i := 724) (by decide +kernel), List.mem_of_getElem? (i := 725) (by decide +kernel)⟩
theorem lw_p20 : lw_okq (⟨"TenthBean$Reader", "readAmong", "()Z"⟩, 7) := ⟨⟨by decide +kernel, by decide +kernel⟩, List.mem_of_getElem? (i := 34) (by decide +kernel), List.mem_of_getElem? (i := 728) (by decide +kernel), List.mem_of_getElem? (i := 729) (by decide +kernel)⟩
theorem lw_p21 : lw_okq (⟨"TenthBean", "troubleOfMan", "(I)I"⟩, 13) := ⟨⟨by decide +kernel, by decide +kernel⟩, List.mem_of_getElem? (i := 26) (by decide +kernel), List.mem_of_getElem? (i := 760) (by decide +kernel), List.mem_of_getElem? (i := 761) (by decide +kernel)⟩
theorem lw_p22 : lw_okq (⟨"TenthBean", "troubleOfTen", "(I)I"⟩, 13) := ⟨⟨by decide +kernel, by decide +kernel⟩, List.mem_of_getElem? (i := 26) (by decide +kernel), List.mem_of_getElem? (i := 773) (by decide +kernel), List.mem_of_getElem? (i := 774) (by decide +kernel)⟩
theorem lw_p23 : lw_okq (⟨"TenthBean", "troubleOfLegion", "()I"⟩, 13) := ⟨⟨by decide +kernel, by decide +kernel⟩, List.mem_of_getElem? (i := 26) (by decide +kernel), List.mem_of_getElem? (i := 800) (by decide +kernel), List.mem_of_getElem? (i := 801) (by decide +kernel)⟩
theorem lw_p24 : lw_okq (⟨"TenthBean", "troubleOfStart", "(I)I"⟩, 13) := ⟨⟨by decide +kernel, by decide +kernel⟩, List.mem_of_getElem? (i := 26) (by decide +kernel), List.mem_of_getElem? (i := 825) (by decide +kernel), List.mem_of_getElem? (i := 826) (by decide +kernel)⟩
theorem lw_p25 : lw_okq (⟨"TenthBean", "troubleOfLot", "(I)I"⟩, 13) := ⟨⟨by decide +kernel, by decide +kernel⟩, List.mem_of_getElem? (i := 26) (by decide +kernel), List.mem_of_getElem? (i := 878) (by decide +kernel), List.mem_of_getElem? (i := 879) (by decide +kernel)⟩
theorem lw_p26 : lw_okq (⟨"TenthBean", "troubleOfPresent", "(I)I"⟩, 13) := ⟨⟨by decide +kernel, by decide +kernel⟩, List.mem_of_getElem? (i := 26) (by decide +kernel), List.mem_of_getElem? (i := 889) (by decide +kernel), List.mem_of_getElem? (i := 890) (by decide +kernel)⟩
theorem lw_p27 : lw_okq (⟨"TenthBean", "troubleOfLotFrom", "(II)I"⟩, 13) := ⟨⟨by decide +kernel, by decide +kernel⟩, List.mem_of_getElem? (i := 26) (by decide +kernel), List.mem_of_getElem? (i := 909) (by decide +kernel), List.mem_of_getElem? (i := 910) (by decide +kernel)⟩
theorem lw_p28 : lw_okq (⟨"TenthBean$Lots", "drawFrom", "(IIII)V"⟩, 11) := ⟨⟨by decide +kernel, by decide +kernel⟩, List.mem_of_getElem? (i := 356) (by decide +kernel), List.mem_of_getElem? (i := 955) (by decide +kernel), List.mem_of_getElem? (i := 956) (by decide +kernel)⟩
theorem lw_p29 : lw_okq (⟨"TenthBean$Lots", "countWay", "(LTenthBean$Now;I)V"⟩, 11) := ⟨⟨by decide +kernel, by decide +kernel⟩, List.mem_of_getElem? (i := 356) (by decide +kernel), List.mem_of_getElem? (i := 959) (by decide +kernel), List.mem_of_getElem? (i := 960) (by decide +kernel)⟩
theorem lw_p30 : lw_okq (⟨"TenthBean$Regroup", "assignFrom", "(LTenthBean$Now;II)V"⟩, 5) := ⟨⟨by decide +kernel, by decide +kernel⟩, List.mem_of_getElem? (i := 406) (by decide +kernel), List.mem_of_getElem? (i := 977) (by decide +kernel), List.mem_of_getElem? (i := 978) (by decide +kernel)⟩
theorem lw_p31 : lw_okq (⟨"TenthBean", "troubleOfHelmet", "()I"⟩, 13) := ⟨⟨by decide +kernel, by decide +kernel⟩, List.mem_of_getElem? (i := 26) (by decide +kernel), List.mem_of_getElem? (i := 999) (by decide +kernel), List.mem_of_getElem? (i := 1000) (by decide +kernel)⟩
def lw_privs_2 : List (MethodName × Nat) := [(⟨"TenthBean$Reader", "findOther", "(I)I"⟩, 7), (⟨"TenthBean$Reader", "readHelmet", "()Z"⟩, 7), (⟨"TenthBean$Reader", "readDrew", "()Z"⟩, 7), (⟨"TenthBean$Reader", "readGone", "()Z"⟩, 7), (⟨"TenthBean$Reader", "readAmong", "()Z"⟩, 7), (⟨"TenthBean", "troubleOfMan", "(I)I"⟩, 13), (⟨"TenthBean", "troubleOfTen", "(I)I"⟩, 13), (⟨"TenthBean", "troubleOfLegion", "()I"⟩, 13), (⟨"TenthBean", "troubleOfStart", "(I)I"⟩, 13), (⟨"TenthBean", "troubleOfLot", "(I)I"⟩, 13), (⟨"TenthBean", "troubleOfPresent", "(I)I"⟩, 13), (⟨"TenthBean", "troubleOfLotFrom", "(II)I"⟩, 13), (⟨"TenthBean$Lots", "drawFrom", "(IIII)V"⟩, 11), (⟨"TenthBean$Lots", "countWay", "(LTenthBean$Now;I)V"⟩, 11), (⟨"TenthBean$Regroup", "assignFrom", "(LTenthBean$Now;II)V"⟩, 5), (⟨"TenthBean", "troubleOfHelmet", "()I"⟩, 13)]
theorem lw_r2 : ∀ q ∈ lw_privs_2, lw_okq q := List.forall_mem_cons.mpr ⟨lw_p16, List.forall_mem_cons.mpr ⟨lw_p17, List.forall_mem_cons.mpr ⟨lw_p18, List.forall_mem_cons.mpr ⟨lw_p19, List.forall_mem_cons.mpr ⟨lw_p20, List.forall_mem_cons.mpr ⟨lw_p21, List.forall_mem_cons.mpr ⟨lw_p22, List.forall_mem_cons.mpr ⟨lw_p23, List.forall_mem_cons.mpr ⟨lw_p24, List.forall_mem_cons.mpr ⟨lw_p25, List.forall_mem_cons.mpr ⟨lw_p26, List.forall_mem_cons.mpr ⟨lw_p27, List.forall_mem_cons.mpr ⟨lw_p28, List.forall_mem_cons.mpr ⟨lw_p29, List.forall_mem_cons.mpr ⟨lw_p30, List.forall_mem_cons.mpr ⟨lw_p31, fun _ h => absurd h List.not_mem_nil⟩⟩⟩⟩⟩⟩⟩⟩⟩⟩⟩⟩⟩⟩⟩⟩
theorem lw_p32 : lw_okq (⟨"TenthBean$Helmet", "weightShaken", "()J"⟩, 13) := ⟨⟨by decide +kernel, by decide +kernel⟩, List.mem_of_getElem? (i := 46) (by decide +kernel), List.mem_of_getElem? (i := 1022) (by decide +kernel), List.mem_of_getElem? (i := 1023) (by decide +kernel)⟩
theorem lw_p33 : lw_okq (⟨"TenthBean$Helmet", "weightHonest", "()J"⟩, 13) := ⟨⟨by decide +kernel, by decide +kernel⟩, List.mem_of_getElem? (i := 46) (by decide +kernel), List.mem_of_getElem? (i := 1026) (by decide +kernel), List.mem_of_getElem? (i := 1027) (by decide +kernel)⟩
theorem lw_p34 : lw_okq (⟨"TenthBean", "troubleOfDrawer", "(I)I"⟩, 13) := ⟨⟨by decide +kernel, by decide +kernel⟩, List.mem_of_getElem? (i := 26) (by decide +kernel), List.mem_of_getElem? (i := 1034) (by decide +kernel), List.mem_of_getElem? (i := 1035) (by decide +kernel)⟩
theorem lw_p35 : lw_okq (⟨"TenthBean$Helmet", "eitherTo", "(LTenthBean$Odds;)V"⟩, 13) := ⟨⟨by decide +kernel, by decide +kernel⟩, List.mem_of_getElem? (i := 46) (by decide +kernel), List.mem_of_getElem? (i := 1044) (by decide +kernel), List.mem_of_getElem? (i := 1045) (by decide +kernel)⟩
theorem lw_p36 : lw_okq (⟨"TenthBean", "troubleOfGone", "()I"⟩, 13) := ⟨⟨by decide +kernel, by decide +kernel⟩, List.mem_of_getElem? (i := 26) (by decide +kernel), List.mem_of_getElem? (i := 1066) (by decide +kernel), List.mem_of_getElem? (i := 1067) (by decide +kernel)⟩
theorem lw_p37 : lw_okq (⟨"TenthBean$Earlier", "fits", "(I)Z"⟩, 7) := ⟨⟨by decide +kernel, by decide +kernel⟩, List.mem_of_getElem? (i := 118) (by decide +kernel), List.mem_of_getElem? (i := 1075) (by decide +kernel), List.mem_of_getElem? (i := 1076) (by decide +kernel)⟩
theorem lw_p38 : lw_okq (⟨"TenthBean$Earlier", "countMen", "(I)V"⟩, 7) := ⟨⟨by decide +kernel, by decide +kernel⟩, List.mem_of_getElem? (i := 118) (by decide +kernel), List.mem_of_getElem? (i := 1080) (by decide +kernel), List.mem_of_getElem? (i := 1081) (by decide +kernel)⟩
theorem lw_p39 : lw_okq (⟨"TenthBean", "troubleOfDread", "(I)I"⟩, 13) := ⟨⟨by decide +kernel, by decide +kernel⟩, List.mem_of_getElem? (i := 26) (by decide +kernel), List.mem_of_getElem? (i := 1122) (by decide +kernel), List.mem_of_getElem? (i := 1123) (by decide +kernel)⟩
theorem lw_p40 : lw_okq (⟨"TenthBean$Campaign", "drawWar", "(I)I"⟩, 3) := ⟨⟨by decide +kernel, by decide +kernel⟩, List.mem_of_getElem? (i := 430) (by decide +kernel), List.mem_of_getElem? (i := 1157) (by decide +kernel), List.mem_of_getElem? (i := 1158) (by decide +kernel)⟩
theorem lw_p41 : lw_okq (⟨"TenthBean$Campaign", "note", "(II)V"⟩, 3) := ⟨⟨by decide +kernel, by decide +kernel⟩, List.mem_of_getElem? (i := 430) (by decide +kernel), List.mem_of_getElem? (i := 1173) (by decide +kernel), List.mem_of_getElem? (i := 1174) (by decide +kernel)⟩
theorem lw_p42 : lw_okq (⟨"java/lang/Throwable", "fillInStackTrace", "(I)Ljava/lang/Throwable;"⟩, 6) := ⟨⟨by decide +kernel, by decide +kernel⟩, List.mem_of_getElem? (i := 1290) (by decide +kernel), List.mem_of_getElem? (i := 1288) (by decide +kernel), List.mem_of_getElem? (i := 1289) (by decide +kernel)⟩
theorem lw_p43 : lw_okq (⟨"TenthBeanModel", "good", "()V"⟩, 54) := ⟨⟨by decide +kernel, by decide +kernel⟩, List.mem_of_getElem? (i := 1319) (by decide +kernel), List.mem_of_getElem? (i := 1500) (by decide +kernel), List.mem_of_getElem? (i := 1501) (by decide +kernel)⟩
theorem lw_p44 : lw_okq (⟨"TenthBeanModel", "no", "(I)I"⟩, 54) := ⟨⟨by decide +kernel, by decide +kernel⟩, List.mem_of_getElem? (i := 1319) (by decide +kernel), List.mem_of_getElem? (i := 1507) (by decide +kernel), List.mem_of_getElem? (i := 1508) (by decide +kernel)⟩
theorem lw_p45 : lw_okq (⟨"TenthBeanModel", "goOn", "()V"⟩, 54) := ⟨⟨by decide +kernel, by decide +kernel⟩, List.mem_of_getElem? (i := 1319) (by decide +kernel), List.mem_of_getElem? (i := 1511) (by decide +kernel), List.mem_of_getElem? (i := 1512) (by decide +kernel)⟩
theorem lw_p46 : lw_okq (⟨"TenthBeanModel", "look", "(I)I"⟩, 54) := ⟨⟨by decide +kernel, by decide +kernel⟩, List.mem_of_getElem? (i := 1319) (by decide +kernel), List.mem_of_getElem? (i := 1515) (by decide +kernel), List.mem_of_getElem? (i := 1516) (by decide +kernel)⟩
theorem lw_p47 : lw_okq (⟨"TenthBeanModel", "readLine", "()V"⟩, 54) := ⟨⟨by decide +kernel, by decide +kernel⟩, List.mem_of_getElem? (i := 1319) (by decide +kernel), List.mem_of_getElem? (i := 1525) (by decide +kernel), List.mem_of_getElem? (i := 1526) (by decide +kernel)⟩
def lw_privs_3 : List (MethodName × Nat) := [(⟨"TenthBean$Helmet", "weightShaken", "()J"⟩, 13), (⟨"TenthBean$Helmet", "weightHonest", "()J"⟩, 13), (⟨"TenthBean", "troubleOfDrawer", "(I)I"⟩, 13), (⟨"TenthBean$Helmet", "eitherTo", "(LTenthBean$Odds;)V"⟩, 13), (⟨"TenthBean", "troubleOfGone", "()I"⟩, 13), (⟨"TenthBean$Earlier", "fits", "(I)Z"⟩, 7), (⟨"TenthBean$Earlier", "countMen", "(I)V"⟩, 7), (⟨"TenthBean", "troubleOfDread", "(I)I"⟩, 13), (⟨"TenthBean$Campaign", "drawWar", "(I)I"⟩, 3), (⟨"TenthBean$Campaign", "note", "(II)V"⟩, 3), (⟨"java/lang/Throwable", "fillInStackTrace", "(I)Ljava/lang/Throwable;"⟩, 6), (⟨"TenthBeanModel", "good", "()V"⟩, 54), (⟨"TenthBeanModel", "no", "(I)I"⟩, 54), (⟨"TenthBeanModel", "goOn", "()V"⟩, 54), (⟨"TenthBeanModel", "look", "(I)I"⟩, 54), (⟨"TenthBeanModel", "readLine", "()V"⟩, 54)]
theorem lw_r3 : ∀ q ∈ lw_privs_3, lw_okq q := List.forall_mem_cons.mpr ⟨lw_p32, List.forall_mem_cons.mpr ⟨lw_p33, List.forall_mem_cons.mpr ⟨lw_p34, List.forall_mem_cons.mpr ⟨lw_p35, List.forall_mem_cons.mpr ⟨lw_p36, List.forall_mem_cons.mpr ⟨lw_p37, List.forall_mem_cons.mpr ⟨lw_p38, List.forall_mem_cons.mpr ⟨lw_p39, List.forall_mem_cons.mpr ⟨lw_p40, List.forall_mem_cons.mpr ⟨lw_p41, List.forall_mem_cons.mpr ⟨lw_p42, List.forall_mem_cons.mpr ⟨lw_p43, List.forall_mem_cons.mpr ⟨lw_p44, List.forall_mem_cons.mpr ⟨lw_p45, List.forall_mem_cons.mpr ⟨lw_p46, List.forall_mem_cons.mpr ⟨lw_p47, fun _ h => absurd h List.not_mem_nil⟩⟩⟩⟩⟩⟩⟩⟩⟩⟩⟩⟩⟩⟩⟩⟩
theorem lw_p48 : lw_okq (⟨"TenthBeanModel", "isWord", "(Ljava/lang/String;)Z"⟩, 54) := ⟨⟨by decide +kernel, by decide +kernel⟩, List.mem_of_getElem? (i := 1319) (by decide +kernel), List.mem_of_getElem? (i := 1530) (by decide +kernel), List.mem_of_getElem? (i := 1531) (by decide +kernel)⟩
theorem lw_p49 : lw_okq (⟨"TenthBeanModel", "legionLine", "()V"⟩, 54) := ⟨⟨by decide +kernel, by decide +kernel⟩, List.mem_of_getElem? (i := 1319) (by decide +kernel), List.mem_of_getElem? (i := 1536) (by decide +kernel), List.mem_of_getElem? (i := 1537) (by decide +kernel)⟩
theorem lw_p50 : lw_okq (⟨"TenthBeanModel", "bad", "(II)V"⟩, 54) := ⟨⟨by decide +kernel, by decide +kernel⟩, List.mem_of_getElem? (i := 1319) (by decide +kernel), List.mem_of_getElem? (i := 1540) (by decide +kernel), List.mem_of_getElem? (i := 1541) (by decide +kernel)⟩
theorem lw_p51 : lw_okq (⟨"TenthBeanModel", "after", "(Ljava/lang/String;II)I"⟩, 54) := ⟨⟨by decide +kernel, by decide +kernel⟩, List.mem_of_getElem? (i := 1319) (by decide +kernel), List.mem_of_getElem? (i := 1545) (by decide +kernel), List.mem_of_getElem? (i := 1546) (by decide +kernel)⟩
theorem lw_p52 : lw_okq (⟨"TenthBeanModel", "must", "(Ljava/lang/String;)V"⟩, 54) := ⟨⟨by decide +kernel, by decide +kernel⟩, List.mem_of_getElem? (i := 1319) (by decide +kernel), List.mem_of_getElem? (i := 1549) (by decide +kernel), List.mem_of_getElem? (i := 1550) (by decide +kernel)⟩
theorem lw_p53 : lw_okq (⟨"TenthBeanModel", "takesWord", "(Ljava/lang/String;)Z"⟩, 54) := ⟨⟨by decide +kernel, by decide +kernel⟩, List.mem_of_getElem? (i := 1319) (by decide +kernel), List.mem_of_getElem? (i := 1553) (by decide +kernel), List.mem_of_getElem? (i := 1554) (by decide +kernel)⟩
theorem lw_p54 : lw_okq (⟨"TenthBeanModel", "number", "(II)I"⟩, 54) := ⟨⟨by decide +kernel, by decide +kernel⟩, List.mem_of_getElem? (i := 1319) (by decide +kernel), List.mem_of_getElem? (i := 1557) (by decide +kernel), List.mem_of_getElem? (i := 1558) (by decide +kernel)⟩
theorem lw_p55 : lw_okq (⟨"TenthBeanModel", "begins", "(Ljava/lang/String;Z)Z"⟩, 54) := ⟨⟨by decide +kernel, by decide +kernel⟩, List.mem_of_getElem? (i := 1319) (by decide +kernel), List.mem_of_getElem? (i := 1565) (by decide +kernel), List.mem_of_getElem? (i := 1566) (by decide +kernel)⟩
theorem lw_p56 : lw_okq (⟨"TenthBeanModel", "tenLine", "()V"⟩, 54) := ⟨⟨by decide +kernel, by decide +kernel⟩, List.mem_of_getElem? (i := 1319) (by decide +kernel), List.mem_of_getElem? (i := 1569) (by decide +kernel), List.mem_of_getElem? (i := 1570) (by decide +kernel)⟩
theorem lw_p57 : lw_okq (⟨"TenthBeanModel", "newName", "(I)V"⟩, 54) := ⟨⟨by decide +kernel, by decide +kernel⟩, List.mem_of_getElem? (i := 1319) (by decide +kernel), List.mem_of_getElem? (i := 1573) (by decide +kernel), List.mem_of_getElem? (i := 1574) (by decide +kernel)⟩
theorem lw_p58 : lw_okq (⟨"TenthBeanModel", "mustName", "()V"⟩, 54) := ⟨⟨by decide +kernel, by decide +kernel⟩, List.mem_of_getElem? (i := 1319) (by decide +kernel), List.mem_of_getElem? (i := 1577) (by decide +kernel), List.mem_of_getElem? (i := 1578) (by decide +kernel)⟩
theorem lw_p59 : lw_okq (⟨"TenthBeanModel", "find", "()I"⟩, 54) := ⟨⟨by decide +kernel, by decide +kernel⟩, List.mem_of_getElem? (i := 1319) (by decide +kernel), List.mem_of_getElem? (i := 1587) (by decide +kernel), List.mem_of_getElem? (i := 1588) (by decide +kernel)⟩
theorem lw_p60 : lw_okq (⟨"TenthBeanModel", "manLine", "()V"⟩, 54) := ⟨⟨by decide +kernel, by decide +kernel⟩, List.mem_of_getElem? (i := 1319) (by decide +kernel), List.mem_of_getElem? (i := 1591) (by decide +kernel), List.mem_of_getElem? (i := 1592) (by decide +kernel)⟩
theorem lw_p61 : lw_okq (⟨"TenthBeanModel", "named", "(II)I"⟩, 54) := ⟨⟨by decide +kernel, by decide +kernel⟩, List.mem_of_getElem? (i := 1319) (by decide +kernel), List.mem_of_getElem? (i := 1600) (by decide +kernel), List.mem_of_getElem? (i := 1601) (by decide +kernel)⟩
theorem lw_p62 : lw_okq (⟨"TenthBeanModel", "friendLine", "()V"⟩, 54) := ⟨⟨by decide +kernel, by decide +kernel⟩, List.mem_of_getElem? (i := 1319) (by decide +kernel), List.mem_of_getElem? (i := 1605) (by decide +kernel), List.mem_of_getElem? (i := 1606) (by decide +kernel)⟩
theorem lw_p63 : lw_okq (⟨"TenthBeanModel", "manPassed", "()I"⟩, 54) := ⟨⟨by decide +kernel, by decide +kernel⟩, List.mem_of_getElem? (i := 1319) (by decide +kernel), List.mem_of_getElem? (i := 1609) (by decide +kernel), List.mem_of_getElem? (i := 1610) (by decide +kernel)⟩
def lw_privs_4 : List (MethodName × Nat) := [(⟨"TenthBeanModel", "isWord", "(Ljava/lang/String;)Z"⟩, 54), (⟨"TenthBeanModel", "legionLine", "()V"⟩, 54), (⟨"TenthBeanModel", "bad", "(II)V"⟩, 54), (⟨"TenthBeanModel", "after", "(Ljava/lang/String;II)I"⟩, 54), (⟨"TenthBeanModel", "must", "(Ljava/lang/String;)V"⟩, 54), (⟨"TenthBeanModel", "takesWord", "(Ljava/lang/String;)Z"⟩, 54), (⟨"TenthBeanModel", "number", "(II)I"⟩, 54), (⟨"TenthBeanModel", "begins", "(Ljava/lang/String;Z)Z"⟩, 54), (⟨"TenthBeanModel", "tenLine", "()V"⟩, 54), (⟨"TenthBeanModel", "newName", "(I)V"⟩, 54), (⟨"TenthBeanModel", "mustName", "()V"⟩, 54), (⟨"TenthBeanModel", "find", "()I"⟩, 54), (⟨"TenthBeanModel", "manLine", "()V"⟩, 54), (⟨"TenthBeanModel", "named", "(II)I"⟩, 54), (⟨"TenthBeanModel", "friendLine", "()V"⟩, 54), (⟨"TenthBeanModel", "manPassed", "()I"⟩, 54)]
theorem lw_r4 : ∀ q ∈ lw_privs_4, lw_okq q := List.forall_mem_cons.mpr ⟨lw_p48, List.forall_mem_cons.mpr ⟨lw_p49, List.forall_mem_cons.mpr ⟨lw_p50, List.forall_mem_cons.mpr ⟨lw_p51, List.forall_mem_cons.mpr ⟨lw_p52, List.forall_mem_cons.mpr ⟨lw_p53, List.forall_mem_cons.mpr ⟨lw_p54, List.forall_mem_cons.mpr ⟨lw_p55, List.forall_mem_cons.mpr ⟨lw_p56, List.forall_mem_cons.mpr ⟨lw_p57, List.forall_mem_cons.mpr ⟨lw_p58, List.forall_mem_cons.mpr ⟨lw_p59, List.forall_mem_cons.mpr ⟨lw_p60, List.forall_mem_cons.mpr ⟨lw_p61, List.forall_mem_cons.mpr ⟨lw_p62, List.forall_mem_cons.mpr ⟨lw_p63, fun _ h => absurd h List.not_mem_nil⟩⟩⟩⟩⟩⟩⟩⟩⟩⟩⟩⟩⟩⟩⟩⟩
theorem lw_p64 : lw_okq (⟨"TenthBeanModel", "manHere", "()I"⟩, 54) := ⟨⟨by decide +kernel, by decide +kernel⟩, List.mem_of_getElem? (i := 1319) (by decide +kernel), List.mem_of_getElem? (i := 1613) (by decide +kernel), List.mem_of_getElem? (i := 1614) (by decide +kernel)⟩
theorem lw_p65 : lw_okq (⟨"TenthBeanModel", "helmetLine", "()V"⟩, 54) := ⟨⟨by decide +kernel, by decide +kernel⟩, List.mem_of_getElem? (i := 1319) (by decide +kernel), List.mem_of_getElem? (i := 1620) (by decide +kernel), List.mem_of_getElem? (i := 1621) (by decide +kernel)⟩
theorem lw_p66 : lw_okq (⟨"TenthBeanModel", "drewLine", "()V"⟩, 54) := ⟨⟨by decide +kernel, by decide +kernel⟩, List.mem_of_getElem? (i := 1319) (by decide +kernel), List.mem_of_getElem? (i := 1628) (by decide +kernel), List.mem_of_getElem? (i := 1629) (by decide +kernel)⟩
theorem lw_p67 : lw_okq (⟨"TenthBeanModel", "drewBy", "([II)I"⟩, 54) := ⟨⟨by decide +kernel, by decide +kernel⟩, List.mem_of_getElem? (i := 1319) (by decide +kernel), List.mem_of_getElem? (i := 1632) (by decide +kernel), List.mem_of_getElem? (i := 1633) (by decide +kernel)⟩
theorem lw_p68 : lw_okq (⟨"TenthBeanModel", "goneLine", "()V"⟩, 54) := ⟨⟨by decide +kernel, by decide +kernel⟩, List.mem_of_getElem? (i := 1319) (by decide +kernel), List.mem_of_getElem? (i := 1637) (by decide +kernel), List.mem_of_getElem? (i := 1638) (by decide +kernel)⟩
theorem lw_p69 : lw_okq (⟨"TenthBeanModel", "amongLine", "()V"⟩, 54) := ⟨⟨by decide +kernel, by decide +kernel⟩, List.mem_of_getElem? (i := 1319) (by decide +kernel), List.mem_of_getElem? (i := 1641) (by decide +kernel), List.mem_of_getElem? (i := 1642) (by decide +kernel)⟩
theorem lw_p70 : lw_okq (⟨"TenthBeanModel", "allMen", "()I"⟩, 54) := ⟨⟨by decide +kernel, by decide +kernel⟩, List.mem_of_getElem? (i := 1319) (by decide +kernel), List.mem_of_getElem? (i := 1648) (by decide +kernel), List.mem_of_getElem? (i := 1649) (by decide +kernel)⟩
theorem lw_p71 : lw_okq (⟨"TenthBeanModel", "isMan", "(I)Z"⟩, 54) := ⟨⟨by decide +kernel, by decide +kernel⟩, List.mem_of_getElem? (i := 1319) (by decide +kernel), List.mem_of_getElem? (i := 1664) (by decide +kernel), List.mem_of_getElem? (i := 1665) (by decide +kernel)⟩
theorem lw_p72 : lw_okq (⟨"TenthBeanModel", "asItIs", "()V"⟩, 54) := ⟨⟨by decide +kernel, by decide +kernel⟩, List.mem_of_getElem? (i := 1319) (by decide +kernel), List.mem_of_getElem? (i := 1668) (by decide +kernel), List.mem_of_getElem? (i := 1669) (by decide +kernel)⟩
theorem lw_p73 : lw_okq (⟨"TenthBeanModel", "kindOf", "(I)I"⟩, 54) := ⟨⟨by decide +kernel, by decide +kernel⟩, List.mem_of_getElem? (i := 1319) (by decide +kernel), List.mem_of_getElem? (i := 1672) (by decide +kernel), List.mem_of_getElem? (i := 1673) (by decide +kernel)⟩
theorem lw_p74 : lw_okq (⟨"TenthBeanModel", "nerveOf", "([III)I"⟩, 54) := ⟨⟨by decide +kernel, by decide +kernel⟩, List.mem_of_getElem? (i := 1319) (by decide +kernel), List.mem_of_getElem? (i := 1676) (by decide +kernel), List.mem_of_getElem? (i := 1677) (by decide +kernel)⟩
theorem lw_p75 : lw_okq (⟨"TenthBeanModel", "isTen", "(I)Z"⟩, 54) := ⟨⟨by decide +kernel, by decide +kernel⟩, List.mem_of_getElem? (i := 1319) (by decide +kernel), List.mem_of_getElem? (i := 1684) (by decide +kernel), List.mem_of_getElem? (i := 1685) (by decide +kernel)⟩
theorem lw_p76 : lw_okq (⟨"TenthBeanModel", "inTen", "([III)I"⟩, 54) := ⟨⟨by decide +kernel, by decide +kernel⟩, List.mem_of_getElem? (i := 1319) (by decide +kernel), List.mem_of_getElem? (i := 1688) (by decide +kernel), List.mem_of_getElem? (i := 1689) (by decide +kernel)⟩
theorem lw_p77 : lw_okq (⟨"TenthBeanModel", "beansOf", "([III)I"⟩, 54) := ⟨⟨by decide +kernel, by decide +kernel⟩, List.mem_of_getElem? (i := 1319) (by decide +kernel), List.mem_of_getElem? (i := 1692) (by decide +kernel), List.mem_of_getElem? (i := 1693) (by decide +kernel)⟩
theorem lw_p78 : lw_okq (⟨"TenthBeanModel", "angerOf", "([II)I"⟩, 54) := ⟨⟨by decide +kernel, by decide +kernel⟩, List.mem_of_getElem? (i := 1319) (by decide +kernel), List.mem_of_getElem? (i := 1707) (by decide +kernel), List.mem_of_getElem? (i := 1708) (by decide +kernel)⟩
theorem lw_p79 : lw_okq (⟨"TenthBeanModel", "isMutiny", "([II)Z"⟩, 54) := ⟨⟨by decide +kernel, by decide +kernel⟩, List.mem_of_getElem? (i := 1319) (by decide +kernel), List.mem_of_getElem? (i := 1715) (by decide +kernel), List.mem_of_getElem? (i := 1716) (by decide +kernel)⟩
def lw_privs_5 : List (MethodName × Nat) := [(⟨"TenthBeanModel", "manHere", "()I"⟩, 54), (⟨"TenthBeanModel", "helmetLine", "()V"⟩, 54), (⟨"TenthBeanModel", "drewLine", "()V"⟩, 54), (⟨"TenthBeanModel", "drewBy", "([II)I"⟩, 54), (⟨"TenthBeanModel", "goneLine", "()V"⟩, 54), (⟨"TenthBeanModel", "amongLine", "()V"⟩, 54), (⟨"TenthBeanModel", "allMen", "()I"⟩, 54), (⟨"TenthBeanModel", "isMan", "(I)Z"⟩, 54), (⟨"TenthBeanModel", "asItIs", "()V"⟩, 54), (⟨"TenthBeanModel", "kindOf", "(I)I"⟩, 54), (⟨"TenthBeanModel", "nerveOf", "([III)I"⟩, 54), (⟨"TenthBeanModel", "isTen", "(I)Z"⟩, 54), (⟨"TenthBeanModel", "inTen", "([III)I"⟩, 54), (⟨"TenthBeanModel", "beansOf", "([III)I"⟩, 54), (⟨"TenthBeanModel", "angerOf", "([II)I"⟩, 54), (⟨"TenthBeanModel", "isMutiny", "([II)Z"⟩, 54)]
theorem lw_r5 : ∀ q ∈ lw_privs_5, lw_okq q := List.forall_mem_cons.mpr ⟨lw_p64, List.forall_mem_cons.mpr ⟨lw_p65, List.forall_mem_cons.mpr ⟨lw_p66, List.forall_mem_cons.mpr ⟨lw_p67, List.forall_mem_cons.mpr ⟨lw_p68, List.forall_mem_cons.mpr ⟨lw_p69, List.forall_mem_cons.mpr ⟨lw_p70, List.forall_mem_cons.mpr ⟨lw_p71, List.forall_mem_cons.mpr ⟨lw_p72, List.forall_mem_cons.mpr ⟨lw_p73, List.forall_mem_cons.mpr ⟨lw_p74, List.forall_mem_cons.mpr ⟨lw_p75, List.forall_mem_cons.mpr ⟨lw_p76, List.forall_mem_cons.mpr ⟨lw_p77, List.forall_mem_cons.mpr ⟨lw_p78, List.forall_mem_cons.mpr ⟨lw_p79, fun _ h => absurd h List.not_mem_nil⟩⟩⟩⟩⟩⟩⟩⟩⟩⟩⟩⟩⟩⟩⟩⟩
theorem lw_p80 : lw_okq (⟨"TenthBeanModel", "startWhy", "(I)I"⟩, 54) := ⟨⟨by decide +kernel, by decide +kernel⟩, List.mem_of_getElem? (i := 1319) (by decide +kernel), List.mem_of_getElem? (i := 1723) (by decide +kernel), List.mem_of_getElem? (i := 1724) (by decide +kernel)⟩
theorem lw_p81 : lw_okq (⟨"TenthBeanModel", "runOf", "([III)I"⟩, 54) := ⟨⟨by decide +kernel, by decide +kernel⟩, List.mem_of_getElem? (i := 1319) (by decide +kernel), List.mem_of_getElem? (i := 1727) (by decide +kernel), List.mem_of_getElem? (i := 1728) (by decide +kernel)⟩
theorem lw_p82 : lw_okq (⟨"TenthBeanModel", "weightOf", "(I)I"⟩, 54) := ⟨⟨by decide +kernel, by decide +kernel⟩, List.mem_of_getElem? (i := 1319) (by decide +kernel), List.mem_of_getElem? (i := 1731) (by decide +kernel), List.mem_of_getElem? (i := 1732) (by decide +kernel)⟩
theorem lw_p83 : lw_okq (⟨"TenthBeanModel", "doesHold", "([III)Z"⟩, 54) := ⟨⟨by decide +kernel, by decide +kernel⟩, List.mem_of_getElem? (i := 1319) (by decide +kernel), List.mem_of_getElem? (i := 1739) (by decide +kernel), List.mem_of_getElem? (i := 1740) (by decide +kernel)⟩
theorem lw_p84 : lw_okq (⟨"TenthBeanModel", "tenWhy", "(I)I"⟩, 54) := ⟨⟨by decide +kernel, by decide +kernel⟩, List.mem_of_getElem? (i := 1319) (by decide +kernel), List.mem_of_getElem? (i := 1767) (by decide +kernel), List.mem_of_getElem? (i := 1768) (by decide +kernel)⟩
theorem lw_p85 : lw_okq (⟨"TenthBeanModel", "tryOne", "(II)V"⟩, 54) := ⟨⟨by decide +kernel, by decide +kernel⟩, List.mem_of_getElem? (i := 1319) (by decide +kernel), List.mem_of_getElem? (i := 1771) (by decide +kernel), List.mem_of_getElem? (i := 1772) (by decide +kernel)⟩
theorem lw_p86 : lw_okq (⟨"TenthBeanModel", "begin", "(I)V"⟩, 54) := ⟨⟨by decide +kernel, by decide +kernel⟩, List.mem_of_getElem? (i := 1319) (by decide +kernel), List.mem_of_getElem? (i := 1775) (by decide +kernel), List.mem_of_getElem? (i := 1776) (by decide +kernel)⟩
theorem lw_p87 : lw_okq (⟨"TenthBeanModel", "draws", "([IIII)V"⟩, 54) := ⟨⟨by decide +kernel, by decide +kernel⟩, List.mem_of_getElem? (i := 1319) (by decide +kernel), List.mem_of_getElem? (i := 1779) (by decide +kernel), List.mem_of_getElem? (i := 1780) (by decide +kernel)⟩
theorem lw_p88 : lw_okq (⟨"TenthBeanModel", "countsAt", "(II)V"⟩, 54) := ⟨⟨by decide +kernel, by decide +kernel⟩, List.mem_of_getElem? (i := 1319) (by decide +kernel), List.mem_of_getElem? (i := 1783) (by decide +kernel), List.mem_of_getElem? (i := 1784) (by decide +kernel)⟩
theorem lw_p89 : lw_okq (⟨"TenthBeanModel", "lotWhy", "(II)I"⟩, 54) := ⟨⟨by decide +kernel, by decide +kernel⟩, List.mem_of_getElem? (i := 1319) (by decide +kernel), List.mem_of_getElem? (i := 1798) (by decide +kernel), List.mem_of_getElem? (i := 1799) (by decide +kernel)⟩
theorem lw_p90 : lw_okq (⟨"TenthBeanModel", "orderOf", "(I)I"⟩, 54) := ⟨⟨by decide +kernel, by decide +kernel⟩, List.mem_of_getElem? (i := 1319) (by decide +kernel), List.mem_of_getElem? (i := 1818) (by decide +kernel), List.mem_of_getElem? (i := 1819) (by decide +kernel)⟩
theorem lw_p91 : lw_okq (⟨"TenthBeanModel", "tryLots", "(III)V"⟩, 54) := ⟨⟨by decide +kernel, by decide +kernel⟩, List.mem_of_getElem? (i := 1319) (by decide +kernel), List.mem_of_getElem? (i := 1822) (by decide +kernel), List.mem_of_getElem? (i := 1823) (by decide +kernel)⟩
theorem lw_p92 : lw_okq (⟨"TenthBeanModel", "seekTens", "()I"⟩, 54) := ⟨⟨by decide +kernel, by decide +kernel⟩, List.mem_of_getElem? (i := 1319) (by decide +kernel), List.mem_of_getElem? (i := 1834) (by decide +kernel), List.mem_of_getElem? (i := 1835) (by decide +kernel)⟩
theorem lw_p93 : lw_okq (⟨"TenthBeanModel", "tryTens", "(II)V"⟩, 54) := ⟨⟨by decide +kernel, by decide +kernel⟩, List.mem_of_getElem? (i := 1319) (by decide +kernel), List.mem_of_getElem? (i := 1839) (by decide +kernel), List.mem_of_getElem? (i := 1840) (by decide +kernel)⟩
theorem lw_p94 : lw_okq (⟨"TenthBeanModel", "helmetWhy", "(IZ)I"⟩, 54) := ⟨⟨by decide +kernel, by decide +kernel⟩, List.mem_of_getElem? (i := 1319) (by decide +kernel), List.mem_of_getElem? (i := 1855) (by decide +kernel), List.mem_of_getElem? (i := 1856) (by decide +kernel)⟩
theorem lw_p95 : lw_okq (⟨"TenthBeanModel", "layHelmet", "(II)V"⟩, 54) := ⟨⟨by decide +kernel, by decide +kernel⟩, List.mem_of_getElem? (i := 1319) (by decide +kernel), List.mem_of_getElem? (i := 1859) (by decide +kernel), List.mem_of_getElem? (i := 1860) (by decide +kernel)⟩
def lw_privs_6 : List (MethodName × Nat) := [(⟨"TenthBeanModel", "startWhy", "(I)I"⟩, 54), (⟨"TenthBeanModel", "runOf", "([III)I"⟩, 54), (⟨"TenthBeanModel", "weightOf", "(I)I"⟩, 54), (⟨"TenthBeanModel", "doesHold", "([III)Z"⟩, 54), (⟨"TenthBeanModel", "tenWhy", "(I)I"⟩, 54), (⟨"TenthBeanModel", "tryOne", "(II)V"⟩, 54), (⟨"TenthBeanModel", "begin", "(I)V"⟩, 54), (⟨"TenthBeanModel", "draws", "([IIII)V"⟩, 54), (⟨"TenthBeanModel", "countsAt", "(II)V"⟩, 54), (⟨"TenthBeanModel", "lotWhy", "(II)I"⟩, 54), (⟨"TenthBeanModel", "orderOf", "(I)I"⟩, 54), (⟨"TenthBeanModel", "tryLots", "(III)V"⟩, 54), (⟨"TenthBeanModel", "seekTens", "()I"⟩, 54), (⟨"TenthBeanModel", "tryTens", "(II)V"⟩, 54), (⟨"TenthBeanModel", "helmetWhy", "(IZ)I"⟩, 54), (⟨"TenthBeanModel", "layHelmet", "(II)V"⟩, 54)]
theorem lw_r6 : ∀ q ∈ lw_privs_6, lw_okq q := List.forall_mem_cons.mpr ⟨lw_p80, List.forall_mem_cons.mpr ⟨lw_p81, List.forall_mem_cons.mpr ⟨lw_p82, List.forall_mem_cons.mpr ⟨lw_p83, List.forall_mem_cons.mpr ⟨lw_p84, List.forall_mem_cons.mpr ⟨lw_p85, List.forall_mem_cons.mpr ⟨lw_p86, List.forall_mem_cons.mpr ⟨lw_p87, List.forall_mem_cons.mpr ⟨lw_p88, List.forall_mem_cons.mpr ⟨lw_p89, List.forall_mem_cons.mpr ⟨lw_p90, List.forall_mem_cons.mpr ⟨lw_p91, List.forall_mem_cons.mpr ⟨lw_p92, List.forall_mem_cons.mpr ⟨lw_p93, List.forall_mem_cons.mpr ⟨lw_p94, List.forall_mem_cons.mpr ⟨lw_p95, fun _ h => absurd h List.not_mem_nil⟩⟩⟩⟩⟩⟩⟩⟩⟩⟩⟩⟩⟩⟩⟩⟩
theorem lw_p96 : lw_okq (⟨"TenthBeanModel", "drawsBean", "(II)V"⟩, 54) := ⟨⟨by decide +kernel, by decide +kernel⟩, List.mem_of_getElem? (i := 1319) (by decide +kernel), List.mem_of_getElem? (i := 1863) (by decide +kernel), List.mem_of_getElem? (i := 1864) (by decide +kernel)⟩
theorem lw_p97 : lw_okq (⟨"TenthBeanModel", "doubtOf", "(Z)J"⟩, 54) := ⟨⟨by decide +kernel, by decide +kernel⟩, List.mem_of_getElem? (i := 1319) (by decide +kernel), List.mem_of_getElem? (i := 1867) (by decide +kernel), List.mem_of_getElem? (i := 1868) (by decide +kernel)⟩
theorem lw_p98 : lw_okq (⟨"TenthBeanModel", "shakenPart", "()J"⟩, 54) := ⟨⟨by decide +kernel, by decide +kernel⟩, List.mem_of_getElem? (i := 1319) (by decide +kernel), List.mem_of_getElem? (i := 1871) (by decide +kernel), List.mem_of_getElem? (i := 1872) (by decide +kernel)⟩
theorem lw_p99 : lw_okq (⟨"TenthBeanModel", "honestPart", "()J"⟩, 54) := ⟨⟨by decide +kernel, by decide +kernel⟩, List.mem_of_getElem? (i := 1319) (by decide +kernel), List.mem_of_getElem? (i := 1875) (by decide +kernel), List.mem_of_getElem? (i := 1876) (by decide +kernel)⟩
theorem lw_p100 : lw_okq (⟨"TenthBeanModel", "goneWhy", "()I"⟩, 54) := ⟨⟨by decide +kernel, by decide +kernel⟩, List.mem_of_getElem? (i := 1319) (by decide +kernel), List.mem_of_getElem? (i := 1895) (by decide +kernel), List.mem_of_getElem? (i := 1896) (by decide +kernel)⟩
theorem lw_p101 : lw_okq (⟨"TenthBeanModel", "fitting", "(I)I"⟩, 54) := ⟨⟨by decide +kernel, by decide +kernel⟩, List.mem_of_getElem? (i := 1319) (by decide +kernel), List.mem_of_getElem? (i := 1899) (by decide +kernel), List.mem_of_getElem? (i := 1900) (by decide +kernel)⟩
theorem lw_p102 : lw_okq (⟨"TenthBeanModel", "doesFit", "(I)Z"⟩, 54) := ⟨⟨by decide +kernel, by decide +kernel⟩, List.mem_of_getElem? (i := 1319) (by decide +kernel), List.mem_of_getElem? (i := 1903) (by decide +kernel), List.mem_of_getElem? (i := 1904) (by decide +kernel)⟩
theorem lw_p103 : lw_okq (⟨"TenthBeanModel", "askOf", "()I"⟩, 54) := ⟨⟨by decide +kernel, by decide +kernel⟩, List.mem_of_getElem? (i := 1319) (by decide +kernel), List.mem_of_getElem? (i := 1923) (by decide +kernel), List.mem_of_getElem? (i := 1924) (by decide +kernel)⟩
theorem lw_p104 : lw_okq (⟨"TenthBeanModel", "leavesOf", "(I)I"⟩, 54) := ⟨⟨by decide +kernel, by decide +kernel⟩, List.mem_of_getElem? (i := 1319) (by decide +kernel), List.mem_of_getElem? (i := 1927) (by decide +kernel), List.mem_of_getElem? (i := 1928) (by decide +kernel)⟩
theorem lw_p105 : lw_okq (⟨"TenthBeanModel", "dreadWhy", "(I)I"⟩, 54) := ⟨⟨by decide +kernel, by decide +kernel⟩, List.mem_of_getElem? (i := 1319) (by decide +kernel), List.mem_of_getElem? (i := 1939) (by decide +kernel), List.mem_of_getElem? (i := 1940) (by decide +kernel)⟩
theorem lw_p106 : lw_okq (⟨"TenthBeanModel", "seekRests", "(I)I"⟩, 54) := ⟨⟨by decide +kernel, by decide +kernel⟩, List.mem_of_getElem? (i := 1319) (by decide +kernel), List.mem_of_getElem? (i := 1950) (by decide +kernel), List.mem_of_getElem? (i := 1951) (by decide +kernel)⟩
theorem lw_p107 : lw_okq (⟨"TenthBeanModel", "warsWhy", "(ZII)I"⟩, 54) := ⟨⟨by decide +kernel, by decide +kernel⟩, List.mem_of_getElem? (i := 1319) (by decide +kernel), List.mem_of_getElem? (i := 1965) (by decide +kernel), List.mem_of_getElem? (i := 1966) (by decide +kernel)⟩
theorem lw_p108 : lw_okq (⟨"TenthBeanModel", "lotOf", "([II)I"⟩, 54) := ⟨⟨by decide +kernel, by decide +kernel⟩, List.mem_of_getElem? (i := 1319) (by decide +kernel), List.mem_of_getElem? (i := 1970) (by decide +kernel), List.mem_of_getElem? (i := 1971) (by decide +kernel)⟩
theorem lw_p109 : lw_okq (⟨"TenthBeanModel", "nextDraw", "(I)I"⟩, 54) := ⟨⟨by decide +kernel, by decide +kernel⟩, List.mem_of_getElem? (i := 1319) (by decide +kernel), List.mem_of_getElem? (i := 1974) (by decide +kernel), List.mem_of_getElem? (i := 1975) (by decide +kernel)⟩
theorem lw_p110 : lw_okq (⟨"TenthBeanModel", "note", "()V"⟩, 54) := ⟨⟨by decide +kernel, by decide +kernel⟩, List.mem_of_getElem? (i := 1319) (by decide +kernel), List.mem_of_getElem? (i := 1994) (by decide +kernel), List.mem_of_getElem? (i := 1995) (by decide +kernel)⟩
theorem lw_p111 : lw_okq (⟨"TenthBeanModel", "isNot", "(I)Z"⟩, 54) := ⟨⟨by decide +kernel, by decide +kernel⟩, List.mem_of_getElem? (i := 1319) (by decide +kernel), List.mem_of_getElem? (i := 2002) (by decide +kernel), List.mem_of_getElem? (i := 2003) (by decide +kernel)⟩
def lw_privs_7 : List (MethodName × Nat) := [(⟨"TenthBeanModel", "drawsBean", "(II)V"⟩, 54), (⟨"TenthBeanModel", "doubtOf", "(Z)J"⟩, 54), (⟨"TenthBeanModel", "shakenPart", "()J"⟩, 54), (⟨"TenthBeanModel", "honestPart", "()J"⟩, 54), (⟨"TenthBeanModel", "goneWhy", "()I"⟩, 54), (⟨"TenthBeanModel", "fitting", "(I)I"⟩, 54), (⟨"TenthBeanModel", "doesFit", "(I)Z"⟩, 54), (⟨"TenthBeanModel", "askOf", "()I"⟩, 54), (⟨"TenthBeanModel", "leavesOf", "(I)I"⟩, 54), (⟨"TenthBeanModel", "dreadWhy", "(I)I"⟩, 54), (⟨"TenthBeanModel", "seekRests", "(I)I"⟩, 54), (⟨"TenthBeanModel", "warsWhy", "(ZII)I"⟩, 54), (⟨"TenthBeanModel", "lotOf", "([II)I"⟩, 54), (⟨"TenthBeanModel", "nextDraw", "(I)I"⟩, 54), (⟨"TenthBeanModel", "note", "()V"⟩, 54), (⟨"TenthBeanModel", "isNot", "(I)Z"⟩, 54)]
theorem lw_r7 : ∀ q ∈ lw_privs_7, lw_okq q := List.forall_mem_cons.mpr ⟨lw_p96, List.forall_mem_cons.mpr ⟨lw_p97, List.forall_mem_cons.mpr ⟨lw_p98, List.forall_mem_cons.mpr ⟨lw_p99, List.forall_mem_cons.mpr ⟨lw_p100, List.forall_mem_cons.mpr ⟨lw_p101, List.forall_mem_cons.mpr ⟨lw_p102, List.forall_mem_cons.mpr ⟨lw_p103, List.forall_mem_cons.mpr ⟨lw_p104, List.forall_mem_cons.mpr ⟨lw_p105, List.forall_mem_cons.mpr ⟨lw_p106, List.forall_mem_cons.mpr ⟨lw_p107, List.forall_mem_cons.mpr ⟨lw_p108, List.forall_mem_cons.mpr ⟨lw_p109, List.forall_mem_cons.mpr ⟨lw_p110, List.forall_mem_cons.mpr ⟨lw_p111, fun _ h => absurd h List.not_mem_nil⟩⟩⟩⟩⟩⟩⟩⟩⟩⟩⟩⟩⟩⟩⟩⟩
def lw_privs : List (MethodName × Nat) := lw_privs_1 ++ (lw_privs_2 ++ (lw_privs_3 ++ (lw_privs_4 ++ (lw_privs_5 ++ (lw_privs_6 ++ (lw_privs_7))))))
def lw_tbl : List Cond := k2_sels lw_privs ++ tables_1
theorem lw_privs_ok : ∀ q ∈ lw_privs, lw_okq q := by
  show ∀ q ∈ lw_privs_1 ++ (lw_privs_2 ++ (lw_privs_3 ++ (lw_privs_4 ++ (lw_privs_5 ++ (lw_privs_6 ++ (lw_privs_7)))))), lw_okq q
  exact List.forall_mem_append.mpr ⟨lw_r1, List.forall_mem_append.mpr ⟨lw_r2, List.forall_mem_append.mpr ⟨lw_r3, List.forall_mem_append.mpr ⟨lw_r4, List.forall_mem_append.mpr ⟨lw_r5, List.forall_mem_append.mpr ⟨lw_r6, lw_r7⟩⟩⟩⟩⟩⟩

def RX0 : String := "TenthBean$Campaign"
def TX0 : u_T := fun k => match k with
  | 0 => ("TenthBean$Campaign", "field", "LTenthBean$Now;", true)
  | 1 => ("TenthBean$Campaign", "drawnIn", "[I", true)
  | _ => ("TenthBean$Campaign", "held", "I", false)
def tyX0 : Nat → FieldType := fun k => match k with
  | 0 => .object "TenthBean$Now"
  | 1 => .array .int
  | _ => .int
abbrev wsX00 : List Cond := u_ws RX0 TX0 3
theorem nmX0 : ∀ a, a < 3 → ∀ b, b < 3 → a ≠ b → (TX0 a).2.1 ≠ (TX0 b).2.1 := by decide +kernel
theorem tyX0_ok : ∀ k, k < 3 → parseFieldDescriptor (TX0 k).2.2.1 = some (tyX0 k) := by decide +kernel
abbrev cX0_init : ByteArray := prog_2_method_1_code
def yX0_init : MethodName := ⟨RX0, "<init>", "(LTenthBean$Legion;)V"⟩
abbrev cX0_fight : ByteArray := prog_2_method_2_code
def yX0_fight : MethodName := ⟨RX0, "fight", "(LTenthBean$Now;II)V"⟩
abbrev cX0_drawWar : ByteArray := prog_2_method_3_code
def yX0_drawWar : MethodName := ⟨RX0, "drawWar", "(I)I"⟩
abbrev cX0_note : ByteArray := prog_2_method_4_code
def yX0_note : MethodName := ⟨RX0, "note", "(II)V"⟩
def RX1 : String := "TenthBean$Earlier"
def TX1 : u_T := fun k => match k with
  | 0 => ("TenthBean$Earlier", "goneTold", "I", false)
  | 1 => ("TenthBean$Earlier", "amongs", "I", false)
  | 2 => ("TenthBean$Earlier", "fitting", "I", false)
  | 3 => ("TenthBean$Earlier", "inAll", "I", false)
  | 4 => ("TenthBean$Earlier", "with", "[I", true)
  | 5 => ("TenthBean$Earlier", "pair", "[I", true)
  | _ => ("TenthBean$Earlier", "ofPair", "[I", true)
def tyX1 : Nat → FieldType := fun k => match k with
  | 0 => .int
  | 1 => .int
  | 2 => .int
  | 3 => .int
  | 4 => .array .int
  | 5 => .array .int
  | _ => .array .int
abbrev wsX10 : List Cond := u_ws RX1 TX1 7
theorem nmX1 : ∀ a, a < 7 → ∀ b, b < 7 → a ≠ b → (TX1 a).2.1 ≠ (TX1 b).2.1 := by decide +kernel
theorem tyX1_ok : ∀ k, k < 7 → parseFieldDescriptor (TX1 k).2.2.1 = some (tyX1 k) := by decide +kernel
abbrev cX1_init : ByteArray := prog_3_method_1_code
def yX1_init : MethodName := ⟨RX1, "<init>", "()V"⟩
abbrev cX1_clear : ByteArray := prog_3_method_2_code
def yX1_clear : MethodName := ⟨RX1, "clear", "()V"⟩
abbrev cX1_isTold : ByteArray := prog_3_method_3_code
def yX1_isTold : MethodName := ⟨RX1, "isTold", "()Z"⟩
abbrev cX1_addAmong : ByteArray := prog_3_method_4_code
def yX1_addAmong : MethodName := ⟨RX1, "addAmong", "(III)V"⟩
abbrev cX1_fits : ByteArray := prog_3_method_5_code
def yX1_fits : MethodName := ⟨RX1, "fits", "(I)Z"⟩
abbrev cX1_count : ByteArray := prog_3_method_6_code
def yX1_count : MethodName := ⟨RX1, "count", "(I)V"⟩
abbrev cX1_countMen : ByteArray := prog_3_method_7_code
def yX1_countMen : MethodName := ⟨RX1, "countMen", "(I)V"⟩
abbrev cX1_fittingAt : ByteArray := prog_3_method_8_code
def yX1_fittingAt : MethodName := ⟨RX1, "fittingAt", "(II)I"⟩
abbrev cX1_leftBy : ByteArray := prog_3_method_9_code
def yX1_leftBy : MethodName := ⟨RX1, "leftBy", "(I)I"⟩
abbrev cX1_bestToAsk : ByteArray := prog_3_method_10_code
def yX1_bestToAsk : MethodName := ⟨RX1, "bestToAsk", "(I)I"⟩
def RX2 : String := "TenthBean$Helmet"
def TX2 : u_T := fun k => match k with
  | 0 => ("TenthBean$Helmet", "beans", "I", false)
  | 1 => ("TenthBean$Helmet", "black", "I", false)
  | 2 => ("TenthBean$Helmet", "shaken", "I", false)
  | 3 => ("TenthBean$Helmet", "favoured", "I", false)
  | 4 => ("TenthBean$Helmet", "draws", "I", false)
  | 5 => ("TenthBean$Helmet", "drawer", "[I", true)
  | 6 => ("TenthBean$Helmet", "wasBlack", "[Z", true)
  | 7 => ("TenthBean$Helmet", "ifHonest", "LTenthBean$Odds;", true)
  | 8 => ("TenthBean$Helmet", "ifShaken", "LTenthBean$Odds;", true)
  | 9 => ("TenthBean$Helmet", "before", "LTenthBean$Odds;", true)
  | 10 => ("TenthBean$Helmet", "beansLeft", "I", false)
  | 11 => ("TenthBean$Helmet", "blackLeft", "I", false)
  | _ => ("TenthBean$Helmet", "aside", "Z", false)
def tyX2 : Nat → FieldType := fun k => match k with
  | 0 => .int
  | 1 => .int
  | 2 => .int
  | 3 => .int
  | 4 => .int
  | 5 => .array .int
  | 6 => .array .boolean
  | 7 => .object "TenthBean$Odds"
  | 8 => .object "TenthBean$Odds"
  | 9 => .object "TenthBean$Odds"
  | 10 => .int
  | 11 => .int
  | _ => .boolean
abbrev wsX20 : List Cond := u_ws RX2 TX2 13
theorem nmX2 : ∀ a, a < 13 → ∀ b, b < 13 → a ≠ b → (TX2 a).2.1 ≠ (TX2 b).2.1 := by decide +kernel
theorem tyX2_ok : ∀ k, k < 13 → parseFieldDescriptor (TX2 k).2.2.1 = some (tyX2 k) := by decide +kernel
abbrev cX2_init : ByteArray := prog_4_method_1_code
def yX2_init : MethodName := ⟨RX2, "<init>", "()V"⟩
abbrev cX2_clear : ByteArray := prog_4_method_2_code
def yX2_clear : MethodName := ⟨RX2, "clear", "()V"⟩
abbrev cX2_isTold : ByteArray := prog_4_method_3_code
def yX2_isTold : MethodName := ⟨RX2, "isTold", "()Z"⟩
abbrev cX2_addDraw : ByteArray := prog_4_method_4_code
def yX2_addDraw : MethodName := ⟨RX2, "addDraw", "(IZ)V"⟩
abbrev cX2_hasDrawn : ByteArray := prog_4_method_5_code
def yX2_hasDrawn : MethodName := ⟨RX2, "hasDrawn", "(I)Z"⟩
abbrev cX2_leftOf : ByteArray := prog_4_method_6_code
def yX2_leftOf : MethodName := ⟨RX2, "leftOf", "(Z)I"⟩
abbrev cX2_drawAll : ByteArray := prog_4_method_7_code
def yX2_drawAll : MethodName := ⟨RX2, "drawAll", "()V"⟩
abbrev cX2_weighDraw : ByteArray := prog_4_method_8_code
def yX2_weighDraw : MethodName := ⟨RX2, "weighDraw", "(IZ)V"⟩
abbrev cX2_doubtTo : ByteArray := prog_4_method_9_code
def yX2_doubtTo : MethodName := ⟨RX2, "doubtTo", "(LTenthBean$Odds;)V"⟩
abbrev cX2_nextBlackTo : ByteArray := prog_4_method_10_code
def yX2_nextBlackTo : MethodName := ⟨RX2, "nextBlackTo", "(ILTenthBean$Odds;)V"⟩
abbrev cX2_eitherTo : ByteArray := prog_4_method_11_code
def yX2_eitherTo : MethodName := ⟨RX2, "eitherTo", "(LTenthBean$Odds;)V"⟩
abbrev cX2_weightShaken : ByteArray := prog_4_method_12_code
def yX2_weightShaken : MethodName := ⟨RX2, "weightShaken", "()J"⟩
abbrev cX2_weightHonest : ByteArray := prog_4_method_13_code
def yX2_weightHonest : MethodName := ⟨RX2, "weightHonest", "()J"⟩
def RX3 : String := "TenthBean$History"
def TX3 : u_T := fun k => match k with
  | 0 => ("TenthBean$History", "kept", "[LTenthBean$Now;", true)
  | 1 => ("TenthBean$History", "pictures", "[LTenthBean$Now;", true)
  | 2 => ("TenthBean$History", "top", "I", false)
  | 3 => ("TenthBean$History", "acts", "I", false)
  | _ => ("TenthBean$History", "images", "I", false)
def tyX3 : Nat → FieldType := fun k => match k with
  | 0 => .array (.object "TenthBean$Now")
  | 1 => .array (.object "TenthBean$Now")
  | 2 => .int
  | 3 => .int
  | _ => .int
abbrev wsX30 : List Cond := u_ws RX3 TX3 5
theorem nmX3 : ∀ a, a < 5 → ∀ b, b < 5 → a ≠ b → (TX3 a).2.1 ≠ (TX3 b).2.1 := by decide +kernel
theorem tyX3_ok : ∀ k, k < 5 → parseFieldDescriptor (TX3 k).2.2.1 = some (tyX3 k) := by decide +kernel
abbrev cX3_init : ByteArray := prog_5_method_1_code
def yX3_init : MethodName := ⟨RX3, "<init>", "(LTenthBean$Legion;)V"⟩
abbrev cX3_clear : ByteArray := prog_5_method_2_code
def yX3_clear : MethodName := ⟨RX3, "clear", "()V"⟩
abbrev cX3_keep : ByteArray := prog_5_method_3_code
def yX3_keep : MethodName := ⟨RX3, "keep", "(LTenthBean$Now;)V"⟩
abbrev cX3_takeBack : ByteArray := prog_5_method_4_code
def yX3_takeBack : MethodName := ⟨RX3, "takeBack", "(LTenthBean$Now;)Z"⟩
abbrev cX3_addImage : ByteArray := prog_5_method_5_code
def yX3_addImage : MethodName := ⟨RX3, "addImage", "(LTenthBean$Now;)I"⟩
abbrev cX3_goBack : ByteArray := prog_5_method_6_code
def yX3_goBack : MethodName := ⟨RX3, "goBack", "(ILTenthBean$Now;)Z"⟩
def RX4 : String := "TenthBean$Legion"
def TX4 : u_T := fun k => match k with
  | 0 => ("TenthBean$Legion", "holdsTold", "I", false)
  | 1 => ("TenthBean$Legion", "oneIn", "I", false)
  | 2 => ("TenthBean$Legion", "fear", "I", false)
  | 3 => ("TenthBean$Legion", "mutinyTold", "I", false)
  | 4 => ("TenthBean$Legion", "tens", "I", false)
  | 5 => ("TenthBean$Legion", "men", "I", false)
  | 6 => ("TenthBean$Legion", "pairs", "I", false)
  | 7 => ("TenthBean$Legion", "kind", "[I", true)
  | 8 => ("TenthBean$Legion", "firstTen", "[I", true)
  | 9 => ("TenthBean$Legion", "nerve", "[I", true)
  | 10 => ("TenthBean$Legion", "friendsOf", "[I", true)
  | 11 => ("TenthBean$Legion", "fearTimes", "[I", true)
  | 12 => ("TenthBean$Legion", "weight", "[I", true)
  | 13 => ("TenthBean$Legion", "helmet", "LTenthBean$Helmet;", true)
  | _ => ("TenthBean$Legion", "earlier", "LTenthBean$Earlier;", true)
def tyX4 : Nat → FieldType := fun k => match k with
  | 0 => .int
  | 1 => .int
  | 2 => .int
  | 3 => .int
  | 4 => .int
  | 5 => .int
  | 6 => .int
  | 7 => .array .int
  | 8 => .array .int
  | 9 => .array .int
  | 10 => .array .int
  | 11 => .array .int
  | 12 => .array .int
  | 13 => .object "TenthBean$Helmet"
  | _ => .object "TenthBean$Earlier"
abbrev wsX40 : List Cond := u_ws RX4 TX4 15
theorem nmX4 : ∀ a, a < 15 → ∀ b, b < 15 → a ≠ b → (TX4 a).2.1 ≠ (TX4 b).2.1 := by decide +kernel
theorem tyX4_ok : ∀ k, k < 15 → parseFieldDescriptor (TX4 k).2.2.1 = some (tyX4 k) := by decide +kernel
abbrev cX4_init : ByteArray := prog_6_method_1_code
def yX4_init : MethodName := ⟨RX4, "<init>", "()V"⟩
abbrev cX4_clear : ByteArray := prog_6_method_2_code
def yX4_clear : MethodName := ⟨RX4, "clear", "()V"⟩
abbrev cX4_addMan : ByteArray := prog_6_method_3_code
def yX4_addMan : MethodName := ⟨RX4, "addMan", "(III)V"⟩
def RX5 : String := "TenthBean$Lots"
def TX5 : u_T := fun k => match k with
  | 0 => ("TenthBean$Lots", "after", "[LTenthBean$Now;", true)
  | 1 => ("TenthBean$Lots", "all", "I", false)
  | 2 => ("TenthBean$Lots", "held", "I", false)
  | 3 => ("TenthBean$Lots", "mutinous", "I", false)
  | 4 => ("TenthBean$Lots", "running", "I", false)
  | 5 => ("TenthBean$Lots", "worstBlack", "I", false)
  | 6 => ("TenthBean$Lots", "bestTens", "I", false)
  | 7 => ("TenthBean$Lots", "bestGood", "I", false)
  | 8 => ("TenthBean$Lots", "bestAll", "I", false)
  | 9 => ("TenthBean$Lots", "good", "I", false)
  | _ => ("TenthBean$Lots", "ways", "I", false)
def tyX5 : Nat → FieldType := fun k => match k with
  | 0 => .array (.object "TenthBean$Now")
  | 1 => .int
  | 2 => .int
  | 3 => .int
  | 4 => .int
  | 5 => .int
  | 6 => .int
  | 7 => .int
  | 8 => .int
  | 9 => .int
  | _ => .int
abbrev wsX50 : List Cond := u_ws RX5 TX5 11
theorem nmX5 : ∀ a, a < 11 → ∀ b, b < 11 → a ≠ b → (TX5 a).2.1 ≠ (TX5 b).2.1 := by decide +kernel
theorem tyX5_ok : ∀ k, k < 11 → parseFieldDescriptor (TX5 k).2.2.1 = some (tyX5 k) := by decide +kernel
abbrev cX5_init : ByteArray := prog_7_method_1_code
def yX5_init : MethodName := ⟨RX5, "<init>", "(LTenthBean$Legion;)V"⟩
abbrev cX5_survey : ByteArray := prog_7_method_2_code
def yX5_survey : MethodName := ⟨RX5, "survey", "(LTenthBean$Now;II)V"⟩
abbrev cX5_chooseTens : ByteArray := prog_7_method_3_code
def yX5_chooseTens : MethodName := ⟨RX5, "chooseTens", "(LTenthBean$Now;I)V"⟩
abbrev cX5_drawFrom : ByteArray := prog_7_method_4_code
def yX5_drawFrom : MethodName := ⟨RX5, "drawFrom", "(IIII)V"⟩
abbrev cX5_countWay : ByteArray := prog_7_method_5_code
def yX5_countWay : MethodName := ⟨RX5, "countWay", "(LTenthBean$Now;I)V"⟩
def RX6 : String := "TenthBean$Now"
def TX6 : u_T := fun k => match k with
  | 0 => ("TenthBean$Now", "told", "LTenthBean$Legion;", false)
  | 1 => ("TenthBean$Now", "present", "I", false)
  | 2 => ("TenthBean$Now", "braced", "I", false)
  | 3 => ("TenthBean$Now", "seedNow", "I", false)
  | 4 => ("TenthBean$Now", "tenOf", "[I", true)
  | 5 => ("TenthBean$Now", "feared", "[I", true)
  | 6 => ("TenthBean$Now", "angerOf", "[I", true)
  | _ => ("TenthBean$Now", "lotsOf", "[I", true)
def tyX6 : Nat → FieldType := fun k => match k with
  | 0 => .object "TenthBean$Legion"
  | 1 => .int
  | 2 => .int
  | 3 => .int
  | 4 => .array .int
  | 5 => .array .int
  | 6 => .array .int
  | _ => .array .int
abbrev wsX60 : List Cond := u_ws RX6 TX6 8
theorem nmX6 : ∀ a, a < 8 → ∀ b, b < 8 → a ≠ b → (TX6 a).2.1 ≠ (TX6 b).2.1 := by decide +kernel
theorem tyX6_ok : ∀ k, k < 8 → parseFieldDescriptor (TX6 k).2.2.1 = some (tyX6 k) := by decide +kernel
abbrev cX6_init : ByteArray := prog_8_method_1_code
def yX6_init : MethodName := ⟨RX6, "<init>", "(LTenthBean$Legion;)V"⟩
abbrev cX6_begin : ByteArray := prog_8_method_2_code
def yX6_begin : MethodName := ⟨RX6, "begin", "(LTenthBean$Legion;)V"⟩
abbrev cX6_copyFrom : ByteArray := prog_8_method_3_code
def yX6_copyFrom : MethodName := ⟨RX6, "copyFrom", "(LTenthBean$Now;)V"⟩
abbrev cX6_menOf : ByteArray := prog_8_method_4_code
def yX6_menOf : MethodName := ⟨RX6, "menOf", "(I)I"⟩
abbrev cX6_beansOf : ByteArray := prog_8_method_5_code
def yX6_beansOf : MethodName := ⟨RX6, "beansOf", "(I)I"⟩
abbrev cX6_nerveOf : ByteArray := prog_8_method_6_code
def yX6_nerveOf : MethodName := ⟨RX6, "nerveOf", "(II)I"⟩
abbrev cX6_angerOfAll : ByteArray := prog_8_method_7_code
def yX6_angerOfAll : MethodName := ⟨RX6, "angerOfAll", "()I"⟩
abbrev cX6_isMutinous : ByteArray := prog_8_method_8_code
def yX6_isMutinous : MethodName := ⟨RX6, "isMutinous", "()Z"⟩
abbrev cX6_runFrom : ByteArray := prog_8_method_9_code
def yX6_runFrom : MethodName := ⟨RX6, "runFrom", "(I)I"⟩
abbrev cX6_runWith : ByteArray := prog_8_method_10_code
def yX6_runWith : MethodName := ⟨RX6, "runWith", "(IIII)I"⟩
abbrev cX6_holdsFast : ByteArray := prog_8_method_11_code
def yX6_holdsFast : MethodName := ⟨RX6, "holdsFast", "(I)Z"⟩
abbrev cX6_friendsTogether : ByteArray := prog_8_method_12_code
def yX6_friendsTogether : MethodName := ⟨RX6, "friendsTogether", "()I"⟩
abbrev cX6_takeAway : ByteArray := prog_8_method_13_code
def yX6_takeAway : MethodName := ⟨RX6, "takeAway", "(II)V"⟩
abbrev cX6_drawLot : ByteArray := prog_8_method_14_code
def yX6_drawLot : MethodName := ⟨RX6, "drawLot", "(I)I"⟩
abbrev cX6_drawOne : ByteArray := prog_8_method_15_code
def yX6_drawOne : MethodName := ⟨RX6, "drawOne", "(I)I"⟩
def RX7 : String := "TenthBean$Odds"
def TX7 : u_T := fun k => match k with
  | 0 => ("TenthBean$Odds", "upper", "J", false)
  | _ => ("TenthBean$Odds", "lower", "J", false)
def tyX7 : Nat → FieldType := fun k => match k with
  | 0 => .long
  | _ => .long
abbrev wsX70 : List Cond := u_ws RX7 TX7 2
theorem nmX7 : ∀ a, a < 2 → ∀ b, b < 2 → a ≠ b → (TX7 a).2.1 ≠ (TX7 b).2.1 := by decide +kernel
theorem tyX7_ok : ∀ k, k < 2 → parseFieldDescriptor (TX7 k).2.2.1 = some (tyX7 k) := by decide +kernel
abbrev cX7_init : ByteArray := prog_9_method_1_code
def yX7_init : MethodName := ⟨RX7, "<init>", "()V"⟩
abbrev cX7_put : ByteArray := prog_9_method_2_code
def yX7_put : MethodName := ⟨RX7, "put", "(JJ)V"⟩
abbrev cX7_times : ByteArray := prog_9_method_3_code
def yX7_times : MethodName := ⟨RX7, "times", "(JJ)V"⟩
abbrev cX7_divideBy : ByteArray := prog_9_method_4_code
def yX7_divideBy : MethodName := ⟨RX7, "divideBy", "(LTenthBean$Odds;)V"⟩
abbrev cX7_part : ByteArray := prog_9_method_5_code
def yX7_part : MethodName := ⟨RX7, "part", "(Z)J"⟩
abbrev cX7_common : ByteArray := prog_9_method_6_code
def yX7_common : MethodName := ⟨RX7, "common", "(JJ)J"⟩
def RX8 : String := "TenthBean$Reader"
def TX8 : u_T := fun k => match k with
  | 0 => ("TenthBean$Reader", "tokens", "LTenthBean$Tokens;", true)
  | 1 => ("TenthBean$Reader", "tenNames", "[J", true)
  | 2 => ("TenthBean$Reader", "manNames", "[J", true)
  | 3 => ("TenthBean$Reader", "into", "LTenthBean$Legion;", false)
  | 4 => ("TenthBean$Reader", "begun", "Z", false)
  | 5 => ("TenthBean$Reader", "faultMet", "I", false)
  | _ => ("TenthBean$Reader", "placeMet", "I", false)
def tyX8 : Nat → FieldType := fun k => match k with
  | 0 => .object "TenthBean$Tokens"
  | 1 => .array .long
  | 2 => .array .long
  | 3 => .object "TenthBean$Legion"
  | 4 => .boolean
  | 5 => .int
  | _ => .int
abbrev wsX80 : List Cond := u_ws RX8 TX8 7
theorem nmX8 : ∀ a, a < 7 → ∀ b, b < 7 → a ≠ b → (TX8 a).2.1 ≠ (TX8 b).2.1 := by decide +kernel
theorem tyX8_ok : ∀ k, k < 7 → parseFieldDescriptor (TX8 k).2.2.1 = some (tyX8 k) := by decide +kernel
abbrev cX8_init : ByteArray := prog_10_method_1_code
def yX8_init : MethodName := ⟨RX8, "<init>", "([B)V"⟩
abbrev cX8_handOver : ByteArray := prog_10_method_2_code
def yX8_handOver : MethodName := ⟨RX8, "handOver", "(LTenthBean$Legion;)LTenthBean$Legion;"⟩
abbrev cX8_readText : ByteArray := prog_10_method_3_code
def yX8_readText : MethodName := ⟨RX8, "readText", "(I)Z"⟩
abbrev cX8_fail : ByteArray := prog_10_method_4_code
def yX8_fail : MethodName := ⟨RX8, "fail", "(I)Z"⟩
abbrev cX8_faultOfLine : ByteArray := prog_10_method_5_code
def yX8_faultOfLine : MethodName := ⟨RX8, "faultOfLine", "(I)I"⟩
abbrev cX8_behind : ByteArray := prog_10_method_6_code
def yX8_behind : MethodName := ⟨RX8, "behind", "(ZZ)I"⟩
abbrev cX8_readLegion : ByteArray := prog_10_method_7_code
def yX8_readLegion : MethodName := ⟨RX8, "readLegion", "()Z"⟩
abbrev cX8_readTen : ByteArray := prog_10_method_8_code
def yX8_readTen : MethodName := ⟨RX8, "readTen", "()Z"⟩
abbrev cX8_readMan : ByteArray := prog_10_method_9_code
def yX8_readMan : MethodName := ⟨RX8, "readMan", "()Z"⟩
abbrev cX8_readFriend : ByteArray := prog_10_method_10_code
def yX8_readFriend : MethodName := ⟨RX8, "readFriend", "()Z"⟩
abbrev cX8_readHelmet : ByteArray := prog_10_method_11_code
def yX8_readHelmet : MethodName := ⟨RX8, "readHelmet", "()Z"⟩
abbrev cX8_readDrew : ByteArray := prog_10_method_12_code
def yX8_readDrew : MethodName := ⟨RX8, "readDrew", "()Z"⟩
abbrev cX8_readGone : ByteArray := prog_10_method_13_code
def yX8_readGone : MethodName := ⟨RX8, "readGone", "()Z"⟩
abbrev cX8_readAmong : ByteArray := prog_10_method_14_code
def yX8_readAmong : MethodName := ⟨RX8, "readAmong", "()Z"⟩
abbrev cX8_readWord : ByteArray := prog_10_method_15_code
def yX8_readWord : MethodName := ⟨RX8, "readWord", "(Ljava/lang/String;)Z"⟩
abbrev cX8_readNamed : ByteArray := prog_10_method_16_code
def yX8_readNamed : MethodName := ⟨RX8, "readNamed", "(Ljava/lang/String;II)I"⟩
abbrev cX8_readWhole : ByteArray := prog_10_method_17_code
def yX8_readWhole : MethodName := ⟨RX8, "readWhole", "(II)I"⟩
abbrev cX8_readKind : ByteArray := prog_10_method_18_code
def yX8_readKind : MethodName := ⟨RX8, "readKind", "()I"⟩
abbrev cX8_isFreshName : ByteArray := prog_10_method_19_code
def yX8_isFreshName : MethodName := ⟨RX8, "isFreshName", "()Z"⟩
abbrev cX8_findTold : ByteArray := prog_10_method_20_code
def yX8_findTold : MethodName := ⟨RX8, "findTold", "([JI)I"⟩
abbrev cX8_readMember : ByteArray := prog_10_method_21_code
def yX8_readMember : MethodName := ⟨RX8, "readMember", "()I"⟩
abbrev cX8_findOther : ByteArray := prog_10_method_22_code
def yX8_findOther : MethodName := ⟨RX8, "findOther", "(I)I"⟩
abbrev cX8_indexOf : ByteArray := prog_10_method_23_code
def yX8_indexOf : MethodName := ⟨RX8, "indexOf", "([JIJ)I"⟩
def RX9 : String := "TenthBean$Regroup"
def TX9 : u_T := fun k => match k with
  | 0 => ("TenthBean$Regroup", "fewest", "I", false)
  | 1 => ("TenthBean$Regroup", "bestTen", "[I", true)
  | 2 => ("TenthBean$Regroup", "ten", "[I", true)
  | 3 => ("TenthBean$Regroup", "menOfTen", "[I", true)
  | _ => ("TenthBean$Regroup", "most", "I", false)
def tyX9 : Nat → FieldType := fun k => match k with
  | 0 => .int
  | 1 => .array .int
  | 2 => .array .int
  | 3 => .array .int
  | _ => .int
abbrev wsX90 : List Cond := u_ws RX9 TX9 5
theorem nmX9 : ∀ a, a < 5 → ∀ b, b < 5 → a ≠ b → (TX9 a).2.1 ≠ (TX9 b).2.1 := by decide +kernel
theorem tyX9_ok : ∀ k, k < 5 → parseFieldDescriptor (TX9 k).2.2.1 = some (tyX9 k) := by decide +kernel
abbrev cX9_init : ByteArray := prog_11_method_1_code
def yX9_init : MethodName := ⟨RX9, "<init>", "()V"⟩
abbrev cX9_solve : ByteArray := prog_11_method_2_code
def yX9_solve : MethodName := ⟨RX9, "solve", "(LTenthBean$Now;)V"⟩
abbrev cX9_assignFrom : ByteArray := prog_11_method_3_code
def yX9_assignFrom : MethodName := ⟨RX9, "assignFrom", "(LTenthBean$Now;II)V"⟩
def RX10 : String := "TenthBean$Tokens"
def TX10 : u_T := fun k => match k with
  | 0 => ("TenthBean$Tokens", "bytes", "[B", true)
  | 1 => ("TenthBean$Tokens", "end", "I", false)
  | 2 => ("TenthBean$Tokens", "length", "I", false)
  | 3 => ("TenthBean$Tokens", "place", "I", false)
  | _ => ("TenthBean$Tokens", "sort", "I", false)
def tyX10 : Nat → FieldType := fun k => match k with
  | 0 => .array .byte
  | 1 => .int
  | 2 => .int
  | 3 => .int
  | _ => .int
abbrev wsX100 : List Cond := u_ws RX10 TX10 5
theorem nmX10 : ∀ a, a < 5 → ∀ b, b < 5 → a ≠ b → (TX10 a).2.1 ≠ (TX10 b).2.1 := by decide +kernel
theorem tyX10_ok : ∀ k, k < 5 → parseFieldDescriptor (TX10 k).2.2.1 = some (tyX10 k) := by decide +kernel
abbrev cX10_init : ByteArray := prog_12_method_1_code
def yX10_init : MethodName := ⟨RX10, "<init>", "([B)V"⟩
abbrev cX10_begin : ByteArray := prog_12_method_2_code
def yX10_begin : MethodName := ⟨RX10, "begin", "(I)V"⟩
abbrev cX10_step : ByteArray := prog_12_method_3_code
def yX10_step : MethodName := ⟨RX10, "step", "()V"⟩
abbrev cX10_standTogether : ByteArray := prog_12_method_4_code
def yX10_standTogether : MethodName := ⟨RX10, "standTogether", "(CC)I"⟩
abbrev cX10_isWord : ByteArray := prog_12_method_5_code
def yX10_isWord : MethodName := ⟨RX10, "isWord", "(Ljava/lang/String;)Z"⟩
abbrev cX10_letters : ByteArray := prog_12_method_6_code
def yX10_letters : MethodName := ⟨RX10, "letters", "()J"⟩
abbrev cX10_value : ByteArray := prog_12_method_7_code
def yX10_value : MethodName := ⟨RX10, "value", "()I"⟩
abbrev cX10_wordSort : ByteArray := prog_12_method_8_code
def yX10_wordSort : MethodName := ⟨RX10, "wordSort", "()I"⟩
def RX11 : String := "TenthBean"
def TX11 : u_T := fun k => match k with
  | 0 => ("TenthBean", "tape", "[B", true)
  | 1 => ("TenthBean", "taped", "I", false)
  | 2 => ("TenthBean", "reader", "LTenthBean$Reader;", true)
  | 3 => ("TenthBean", "told", "LTenthBean$Legion;", false)
  | 4 => ("TenthBean", "now", "LTenthBean$Now;", true)
  | 5 => ("TenthBean", "history", "LTenthBean$History;", true)
  | 6 => ("TenthBean", "lots", "LTenthBean$Lots;", true)
  | 7 => ("TenthBean", "regroup", "LTenthBean$Regroup;", true)
  | 8 => ("TenthBean", "campaign", "LTenthBean$Campaign;", true)
  | 9 => ("TenthBean", "odds", "LTenthBean$Odds;", true)
  | 10 => ("TenthBean", "lastFault", "I", false)
  | 11 => ("TenthBean", "faultPlace", "I", false)
  | _ => ("TenthBean", "why", "I", false)
def tyX11 : Nat → FieldType := fun k => match k with
  | 0 => .array .byte
  | 1 => .int
  | 2 => .object "TenthBean$Reader"
  | 3 => .object "TenthBean$Legion"
  | 4 => .object "TenthBean$Now"
  | 5 => .object "TenthBean$History"
  | 6 => .object "TenthBean$Lots"
  | 7 => .object "TenthBean$Regroup"
  | 8 => .object "TenthBean$Campaign"
  | 9 => .object "TenthBean$Odds"
  | 10 => .int
  | 11 => .int
  | _ => .int
abbrev wsX110 : List Cond := u_ws RX11 TX11 13
theorem nmX11 : ∀ a, a < 13 → ∀ b, b < 13 → a ≠ b → (TX11 a).2.1 ≠ (TX11 b).2.1 := by decide +kernel
theorem tyX11_ok : ∀ k, k < 13 → parseFieldDescriptor (TX11 k).2.2.1 = some (tyX11 k) := by decide +kernel
abbrev cX11_init : ByteArray := prog_1_method_1_code
def yX11_init : MethodName := ⟨RX11, "<init>", "()V"⟩
abbrev cX11_feed : ByteArray := prog_1_method_2_code
def yX11_feed : MethodName := ⟨RX11, "feed", "(IIIII)I"⟩
abbrev cX11_putBytes : ByteArray := prog_1_method_3_code
def yX11_putBytes : MethodName := ⟨RX11, "putBytes", "(I)V"⟩
abbrev cX11_legion : ByteArray := prog_1_method_4_code
def yX11_legion : MethodName := ⟨RX11, "legion", "(I)I"⟩
abbrev cX11_fault : ByteArray := prog_1_method_5_code
def yX11_fault : MethodName := ⟨RX11, "fault", "()I"⟩
abbrev cX11_where : ByteArray := prog_1_method_6_code
def yX11_where : MethodName := ⟨RX11, "where", "()I"⟩
abbrev cX11_man : ByteArray := prog_1_method_7_code
def yX11_man : MethodName := ⟨RX11, "man", "(II)I"⟩
abbrev cX11_ten : ByteArray := prog_1_method_8_code
def yX11_ten : MethodName := ⟨RX11, "ten", "(II)I"⟩
abbrev cX11_there : ByteArray := prog_1_method_9_code
def yX11_there : MethodName := ⟨RX11, "there", "()I"⟩
abbrev cX11_anger : ByteArray := prog_1_method_10_code
def yX11_anger : MethodName := ⟨RX11, "anger", "()I"⟩
abbrev cX11_mutiny : ByteArray := prog_1_method_11_code
def yX11_mutiny : MethodName := ⟨RX11, "mutiny", "()I"⟩
abbrev cX11_runs : ByteArray := prog_1_method_12_code
def yX11_runs : MethodName := ⟨RX11, "runs", "(I)I"⟩
abbrev cX11_holds : ByteArray := prog_1_method_13_code
def yX11_holds : MethodName := ⟨RX11, "holds", "(I)I"⟩
abbrev cX11_worst : ByteArray := prog_1_method_14_code
def yX11_worst : MethodName := ⟨RX11, "worst", "()I"⟩
abbrev cX11_breaks : ByteArray := prog_1_method_15_code
def yX11_breaks : MethodName := ⟨RX11, "breaks", "()I"⟩
abbrev cX11_brace : ByteArray := prog_1_method_16_code
def yX11_brace : MethodName := ⟨RX11, "brace", "(I)I"⟩
abbrev cX11_toHearten : ByteArray := prog_1_method_17_code
def yX11_toHearten : MethodName := ⟨RX11, "toHearten", "(I)I"⟩
abbrev cX11_fearFor : ByteArray := prog_1_method_18_code
def yX11_fearFor : MethodName := ⟨RX11, "fearFor", "(I)I"⟩
abbrev cX11_sets : ByteArray := prog_1_method_19_code
def yX11_sets : MethodName := ⟨RX11, "sets", "(I)I"⟩
abbrev cX11_drawn : ByteArray := prog_1_method_20_code
def yX11_drawn : MethodName := ⟨RX11, "drawn", "(IZ)J"⟩
abbrev cX11_holdsAfter : ByteArray := prog_1_method_21_code
def yX11_holdsAfter : MethodName := ⟨RX11, "holdsAfter", "(IIZ)J"⟩
abbrev cX11_mutinyAfter : ByteArray := prog_1_method_22_code
def yX11_mutinyAfter : MethodName := ⟨RX11, "mutinyAfter", "(IZ)J"⟩
abbrev cX11_runsAfter : ByteArray := prog_1_method_23_code
def yX11_runsAfter : MethodName := ⟨RX11, "runsAfter", "(IIZ)J"⟩
abbrev cX11_worstSet : ByteArray := prog_1_method_24_code
def yX11_worstSet : MethodName := ⟨RX11, "worstSet", "(II)I"⟩
abbrev cX11_order : ByteArray := prog_1_method_25_code
def yX11_order : MethodName := ⟨RX11, "order", "(I)I"⟩
abbrev cX11_orderOdds : ByteArray := prog_1_method_26_code
def yX11_orderOdds : MethodName := ⟨RX11, "orderOdds", "(IZ)J"⟩
abbrev cX11_friends : ByteArray := prog_1_method_27_code
def yX11_friends : MethodName := ⟨RX11, "friends", "()I"⟩
abbrev cX11_newTen : ByteArray := prog_1_method_28_code
def yX11_newTen : MethodName := ⟨RX11, "newTen", "(I)I"⟩
abbrev cX11_friendsNow : ByteArray := prog_1_method_29_code
def yX11_friendsNow : MethodName := ⟨RX11, "friendsNow", "()I"⟩
abbrev cX11_doubt : ByteArray := prog_1_method_30_code
def yX11_doubt : MethodName := ⟨RX11, "doubt", "(Z)J"⟩
abbrev cX11_next : ByteArray := prog_1_method_31_code
def yX11_next : MethodName := ⟨RX11, "next", "(IZ)J"⟩
abbrev cX11_doubtIf : ByteArray := prog_1_method_32_code
def yX11_doubtIf : MethodName := ⟨RX11, "doubtIf", "(IZZ)J"⟩
abbrev cX11_honest : ByteArray := prog_1_method_33_code
def yX11_honest : MethodName := ⟨RX11, "honest", "(Z)J"⟩
abbrev cX11_gone : ByteArray := prog_1_method_34_code
def yX11_gone : MethodName := ⟨RX11, "gone", "()I"⟩
abbrev cX11_goneAt : ByteArray := prog_1_method_35_code
def yX11_goneAt : MethodName := ⟨RX11, "goneAt", "(I)I"⟩
abbrev cX11_goneOf : ByteArray := prog_1_method_36_code
def yX11_goneOf : MethodName := ⟨RX11, "goneOf", "(I)I"⟩
abbrev cX11_surelyGone : ByteArray := prog_1_method_37_code
def yX11_surelyGone : MethodName := ⟨RX11, "surelyGone", "()I"⟩
abbrev cX11_ask : ByteArray := prog_1_method_38_code
def yX11_ask : MethodName := ⟨RX11, "ask", "()I"⟩
abbrev cX11_askLeaves : ByteArray := prog_1_method_39_code
def yX11_askLeaves : MethodName := ⟨RX11, "askLeaves", "()I"⟩
abbrev cX11_line : ByteArray := prog_1_method_40_code
def yX11_line : MethodName := ⟨RX11, "line", "(IZZZ)I"⟩
abbrev cX11_rests : ByteArray := prog_1_method_41_code
def yX11_rests : MethodName := ⟨RX11, "rests", "(I)I"⟩
abbrev cX11_rest : ByteArray := prog_1_method_42_code
def yX11_rest : MethodName := ⟨RX11, "rest", "(I)I"⟩
abbrev cX11_gain : ByteArray := prog_1_method_43_code
def yX11_gain : MethodName := ⟨RX11, "gain", "(IZZ)I"⟩
abbrev cX11_isRest : ByteArray := prog_1_method_44_code
def yX11_isRest : MethodName := ⟨RX11, "isRest", "(II)Z"⟩
abbrev cX11_wars : ByteArray := prog_1_method_45_code
def yX11_wars : MethodName := ⟨RX11, "wars", "(II)I"⟩
abbrev cX11_warsLeft : ByteArray := prog_1_method_46_code
def yX11_warsLeft : MethodName := ⟨RX11, "warsLeft", "(II)I"⟩
abbrev cX11_warsOf : ByteArray := prog_1_method_47_code
def yX11_warsOf : MethodName := ⟨RX11, "warsOf", "(III)I"⟩
abbrev cX11_lot : ByteArray := prog_1_method_48_code
def yX11_lot : MethodName := ⟨RX11, "lot", "(I)I"⟩
abbrev cX11_braces : ByteArray := prog_1_method_49_code
def yX11_braces : MethodName := ⟨RX11, "braces", "(IZ)Z"⟩
abbrev cX11_move : ByteArray := prog_1_method_50_code
def yX11_move : MethodName := ⟨RX11, "move", "(II)Z"⟩
abbrev cX11_seed : ByteArray := prog_1_method_51_code
def yX11_seed : MethodName := ⟨RX11, "seed", "(I)Z"⟩
abbrev cX11_undo : ByteArray := prog_1_method_52_code
def yX11_undo : MethodName := ⟨RX11, "undo", "()Z"⟩
abbrev cX11_image : ByteArray := prog_1_method_53_code
def yX11_image : MethodName := ⟨RX11, "image", "()I"⟩
abbrev cX11_back : ByteArray := prog_1_method_54_code
def yX11_back : MethodName := ⟨RX11, "back", "(I)Z"⟩
abbrev cX11_led : ByteArray := prog_1_method_55_code
def yX11_led : MethodName := ⟨RX11, "led", "(I)I"⟩
abbrev cX11_size : ByteArray := prog_1_method_56_code
def yX11_size : MethodName := ⟨RX11, "size", "(I)I"⟩
abbrev cX11_trouble : ByteArray := prog_1_method_57_code
def yX11_trouble : MethodName := ⟨RX11, "trouble", "()I"⟩
abbrev cX11_refused : ByteArray := prog_1_method_58_code
def yX11_refused : MethodName := ⟨RX11, "refused", "(I)Z"⟩
abbrev cX11_firstOf : ByteArray := prog_1_method_59_code
def yX11_firstOf : MethodName := ⟨RX11, "firstOf", "(II)I"⟩
abbrev cX11_troubleOfLegion : ByteArray := prog_1_method_60_code
def yX11_troubleOfLegion : MethodName := ⟨RX11, "troubleOfLegion", "()I"⟩
abbrev cX11_troubleOfMan : ByteArray := prog_1_method_61_code
def yX11_troubleOfMan : MethodName := ⟨RX11, "troubleOfMan", "(I)I"⟩
abbrev cX11_troubleOfPresent : ByteArray := prog_1_method_62_code
def yX11_troubleOfPresent : MethodName := ⟨RX11, "troubleOfPresent", "(I)I"⟩
abbrev cX11_troubleOfTen : ByteArray := prog_1_method_63_code
def yX11_troubleOfTen : MethodName := ⟨RX11, "troubleOfTen", "(I)I"⟩
abbrev cX11_troubleOfStart : ByteArray := prog_1_method_64_code
def yX11_troubleOfStart : MethodName := ⟨RX11, "troubleOfStart", "(I)I"⟩
abbrev cX11_troubleOfLot : ByteArray := prog_1_method_65_code
def yX11_troubleOfLot : MethodName := ⟨RX11, "troubleOfLot", "(I)I"⟩
abbrev cX11_troubleOfLotFrom : ByteArray := prog_1_method_66_code
def yX11_troubleOfLotFrom : MethodName := ⟨RX11, "troubleOfLotFrom", "(II)I"⟩
abbrev cX11_troubleOfHelmet : ByteArray := prog_1_method_67_code
def yX11_troubleOfHelmet : MethodName := ⟨RX11, "troubleOfHelmet", "()I"⟩
abbrev cX11_troubleOfDrawer : ByteArray := prog_1_method_68_code
def yX11_troubleOfDrawer : MethodName := ⟨RX11, "troubleOfDrawer", "(I)I"⟩
abbrev cX11_troubleOfGone : ByteArray := prog_1_method_69_code
def yX11_troubleOfGone : MethodName := ⟨RX11, "troubleOfGone", "()I"⟩
abbrev cX11_troubleOfDread : ByteArray := prog_1_method_70_code
def yX11_troubleOfDread : MethodName := ⟨RX11, "troubleOfDread", "(I)I"⟩
abbrev cX11_troubleOfSeed : ByteArray := prog_1_method_71_code
def yX11_troubleOfSeed : MethodName := ⟨RX11, "troubleOfSeed", "(I)I"⟩
abbrev cX11_troubleOfWars : ByteArray := prog_1_method_72_code
def yX11_troubleOfWars : MethodName := ⟨RX11, "troubleOfWars", "(II)I"⟩
abbrev cX11_has : ByteArray := prog_1_method_73_code
def yX11_has : MethodName := ⟨RX11, "has", "(II)Z"⟩
abbrev cX11_isPart : ByteArray := prog_1_method_74_code
def yX11_isPart : MethodName := ⟨RX11, "isPart", "(II)Z"⟩
abbrev cX11_choices : ByteArray := prog_1_method_75_code
def yX11_choices : MethodName := ⟨RX11, "choices", "(II)I"⟩
def RX12 : String := "TenthBeanModel"
def TX12 : u_T := fun k => match k with
  | 0 => ("TenthBeanModel", "thrown", "I", false)
  | 1 => ("TenthBeanModel", "tape", "[I", true)
  | 2 => ("TenthBeanModel", "taped", "I", false)
  | 3 => ("TenthBeanModel", "size", "I", false)
  | 4 => ("TenthBeanModel", "at", "I", false)
  | 5 => ("TenthBeanModel", "end", "I", false)
  | 6 => ("TenthBeanModel", "token", "I", false)
  | 7 => ("TenthBeanModel", "whole", "I", false)
  | 8 => ("TenthBeanModel", "nameSize", "I", false)
  | 9 => ("TenthBeanModel", "fault", "I", false)
  | 10 => ("TenthBeanModel", "place", "I", false)
  | 11 => ("TenthBeanModel", "trouble", "I", false)
  | 12 => ("TenthBeanModel", "letters", "[I", true)
  | 13 => ("TenthBeanModel", "failed", "Z", false)
  | 14 => ("TenthBeanModel", "hasLegion", "Z", false)
  | 15 => ("TenthBeanModel", "\x72", "[I", true)
  | 16 => ("TenthBeanModel", "fresh", "[I", true)
  | 17 => ("TenthBeanModel", "st", "[I", true)
  | 18 => ("TenthBeanModel", "undone", "[I", true)
  | 19 => ("TenthBeanModel", "kept", "[I", true)
  | 20 => ("TenthBeanModel", "undos", "I", false)
  | 21 => ("TenthBeanModel", "images", "I", false)
  | 22 => ("TenthBeanModel", "fearNow", "I", false)
  | 23 => ("TenthBeanModel", "heartened", "I", false)
  | 24 => ("TenthBeanModel", "moreBraced", "I", false)
  | 25 => ("TenthBeanModel", "levels", "[I", true)
  | 26 => ("TenthBeanModel", "setMany", "J", false)
  | 27 => ("TenthBeanModel", "heldMany", "J", false)
  | 28 => ("TenthBeanModel", "mutinyMany", "J", false)
  | 29 => ("TenthBeanModel", "goodMany", "J", false)
  | 30 => ("TenthBeanModel", "runSum", "J", false)
  | 31 => ("TenthBeanModel", "mostRun", "I", false)
  | 32 => ("TenthBeanModel", "worstOf", "I", false)
  | 33 => ("TenthBeanModel", "startThen", "I", false)
  | 34 => ("TenthBeanModel", "goodUp", "J", false)
  | 35 => ("TenthBeanModel", "goodDown", "J", false)
  | 36 => ("TenthBeanModel", "put", "[I", true)
  | 37 => ("TenthBeanModel", "bestPut", "[I", true)
  | 38 => ("TenthBeanModel", "room", "[I", true)
  | 39 => ("TenthBeanModel", "fewestFriends", "I", false)
  | 40 => ("TenthBeanModel", "honestUp", "J", false)
  | 41 => ("TenthBeanModel", "honestDown", "J", false)
  | 42 => ("TenthBeanModel", "shakenUp", "J", false)
  | 43 => ("TenthBeanModel", "shakenDown", "J", false)
  | 44 => ("TenthBeanModel", "beansLeft", "I", false)
  | 45 => ("TenthBeanModel", "blackLeft", "I", false)
  | 46 => ("TenthBeanModel", "poolLeft", "I", false)
  | 47 => ("TenthBeanModel", "poolBlack", "I", false)
  | 48 => ("TenthBeanModel", "isAside", "Z", false)
  | 49 => ("TenthBeanModel", "firstRest", "I", false)
  | 50 => ("TenthBeanModel", "drawn", "I", false)
  | 51 => ("TenthBeanModel", "war", "[I", true)
  | 52 => ("TenthBeanModel", "drawnIn", "[I", true)
  | _ => ("TenthBeanModel", "heldWars", "I", false)
def tyX12 : Nat → FieldType := fun k => match k with
  | 0 => .int
  | 1 => .array .int
  | 2 => .int
  | 3 => .int
  | 4 => .int
  | 5 => .int
  | 6 => .int
  | 7 => .int
  | 8 => .int
  | 9 => .int
  | 10 => .int
  | 11 => .int
  | 12 => .array .int
  | 13 => .boolean
  | 14 => .boolean
  | 15 => .array .int
  | 16 => .array .int
  | 17 => .array .int
  | 18 => .array .int
  | 19 => .array .int
  | 20 => .int
  | 21 => .int
  | 22 => .int
  | 23 => .int
  | 24 => .int
  | 25 => .array .int
  | 26 => .long
  | 27 => .long
  | 28 => .long
  | 29 => .long
  | 30 => .long
  | 31 => .int
  | 32 => .int
  | 33 => .int
  | 34 => .long
  | 35 => .long
  | 36 => .array .int
  | 37 => .array .int
  | 38 => .array .int
  | 39 => .int
  | 40 => .long
  | 41 => .long
  | 42 => .long
  | 43 => .long
  | 44 => .int
  | 45 => .int
  | 46 => .int
  | 47 => .int
  | 48 => .boolean
  | 49 => .int
  | 50 => .int
  | 51 => .array .int
  | 52 => .array .int
  | _ => .int
abbrev wsX120 : List Cond := u_ws RX12 TX12 54
theorem nmX12 : ∀ a, a < 54 → ∀ b, b < 54 → a ≠ b → (TX12 a).2.1 ≠ (TX12 b).2.1 := by decide +kernel
theorem tyX12_ok : ∀ k, k < 54 → parseFieldDescriptor (TX12 k).2.2.1 = some (tyX12 k) := by decide +kernel
abbrev cX12_init : ByteArray := prog_14_method_1_code
def yX12_init : MethodName := ⟨RX12, "<init>", "()V"⟩
abbrev cX12_thrown : ByteArray := prog_14_method_2_code
def yX12_thrown : MethodName := ⟨RX12, "thrown", "()I"⟩
abbrev cX12_good : ByteArray := prog_14_method_3_code
def yX12_good : MethodName := ⟨RX12, "good", "()V"⟩
abbrev cX12_no : ByteArray := prog_14_method_4_code
def yX12_no : MethodName := ⟨RX12, "no", "(I)I"⟩
abbrev cX12_isNot : ByteArray := prog_14_method_5_code
def yX12_isNot : MethodName := ⟨RX12, "isNot", "(I)Z"⟩
abbrev cX12_in : ByteArray := prog_14_method_6_code
def yX12_in : MethodName := ⟨RX12, "in", "(III)Z"⟩
abbrev cX12_hasBit : ByteArray := prog_14_method_7_code
def yX12_hasBit : MethodName := ⟨RX12, "hasBit", "(II)Z"⟩
abbrev cX12_ones : ByteArray := prog_14_method_8_code
def yX12_ones : MethodName := ⟨RX12, "ones", "(I)I"⟩
abbrev cX12_copy : ByteArray := prog_14_method_9_code
def yX12_copy : MethodName := ⟨RX12, "copy", "([II[III)V"⟩
abbrev cX12_lowest : ByteArray := prog_14_method_10_code
def yX12_lowest : MethodName := ⟨RX12, "lowest", "(JJZ)J"⟩
abbrev cX12_feed : ByteArray := prog_14_method_11_code
def yX12_feed : MethodName := ⟨RX12, "feed", "(IIIII)I"⟩
abbrev cX12_look : ByteArray := prog_14_method_12_code
def yX12_look : MethodName := ⟨RX12, "look", "(I)I"⟩
abbrev cX12_isSmall : ByteArray := prog_14_method_13_code
def yX12_isSmall : MethodName := ⟨RX12, "isSmall", "(I)Z"⟩
abbrev cX12_isDigit : ByteArray := prog_14_method_14_code
def yX12_isDigit : MethodName := ⟨RX12, "isDigit", "(I)Z"⟩
abbrev cX12_goOn : ByteArray := prog_14_method_15_code
def yX12_goOn : MethodName := ⟨RX12, "goOn", "()V"⟩
abbrev cX12_bad : ByteArray := prog_14_method_16_code
def yX12_bad : MethodName := ⟨RX12, "bad", "(II)V"⟩
abbrev cX12_isWord : ByteArray := prog_14_method_17_code
def yX12_isWord : MethodName := ⟨RX12, "isWord", "(Ljava/lang/String;)Z"⟩
abbrev cX12_takesWord : ByteArray := prog_14_method_18_code
def yX12_takesWord : MethodName := ⟨RX12, "takesWord", "(Ljava/lang/String;)Z"⟩
abbrev cX12_must : ByteArray := prog_14_method_19_code
def yX12_must : MethodName := ⟨RX12, "must", "(Ljava/lang/String;)V"⟩
abbrev cX12_mustName : ByteArray := prog_14_method_20_code
def yX12_mustName : MethodName := ⟨RX12, "mustName", "()V"⟩
abbrev cX12_find : ByteArray := prog_14_method_21_code
def yX12_find : MethodName := ⟨RX12, "find", "()I"⟩
abbrev cX12_newName : ByteArray := prog_14_method_22_code
def yX12_newName : MethodName := ⟨RX12, "newName", "(I)V"⟩
abbrev cX12_named : ByteArray := prog_14_method_23_code
def yX12_named : MethodName := ⟨RX12, "named", "(II)I"⟩
abbrev cX12_manHere : ByteArray := prog_14_method_24_code
def yX12_manHere : MethodName := ⟨RX12, "manHere", "()I"⟩
abbrev cX12_manPassed : ByteArray := prog_14_method_25_code
def yX12_manPassed : MethodName := ⟨RX12, "manPassed", "()I"⟩
abbrev cX12_number : ByteArray := prog_14_method_26_code
def yX12_number : MethodName := ⟨RX12, "number", "(II)I"⟩
abbrev cX12_after : ByteArray := prog_14_method_27_code
def yX12_after : MethodName := ⟨RX12, "after", "(Ljava/lang/String;II)I"⟩
abbrev cX12_legion : ByteArray := prog_14_method_28_code
def yX12_legion : MethodName := ⟨RX12, "legion", "(I)I"⟩
abbrev cX12_begins : ByteArray := prog_14_method_29_code
def yX12_begins : MethodName := ⟨RX12, "begins", "(Ljava/lang/String;Z)Z"⟩
abbrev cX12_readLine : ByteArray := prog_14_method_30_code
def yX12_readLine : MethodName := ⟨RX12, "readLine", "()V"⟩
abbrev cX12_legionLine : ByteArray := prog_14_method_31_code
def yX12_legionLine : MethodName := ⟨RX12, "legionLine", "()V"⟩
abbrev cX12_tenLine : ByteArray := prog_14_method_32_code
def yX12_tenLine : MethodName := ⟨RX12, "tenLine", "()V"⟩
abbrev cX12_manLine : ByteArray := prog_14_method_33_code
def yX12_manLine : MethodName := ⟨RX12, "manLine", "()V"⟩
abbrev cX12_friendLine : ByteArray := prog_14_method_34_code
def yX12_friendLine : MethodName := ⟨RX12, "friendLine", "()V"⟩
abbrev cX12_helmetLine : ByteArray := prog_14_method_35_code
def yX12_helmetLine : MethodName := ⟨RX12, "helmetLine", "()V"⟩
abbrev cX12_drewBy : ByteArray := prog_14_method_36_code
def yX12_drewBy : MethodName := ⟨RX12, "drewBy", "([II)I"⟩
abbrev cX12_drewLine : ByteArray := prog_14_method_37_code
def yX12_drewLine : MethodName := ⟨RX12, "drewLine", "()V"⟩
abbrev cX12_goneLine : ByteArray := prog_14_method_38_code
def yX12_goneLine : MethodName := ⟨RX12, "goneLine", "()V"⟩
abbrev cX12_amongLine : ByteArray := prog_14_method_39_code
def yX12_amongLine : MethodName := ⟨RX12, "amongLine", "()V"⟩
abbrev cX12_fault : ByteArray := prog_14_method_40_code
def yX12_fault : MethodName := ⟨RX12, "fault", "()I"⟩
abbrev cX12_where : ByteArray := prog_14_method_41_code
def yX12_where : MethodName := ⟨RX12, "where", "()I"⟩
abbrev cX12_allMen : ByteArray := prog_14_method_42_code
def yX12_allMen : MethodName := ⟨RX12, "allMen", "()I"⟩
abbrev cX12_isMan : ByteArray := prog_14_method_43_code
def yX12_isMan : MethodName := ⟨RX12, "isMan", "(I)Z"⟩
abbrev cX12_isTen : ByteArray := prog_14_method_44_code
def yX12_isTen : MethodName := ⟨RX12, "isTen", "(I)Z"⟩
abbrev cX12_kindOf : ByteArray := prog_14_method_45_code
def yX12_kindOf : MethodName := ⟨RX12, "kindOf", "(I)I"⟩
abbrev cX12_asItIs : ByteArray := prog_14_method_46_code
def yX12_asItIs : MethodName := ⟨RX12, "asItIs", "()V"⟩
abbrev cX12_nerveOf : ByteArray := prog_14_method_47_code
def yX12_nerveOf : MethodName := ⟨RX12, "nerveOf", "([III)I"⟩
abbrev cX12_weightOf : ByteArray := prog_14_method_48_code
def yX12_weightOf : MethodName := ⟨RX12, "weightOf", "(I)I"⟩
abbrev cX12_runOf : ByteArray := prog_14_method_49_code
def yX12_runOf : MethodName := ⟨RX12, "runOf", "([III)I"⟩
abbrev cX12_doesHold : ByteArray := prog_14_method_50_code
def yX12_doesHold : MethodName := ⟨RX12, "doesHold", "([III)Z"⟩
abbrev cX12_inTen : ByteArray := prog_14_method_51_code
def yX12_inTen : MethodName := ⟨RX12, "inTen", "([III)I"⟩
abbrev cX12_beansOf : ByteArray := prog_14_method_52_code
def yX12_beansOf : MethodName := ⟨RX12, "beansOf", "([III)I"⟩
abbrev cX12_angerOf : ByteArray := prog_14_method_53_code
def yX12_angerOf : MethodName := ⟨RX12, "angerOf", "([II)I"⟩
abbrev cX12_isMutiny : ByteArray := prog_14_method_54_code
def yX12_isMutiny : MethodName := ⟨RX12, "isMutiny", "([II)Z"⟩
abbrev cX12_draws : ByteArray := prog_14_method_55_code
def yX12_draws : MethodName := ⟨RX12, "draws", "([IIII)V"⟩
abbrev cX12_man : ByteArray := prog_14_method_56_code
def yX12_man : MethodName := ⟨RX12, "man", "(II)I"⟩
abbrev cX12_ten : ByteArray := prog_14_method_57_code
def yX12_ten : MethodName := ⟨RX12, "ten", "(II)I"⟩
abbrev cX12_there : ByteArray := prog_14_method_58_code
def yX12_there : MethodName := ⟨RX12, "there", "()I"⟩
abbrev cX12_anger : ByteArray := prog_14_method_59_code
def yX12_anger : MethodName := ⟨RX12, "anger", "()I"⟩
abbrev cX12_mutiny : ByteArray := prog_14_method_60_code
def yX12_mutiny : MethodName := ⟨RX12, "mutiny", "()I"⟩
abbrev cX12_startWhy : ByteArray := prog_14_method_61_code
def yX12_startWhy : MethodName := ⟨RX12, "startWhy", "(I)I"⟩
abbrev cX12_runs : ByteArray := prog_14_method_62_code
def yX12_runs : MethodName := ⟨RX12, "runs", "(I)I"⟩
abbrev cX12_holds : ByteArray := prog_14_method_63_code
def yX12_holds : MethodName := ⟨RX12, "holds", "(I)I"⟩
abbrev cX12_worst : ByteArray := prog_14_method_64_code
def yX12_worst : MethodName := ⟨RX12, "worst", "()I"⟩
abbrev cX12_breaks : ByteArray := prog_14_method_65_code
def yX12_breaks : MethodName := ⟨RX12, "breaks", "()I"⟩
abbrev cX12_brace : ByteArray := prog_14_method_66_code
def yX12_brace : MethodName := ⟨RX12, "brace", "(I)I"⟩
abbrev cX12_toHearten : ByteArray := prog_14_method_67_code
def yX12_toHearten : MethodName := ⟨RX12, "toHearten", "(I)I"⟩
abbrev cX12_fearFor : ByteArray := prog_14_method_68_code
def yX12_fearFor : MethodName := ⟨RX12, "fearFor", "(I)I"⟩
abbrev cX12_begin : ByteArray := prog_14_method_69_code
def yX12_begin : MethodName := ⟨RX12, "begin", "(I)V"⟩
abbrev cX12_countsAt : ByteArray := prog_14_method_70_code
def yX12_countsAt : MethodName := ⟨RX12, "countsAt", "(II)V"⟩
abbrev cX12_tryLots : ByteArray := prog_14_method_71_code
def yX12_tryLots : MethodName := ⟨RX12, "tryLots", "(III)V"⟩
abbrev cX12_tryOne : ByteArray := prog_14_method_72_code
def yX12_tryOne : MethodName := ⟨RX12, "tryOne", "(II)V"⟩
abbrev cX12_tenWhy : ByteArray := prog_14_method_73_code
def yX12_tenWhy : MethodName := ⟨RX12, "tenWhy", "(I)I"⟩
abbrev cX12_lotWhy : ByteArray := prog_14_method_74_code
def yX12_lotWhy : MethodName := ⟨RX12, "lotWhy", "(II)I"⟩
abbrev cX12_sets : ByteArray := prog_14_method_75_code
def yX12_sets : MethodName := ⟨RX12, "sets", "(I)I"⟩
abbrev cX12_drawn : ByteArray := prog_14_method_76_code
def yX12_drawn : MethodName := ⟨RX12, "drawn", "(IZ)J"⟩
abbrev cX12_holdsAfter : ByteArray := prog_14_method_77_code
def yX12_holdsAfter : MethodName := ⟨RX12, "holdsAfter", "(IIZ)J"⟩
abbrev cX12_mutinyAfter : ByteArray := prog_14_method_78_code
def yX12_mutinyAfter : MethodName := ⟨RX12, "mutinyAfter", "(IZ)J"⟩
abbrev cX12_runsAfter : ByteArray := prog_14_method_79_code
def yX12_runsAfter : MethodName := ⟨RX12, "runsAfter", "(IIZ)J"⟩
abbrev cX12_worstSet : ByteArray := prog_14_method_80_code
def yX12_worstSet : MethodName := ⟨RX12, "worstSet", "(II)I"⟩
abbrev cX12_orderOf : ByteArray := prog_14_method_81_code
def yX12_orderOf : MethodName := ⟨RX12, "orderOf", "(I)I"⟩
abbrev cX12_order : ByteArray := prog_14_method_82_code
def yX12_order : MethodName := ⟨RX12, "order", "(I)I"⟩
abbrev cX12_orderOdds : ByteArray := prog_14_method_83_code
def yX12_orderOdds : MethodName := ⟨RX12, "orderOdds", "(IZ)J"⟩
abbrev cX12_tryTens : ByteArray := prog_14_method_84_code
def yX12_tryTens : MethodName := ⟨RX12, "tryTens", "(II)V"⟩
abbrev cX12_seekTens : ByteArray := prog_14_method_85_code
def yX12_seekTens : MethodName := ⟨RX12, "seekTens", "()I"⟩
abbrev cX12_friends : ByteArray := prog_14_method_86_code
def yX12_friends : MethodName := ⟨RX12, "friends", "()I"⟩
abbrev cX12_newTen : ByteArray := prog_14_method_87_code
def yX12_newTen : MethodName := ⟨RX12, "newTen", "(I)I"⟩
abbrev cX12_friendsNow : ByteArray := prog_14_method_88_code
def yX12_friendsNow : MethodName := ⟨RX12, "friendsNow", "()I"⟩
abbrev cX12_drawsBean : ByteArray := prog_14_method_89_code
def yX12_drawsBean : MethodName := ⟨RX12, "drawsBean", "(II)V"⟩
abbrev cX12_layHelmet : ByteArray := prog_14_method_90_code
def yX12_layHelmet : MethodName := ⟨RX12, "layHelmet", "(II)V"⟩
abbrev cX12_shakenPart : ByteArray := prog_14_method_91_code
def yX12_shakenPart : MethodName := ⟨RX12, "shakenPart", "()J"⟩
abbrev cX12_honestPart : ByteArray := prog_14_method_92_code
def yX12_honestPart : MethodName := ⟨RX12, "honestPart", "()J"⟩
abbrev cX12_doubtOf : ByteArray := prog_14_method_93_code
def yX12_doubtOf : MethodName := ⟨RX12, "doubtOf", "(Z)J"⟩
abbrev cX12_helmetWhy : ByteArray := prog_14_method_94_code
def yX12_helmetWhy : MethodName := ⟨RX12, "helmetWhy", "(IZ)I"⟩
abbrev cX12_doubt : ByteArray := prog_14_method_95_code
def yX12_doubt : MethodName := ⟨RX12, "doubt", "(Z)J"⟩
abbrev cX12_next : ByteArray := prog_14_method_96_code
def yX12_next : MethodName := ⟨RX12, "next", "(IZ)J"⟩
abbrev cX12_doubtIf : ByteArray := prog_14_method_97_code
def yX12_doubtIf : MethodName := ⟨RX12, "doubtIf", "(IZZ)J"⟩
abbrev cX12_honest : ByteArray := prog_14_method_98_code
def yX12_honest : MethodName := ⟨RX12, "honest", "(Z)J"⟩
abbrev cX12_doesFit : ByteArray := prog_14_method_99_code
def yX12_doesFit : MethodName := ⟨RX12, "doesFit", "(I)Z"⟩
abbrev cX12_fitting : ByteArray := prog_14_method_100_code
def yX12_fitting : MethodName := ⟨RX12, "fitting", "(I)I"⟩
abbrev cX12_goneWhy : ByteArray := prog_14_method_101_code
def yX12_goneWhy : MethodName := ⟨RX12, "goneWhy", "()I"⟩
abbrev cX12_gone : ByteArray := prog_14_method_102_code
def yX12_gone : MethodName := ⟨RX12, "gone", "()I"⟩
abbrev cX12_goneAt : ByteArray := prog_14_method_103_code
def yX12_goneAt : MethodName := ⟨RX12, "goneAt", "(I)I"⟩
abbrev cX12_goneOf : ByteArray := prog_14_method_104_code
def yX12_goneOf : MethodName := ⟨RX12, "goneOf", "(I)I"⟩
abbrev cX12_surelyGone : ByteArray := prog_14_method_105_code
def yX12_surelyGone : MethodName := ⟨RX12, "surelyGone", "()I"⟩
abbrev cX12_leavesOf : ByteArray := prog_14_method_106_code
def yX12_leavesOf : MethodName := ⟨RX12, "leavesOf", "(I)I"⟩
abbrev cX12_askOf : ByteArray := prog_14_method_107_code
def yX12_askOf : MethodName := ⟨RX12, "askOf", "()I"⟩
abbrev cX12_ask : ByteArray := prog_14_method_108_code
def yX12_ask : MethodName := ⟨RX12, "ask", "()I"⟩
abbrev cX12_askLeaves : ByteArray := prog_14_method_109_code
def yX12_askLeaves : MethodName := ⟨RX12, "askLeaves", "()I"⟩
abbrev cX12_lineOf : ByteArray := prog_14_method_110_code
def yX12_lineOf : MethodName := ⟨RX12, "lineOf", "(IZZ)I"⟩
abbrev cX12_dreadWhy : ByteArray := prog_14_method_111_code
def yX12_dreadWhy : MethodName := ⟨RX12, "dreadWhy", "(I)I"⟩
abbrev cX12_line : ByteArray := prog_14_method_112_code
def yX12_line : MethodName := ⟨RX12, "line", "(IZZZ)I"⟩
abbrev cX12_isRest : ByteArray := prog_14_method_113_code
def yX12_isRest : MethodName := ⟨RX12, "isRest", "(IZZ)Z"⟩
abbrev cX12_seekRests : ByteArray := prog_14_method_114_code
def yX12_seekRests : MethodName := ⟨RX12, "seekRests", "(I)I"⟩
abbrev cX12_rests : ByteArray := prog_14_method_115_code
def yX12_rests : MethodName := ⟨RX12, "rests", "(I)I"⟩
abbrev cX12_rest : ByteArray := prog_14_method_116_code
def yX12_rest : MethodName := ⟨RX12, "rest", "(I)I"⟩
abbrev cX12_nextDraw : ByteArray := prog_14_method_117_code
def yX12_nextDraw : MethodName := ⟨RX12, "nextDraw", "(I)I"⟩
abbrev cX12_kth : ByteArray := prog_14_method_118_code
def yX12_kth : MethodName := ⟨RX12, "kth", "(II)I"⟩
abbrev cX12_lotOf : ByteArray := prog_14_method_119_code
def yX12_lotOf : MethodName := ⟨RX12, "lotOf", "([II)I"⟩
abbrev cX12_warsWhy : ByteArray := prog_14_method_120_code
def yX12_warsWhy : MethodName := ⟨RX12, "warsWhy", "(ZII)I"⟩
abbrev cX12_wars : ByteArray := prog_14_method_121_code
def yX12_wars : MethodName := ⟨RX12, "wars", "(II)I"⟩
abbrev cX12_warsLeft : ByteArray := prog_14_method_122_code
def yX12_warsLeft : MethodName := ⟨RX12, "warsLeft", "(II)I"⟩
abbrev cX12_warsOf : ByteArray := prog_14_method_123_code
def yX12_warsOf : MethodName := ⟨RX12, "warsOf", "(III)I"⟩
abbrev cX12_note : ByteArray := prog_14_method_124_code
def yX12_note : MethodName := ⟨RX12, "note", "()V"⟩
abbrev cX12_lot : ByteArray := prog_14_method_125_code
def yX12_lot : MethodName := ⟨RX12, "lot", "(I)I"⟩
abbrev cX12_braces : ByteArray := prog_14_method_126_code
def yX12_braces : MethodName := ⟨RX12, "braces", "(IZ)Z"⟩
abbrev cX12_move : ByteArray := prog_14_method_127_code
def yX12_move : MethodName := ⟨RX12, "move", "(II)Z"⟩
abbrev cX12_seed : ByteArray := prog_14_method_128_code
def yX12_seed : MethodName := ⟨RX12, "seed", "(I)Z"⟩
abbrev cX12_undo : ByteArray := prog_14_method_129_code
def yX12_undo : MethodName := ⟨RX12, "undo", "()Z"⟩
abbrev cX12_image : ByteArray := prog_14_method_130_code
def yX12_image : MethodName := ⟨RX12, "image", "()I"⟩
abbrev cX12_back : ByteArray := prog_14_method_131_code
def yX12_back : MethodName := ⟨RX12, "back", "(I)Z"⟩
abbrev cX12_led : ByteArray := prog_14_method_132_code
def yX12_led : MethodName := ⟨RX12, "led", "(I)I"⟩
abbrev cX12_size : ByteArray := prog_14_method_133_code
def yX12_size : MethodName := ⟨RX12, "size", "(I)I"⟩
abbrev cX12_trouble : ByteArray := prog_14_method_134_code
def yX12_trouble : MethodName := ⟨RX12, "trouble", "()I"⟩
def RJx145de : String := "java/io/Serializable"
def TJx145de : u_T := fun k => match k with
  | _ => ("", "", "", false)
def tyJx145de : Nat → FieldType := fun k => match k with
  | _ => .int
abbrev wsJx145de0 : List Cond := u_ws RJx145de TJx145de 0
theorem nmJx145de : ∀ a, a < 0 → ∀ b, b < 0 → a ≠ b → (TJx145de a).2.1 ≠ (TJx145de b).2.1 := by decide +kernel
theorem tyJx145de_ok : ∀ k, k < 0 → parseFieldDescriptor (TJx145de k).2.2.1 = some (tyJx145de k) := by decide +kernel
def RJx9f9b0 : String := "java/lang/CharSequence"
def TJx9f9b0 : u_T := fun k => match k with
  | _ => ("", "", "", false)
def tyJx9f9b0 : Nat → FieldType := fun k => match k with
  | _ => .int
abbrev wsJx9f9b00 : List Cond := u_ws RJx9f9b0 TJx9f9b0 0
theorem nmJx9f9b0 : ∀ a, a < 0 → ∀ b, b < 0 → a ≠ b → (TJx9f9b0 a).2.1 ≠ (TJx9f9b0 b).2.1 := by decide +kernel
theorem tyJx9f9b0_ok : ∀ k, k < 0 → parseFieldDescriptor (TJx9f9b0 k).2.2.1 = some (tyJx9f9b0 k) := by decide +kernel
def RJxb160c : String := "java/lang/Comparable"
def TJxb160c : u_T := fun k => match k with
  | _ => ("", "", "", false)
def tyJxb160c : Nat → FieldType := fun k => match k with
  | _ => .int
abbrev wsJxb160c0 : List Cond := u_ws RJxb160c TJxb160c 0
theorem nmJxb160c : ∀ a, a < 0 → ∀ b, b < 0 → a ≠ b → (TJxb160c a).2.1 ≠ (TJxb160c b).2.1 := by decide +kernel
theorem tyJxb160c_ok : ∀ k, k < 0 → parseFieldDescriptor (TJxb160c k).2.2.1 = some (tyJxb160c k) := by decide +kernel
def RJ6 : String := "java/lang/Integer"
def TJ6 : u_T := fun k => match k with
  | _ => ("", "", "", false)
def tyJ6 : Nat → FieldType := fun k => match k with
  | _ => .int
abbrev wsJ60 : List Cond := u_ws RJ6 TJ6 0
theorem nmJ6 : ∀ a, a < 0 → ∀ b, b < 0 → a ≠ b → (TJ6 a).2.1 ≠ (TJ6 b).2.1 := by decide +kernel
theorem tyJ6_ok : ∀ k, k < 0 → parseFieldDescriptor (TJ6 k).2.2.1 = some (tyJ6 k) := by decide +kernel
abbrev cJ6_bitCount_0f7a4 : ByteArray := prog_19_method_49_code
def yJ6_bitCount_0f7a4 : MethodName := ⟨RJ6, "bitCount", "(I)I"⟩
def RJ9 : String := "java/lang/Math"
def TJ9 : u_T := fun k => match k with
  | _ => ("", "", "", false)
def tyJ9 : Nat → FieldType := fun k => match k with
  | _ => .int
abbrev wsJ90 : List Cond := u_ws RJ9 TJ9 0
theorem nmJ9 : ∀ a, a < 0 → ∀ b, b < 0 → a ≠ b → (TJ9 a).2.1 ≠ (TJ9 b).2.1 := by decide +kernel
theorem tyJ9_ok : ∀ k, k < 0 → parseFieldDescriptor (TJ9 k).2.2.1 = some (tyJ9 k) := by decide +kernel
abbrev cJ9_max_7cf53 : ByteArray := prog_20_method_65_code
def yJ9_max_7cf53 : MethodName := ⟨RJ9, "max", "(II)I"⟩
abbrev cJ9_min_7cf53 : ByteArray := prog_20_method_69_code
def yJ9_min_7cf53 : MethodName := ⟨RJ9, "min", "(II)I"⟩
def RJ0 : String := "java/lang/String"
def TJ0 : u_T := fun k => match k with
  | _ => ("", "", "", false)
def tyJ0 : Nat → FieldType := fun k => match k with
  | _ => .int
abbrev wsJ00 : List Cond := u_ws RJ0 TJ0 0
theorem nmJ0 : ∀ a, a < 0 → ∀ b, b < 0 → a ≠ b → (TJ0 a).2.1 ≠ (TJ0 b).2.1 := by decide +kernel
theorem tyJ0_ok : ∀ k, k < 0 → parseFieldDescriptor (TJ0 k).2.2.1 = some (tyJ0 k) := by decide +kernel
abbrev cJ0_length_8abf5 : ByteArray := prog_22_method_54_code
def yJ0_length_8abf5 : MethodName := ⟨RJ0, "length", "()I"⟩
abbrev cJ0_charAt_5068e : ByteArray := prog_22_method_56_code
def yJ0_charAt_5068e : MethodName := ⟨RJ0, "charAt", "(I)C"⟩
abbrev cJ0_coder_7d493 : ByteArray := prog_22_method_152_code
def yJ0_coder_7d493 : MethodName := ⟨RJ0, "coder", "()B"⟩
abbrev cJ0_isLatin1_aae02 : ByteArray := prog_22_method_154_code
def yJ0_isLatin1_aae02 : MethodName := ⟨RJ0, "isLatin1", "()Z"⟩
abbrev cJ0_checkIndex_df160 : ByteArray := prog_22_method_155_code
def yJ0_checkIndex_df160 : MethodName := ⟨RJ0, "checkIndex", "(II)V"⟩
def RJ1 : String := "java/lang/StringLatin1"
def TJ1 : u_T := fun k => match k with
  | _ => ("", "", "", false)
def tyJ1 : Nat → FieldType := fun k => match k with
  | _ => .int
abbrev wsJ10 : List Cond := u_ws RJ1 TJ1 0
theorem nmJ1 : ∀ a, a < 0 → ∀ b, b < 0 → a ≠ b → (TJ1 a).2.1 ≠ (TJ1 b).2.1 := by decide +kernel
theorem tyJ1_ok : ∀ k, k < 0 → parseFieldDescriptor (TJ1 k).2.2.1 = some (tyJ1 k) := by decide +kernel
abbrev cJ1_charAt_3b067 : ByteArray := prog_23_method_2_code
def yJ1_charAt_3b067 : MethodName := ⟨RJ1, "charAt", "([BI)C"⟩
def RJ2 : String := "java/lang/StringUTF16"
def TJ2 : u_T := fun k => match k with
  | _ => ("", "", "", false)
def tyJ2 : Nat → FieldType := fun k => match k with
  | _ => .int
abbrev wsJ20 : List Cond := u_ws RJ2 TJ2 0
theorem nmJ2 : ∀ a, a < 0 → ∀ b, b < 0 → a ≠ b → (TJ2 a).2.1 ≠ (TJ2 b).2.1 := by decide +kernel
theorem tyJ2_ok : ∀ k, k < 0 → parseFieldDescriptor (TJ2 k).2.2.1 = some (tyJ2 k) := by decide +kernel
abbrev cJ2_getChar_3b067 : ByteArray := prog_24_method_5_code
def yJ2_getChar_3b067 : MethodName := ⟨RJ2, "getChar", "([BI)C"⟩
abbrev cJ2_length_9d52b : ByteArray := prog_24_method_6_code
def yJ2_length_9d52b : MethodName := ⟨RJ2, "length", "([B)I"⟩
abbrev cJ2_charAt_3b067 : ByteArray := prog_24_method_83_code
def yJ2_charAt_3b067 : MethodName := ⟨RJ2, "charAt", "([BI)C"⟩
abbrev cJ2_checkIndex_2214a : ByteArray := prog_24_method_91_code
def yJ2_checkIndex_2214a : MethodName := ⟨RJ2, "checkIndex", "(I[B)V"⟩
def RJ10 : String := "java/lang/System"
def TJ10 : u_T := fun k => match k with
  | _ => ("", "", "", false)
def tyJ10 : Nat → FieldType := fun k => match k with
  | _ => .int
abbrev wsJ100 : List Cond := u_ws RJ10 TJ10 0
theorem nmJ10 : ∀ a, a < 0 → ∀ b, b < 0 → a ≠ b → (TJ10 a).2.1 ≠ (TJ10 b).2.1 := by decide +kernel
theorem tyJ10_ok : ∀ k, k < 0 → parseFieldDescriptor (TJ10 k).2.2.1 = some (tyJ10 k) := by decide +kernel
def RJxfd54e : String := "java/lang/constant/Constable"
def TJxfd54e : u_T := fun k => match k with
  | _ => ("", "", "", false)
def tyJxfd54e : Nat → FieldType := fun k => match k with
  | _ => .int
abbrev wsJxfd54e0 : List Cond := u_ws RJxfd54e TJxfd54e 0
theorem nmJxfd54e : ∀ a, a < 0 → ∀ b, b < 0 → a ≠ b → (TJxfd54e a).2.1 ≠ (TJxfd54e b).2.1 := by decide +kernel
theorem tyJxfd54e_ok : ∀ k, k < 0 → parseFieldDescriptor (TJxfd54e k).2.2.1 = some (tyJxfd54e k) := by decide +kernel
def RJx3cf43 : String := "java/lang/constant/ConstantDesc"
def TJx3cf43 : u_T := fun k => match k with
  | _ => ("", "", "", false)
def tyJx3cf43 : Nat → FieldType := fun k => match k with
  | _ => .int
abbrev wsJx3cf430 : List Cond := u_ws RJx3cf43 TJx3cf43 0
theorem nmJx3cf43 : ∀ a, a < 0 → ∀ b, b < 0 → a ≠ b → (TJx3cf43 a).2.1 ≠ (TJx3cf43 b).2.1 := by decide +kernel
theorem tyJx3cf43_ok : ∀ k, k < 0 → parseFieldDescriptor (TJx3cf43 k).2.2.1 = some (tyJx3cf43 k) := by decide +kernel
def RJ3 : String := "jdk/internal/util/Preconditions"
def TJ3 : u_T := fun k => match k with
  | _ => ("", "", "", false)
def tyJ3 : Nat → FieldType := fun k => match k with
  | _ => .int
abbrev wsJ30 : List Cond := u_ws RJ3 TJ3 0
theorem nmJ3 : ∀ a, a < 0 → ∀ b, b < 0 → a ≠ b → (TJ3 a).2.1 ≠ (TJ3 b).2.1 := by decide +kernel
theorem tyJ3_ok : ∀ k, k < 0 → parseFieldDescriptor (TJ3 k).2.2.1 = some (tyJ3 k) := by decide +kernel
abbrev cJ3_checkIndex_8e157 : ByteArray := prog_30_method_11_code
def yJ3_checkIndex_8e157 : MethodName := ⟨RJ3, "checkIndex", "(IILjava/util/function/BiFunction;)I"⟩
def RL : String := "TenthBeanLaw"
abbrev cL_led : ByteArray := method_3_code
def yL_led : MethodName := ⟨RL, "led", "(LTenthBean;I[J)I"⟩
abbrev cL_law : ByteArray := code
def yL_law : MethodName := ⟨RL, "law", "([I)Z"⟩
