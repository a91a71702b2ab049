section
-- ===== PART A: goes FIRST, ahead of the names: the tables' words, and 'selects' of the private methods out of them =====
/-- a private method of a class that the tables say can be made, by its rows of tables_1 -/
def lw_okq (q : MethodName × Nat) : Prop := (q.1.cls ≠ "java/lang/invoke/MethodHandle" ∧ q.1.cls ≠ "java/lang/invoke/VarHandle") ∧ Cond.instantiable q.1.cls q.2 ∈ tables_1 ∧ Cond.privateMethod q.1 ∈ tables_1 ∧ Cond.instanceMethod q.1 ∈ tables_1
theorem lw_p0 : lw_okq (⟨"BoredKings$Court", "readNumbers", "(LBoredKings$Script;II)I"⟩, 7) := ⟨⟨by decide +kernel, by decide +kernel⟩, List.mem_of_getElem? (i := 44) (by decide +kernel), List.mem_of_getElem? (i := 304) (by decide +kernel), List.mem_of_getElem? (i := 305) (by decide +kernel)⟩
theorem lw_p1 : lw_okq (⟨"BoredKings$Court", "takes", "(I)Z"⟩, 7) := ⟨⟨by decide +kernel, by decide +kernel⟩, List.mem_of_getElem? (i := 44) (by decide +kernel), List.mem_of_getElem? (i := 321) (by decide +kernel), List.mem_of_getElem? (i := 322) (by decide +kernel)⟩
theorem lw_p2 : lw_okq (⟨"BoredKings$Court", "takesPerson", "(III)Z"⟩, 7) := ⟨⟨by decide +kernel, by decide +kernel⟩, List.mem_of_getElem? (i := 44) (by decide +kernel), List.mem_of_getElem? (i := 325) (by decide +kernel), List.mem_of_getElem? (i := 326) (by decide +kernel)⟩
theorem lw_p3 : lw_okq (⟨"BoredKings$Court", "takesThing", "(III)Z"⟩, 7) := ⟨⟨by decide +kernel, by decide +kernel⟩, List.mem_of_getElem? (i := 44) (by decide +kernel), List.mem_of_getElem? (i := 329) (by decide +kernel), List.mem_of_getElem? (i := 330) (by decide +kernel)⟩
theorem lw_p4 : lw_okq (⟨"BoredKings$Court", "takesFade", "(I)Z"⟩, 7) := ⟨⟨by decide +kernel, by decide +kernel⟩, List.mem_of_getElem? (i := 44) (by decide +kernel), List.mem_of_getElem? (i := 343) (by decide +kernel), List.mem_of_getElem? (i := 344) (by decide +kernel)⟩
theorem lw_p5 : lw_okq (⟨"BoredKings", "isPerson", "(I)Z"⟩, 10) := ⟨⟨by decide +kernel, by decide +kernel⟩, List.mem_of_getElem? (i := 20) (by decide +kernel), List.mem_of_getElem? (i := 424) (by decide +kernel), List.mem_of_getElem? (i := 425) (by decide +kernel)⟩
theorem lw_p6 : lw_okq (⟨"BoredKings", "placeOf", "(I)I"⟩, 10) := ⟨⟨by decide +kernel, by decide +kernel⟩, List.mem_of_getElem? (i := 20) (by decide +kernel), List.mem_of_getElem? (i := 428) (by decide +kernel), List.mem_of_getElem? (i := 429) (by decide +kernel)⟩
theorem lw_p7 : lw_okq (⟨"BoredKings", "isThing", "(I)Z"⟩, 10) := ⟨⟨by decide +kernel, by decide +kernel⟩, List.mem_of_getElem? (i := 20) (by decide +kernel), List.mem_of_getElem? (i := 436) (by decide +kernel), List.mem_of_getElem? (i := 437) (by decide +kernel)⟩
theorem lw_p8 : lw_okq (⟨"BoredKings$Shelf", "placeBehind", "(I)LBoredKings$Moment;"⟩, 3) := ⟨⟨by decide +kernel, by decide +kernel⟩, List.mem_of_getElem? (i := 145) (by decide +kernel), List.mem_of_getElem? (i := 452) (by decide +kernel), List.mem_of_getElem? (i := 453) (by decide +kernel)⟩
theorem lw_p9 : lw_okq (⟨"BoredKings", "lookAhead", "(I)V"⟩, 10) := ⟨⟨by decide +kernel, by decide +kernel⟩, List.mem_of_getElem? (i := 20) (by decide +kernel), List.mem_of_getElem? (i := 463) (by decide +kernel), List.mem_of_getElem? (i := 464) (by decide +kernel)⟩
theorem lw_p10 : lw_okq (⟨"BoredKings$Outlook", "isLookedAt", "(I)Z"⟩, 7) := ⟨⟨by decide +kernel, by decide +kernel⟩, List.mem_of_getElem? (i := 185) (by decide +kernel), List.mem_of_getElem? (i := 475) (by decide +kernel), List.mem_of_getElem? (i := 476) (by decide +kernel)⟩
theorem lw_p11 : lw_okq (⟨"BoredKings$Outlook", "gainBy", "(IIII)I"⟩, 7) := ⟨⟨by decide +kernel, by decide +kernel⟩, List.mem_of_getElem? (i := 185) (by decide +kernel), List.mem_of_getElem? (i := 486) (by decide +kernel), List.mem_of_getElem? (i := 487) (by decide +kernel)⟩
theorem lw_p12 : lw_okq (⟨"BoredKings$Reign", "change", "()V"⟩, 5) := ⟨⟨by decide +kernel, by decide +kernel⟩, List.mem_of_getElem? (i := 213) (by decide +kernel), List.mem_of_getElem? (i := 536) (by decide +kernel), List.mem_of_getElem? (i := 537) (by decide +kernel)⟩
theorem lw_p13 : lw_okq (⟨"BoredKings", "firstBell", "()I"⟩, 10) := ⟨⟨by decide +kernel, by decide +kernel⟩, List.mem_of_getElem? (i := 20) (by decide +kernel), List.mem_of_getElem? (i := 574) (by decide +kernel), List.mem_of_getElem? (i := 575) (by decide +kernel)⟩
theorem lw_p14 : lw_okq (⟨"BoredKings", "staysWithout", "(II)Z"⟩, 10) := ⟨⟨by decide +kernel, by decide +kernel⟩, List.mem_of_getElem? (i := 20) (by decide +kernel), List.mem_of_getElem? (i := 586) (by decide +kernel), List.mem_of_getElem? (i := 587) (by decide +kernel)⟩
theorem lw_p15 : lw_okq (⟨"BoredKings", "firstReignOf", "(I)I"⟩, 10) := ⟨⟨by decide +kernel, by decide +kernel⟩, List.mem_of_getElem? (i := 20) (by decide +kernel), List.mem_of_getElem? (i := 600) (by decide +kernel), List.mem_of_getElem? (i := 601) (by decide +kernel)⟩
def lw_privs_1 : List (MethodName × Nat) := [(⟨"BoredKings$Court", "readNumbers", "(LBoredKings$Script;II)I"⟩, 7), (⟨"BoredKings$Court", "takes", "(I)Z"⟩, 7), (⟨"BoredKings$Court", "takesPerson", "(III)Z"⟩, 7), (⟨"BoredKings$Court", "takesThing", "(III)Z"⟩, 7), (⟨"BoredKings$Court", "takesFade", "(I)Z"⟩, 7), (⟨"BoredKings", "isPerson", "(I)Z"⟩, 10), (⟨"BoredKings", "placeOf", "(I)I"⟩, 10), (⟨"BoredKings", "isThing", "(I)Z"⟩, 10), (⟨"BoredKings$Shelf", "placeBehind", "(I)LBoredKings$Moment;"⟩, 3), (⟨"BoredKings", "lookAhead", "(I)V"⟩, 10), (⟨"BoredKings$Outlook", "isLookedAt", "(I)Z"⟩, 7), (⟨"BoredKings$Outlook", "gainBy", "(IIII)I"⟩, 7), (⟨"BoredKings$Reign", "change", "()V"⟩, 5), (⟨"BoredKings", "firstBell", "()I"⟩, 10), (⟨"BoredKings", "staysWithout", "(II)Z"⟩, 10), (⟨"BoredKings", "firstReignOf", "(I)I"⟩, 10)]
theorem lw_r1 : ∀ q ∈ lw_privs_1, lw_okq q := List.forall_mem_cons.mpr ⟨lw_p0, List.forall_mem_cons.mpr ⟨lw_p1, List.forall_mem_cons.mpr ⟨lw_p2, List.forall_mem_cons.mpr ⟨lw_p3, List.forall_mem_cons.mpr ⟨lw_p4, List.forall_mem_cons.mpr ⟨lw_p5, List.forall_mem_cons.mpr ⟨lw_p6, List.forall_mem_cons.mpr ⟨lw_p7, List.forall_mem_cons.mpr ⟨lw_p8, List.forall_mem_cons.mpr ⟨lw_p9, List.forall_mem_cons.mpr ⟨lw_p10, List.forall_mem_cons.mpr ⟨lw_p11, List.forall_mem_cons.mpr ⟨lw_p12, List.forall_mem_cons.mpr ⟨lw_p13, List.forall_mem_cons.mpr ⟨lw_p14, List.forall_mem_cons.mpr ⟨lw_p15, fun _ h => absurd h List.not_mem_nil⟩⟩⟩⟩⟩⟩⟩⟩⟩⟩⟩⟩⟩⟩⟩⟩
theorem lw_p16 : lw_okq (⟨"BoredKings$Outlook", "addTimes", "(IIII)V"⟩, 7) := ⟨⟨by decide +kernel, by decide +kernel⟩, List.mem_of_getElem? (i := 185) (by decide +kernel), List.mem_of_getElem? (i := 608) (by decide +kernel), List.mem_of_getElem? (i := 609) (by decide +kernel)⟩
theorem lw_p17 : lw_okq (⟨"BoredKings", "bellsInOrder", "(II)I"⟩, 10) := ⟨⟨by decide +kernel, by decide +kernel⟩, List.mem_of_getElem? (i := 20) (by decide +kernel), List.mem_of_getElem? (i := 625) (by decide +kernel), List.mem_of_getElem? (i := 626) (by decide +kernel)⟩
theorem lw_p18 : lw_okq (⟨"BoredKings$Reign", "sortDown", "(II)V"⟩, 5) := ⟨⟨by decide +kernel, by decide +kernel⟩, List.mem_of_getElem? (i := 213) (by decide +kernel), List.mem_of_getElem? (i := 642) (by decide +kernel), List.mem_of_getElem? (i := 643) (by decide +kernel)⟩
theorem lw_p19 : lw_okq (⟨"BoredKings$Reign", "swap", "(II)V"⟩, 5) := ⟨⟨by decide +kernel, by decide +kernel⟩, List.mem_of_getElem? (i := 213) (by decide +kernel), List.mem_of_getElem? (i := 647) (by decide +kernel), List.mem_of_getElem? (i := 648) (by decide +kernel)⟩
theorem lw_p20 : lw_okq (⟨"BoredKings", "wasSo", "()Z"⟩, 10) := ⟨⟨by decide +kernel, by decide +kernel⟩, List.mem_of_getElem? (i := 20) (by decide +kernel), List.mem_of_getElem? (i := 672) (by decide +kernel), List.mem_of_getElem? (i := 673) (by decide +kernel)⟩
theorem lw_p21 : lw_okq (⟨"BoredKings", "staysWith", "(IIII)Z"⟩, 10) := ⟨⟨by decide +kernel, by decide +kernel⟩, List.mem_of_getElem? (i := 20) (by decide +kernel), List.mem_of_getElem? (i := 693) (by decide +kernel), List.mem_of_getElem? (i := 694) (by decide +kernel)⟩
theorem lw_p22 : lw_okq (⟨"BoredKingsModel", "clearTold", "()V"⟩, 24) := ⟨⟨by decide +kernel, by decide +kernel⟩, List.mem_of_getElem? (i := 737) (by decide +kernel), List.mem_of_getElem? (i := 743) (by decide +kernel), List.mem_of_getElem? (i := 744) (by decide +kernel)⟩
theorem lw_p23 : lw_okq (⟨"BoredKingsModel", "tellsPerson", "(III)V"⟩, 24) := ⟨⟨by decide +kernel, by decide +kernel⟩, List.mem_of_getElem? (i := 737) (by decide +kernel), List.mem_of_getElem? (i := 747) (by decide +kernel), List.mem_of_getElem? (i := 748) (by decide +kernel)⟩
theorem lw_p24 : lw_okq (⟨"BoredKingsModel", "settles", "()V"⟩, 24) := ⟨⟨by decide +kernel, by decide +kernel⟩, List.mem_of_getElem? (i := 737) (by decide +kernel), List.mem_of_getElem? (i := 754) (by decide +kernel), List.mem_of_getElem? (i := 755) (by decide +kernel)⟩
theorem lw_p25 : lw_okq (⟨"BoredKingsModel", "readItem", "()Z"⟩, 24) := ⟨⟨by decide +kernel, by decide +kernel⟩, List.mem_of_getElem? (i := 737) (by decide +kernel), List.mem_of_getElem? (i := 849) (by decide +kernel), List.mem_of_getElem? (i := 850) (by decide +kernel)⟩
theorem lw_p26 : lw_okq (⟨"BoredKingsModel", "letterAt", "(I)I"⟩, 24) := ⟨⟨by decide +kernel, by decide +kernel⟩, List.mem_of_getElem? (i := 737) (by decide +kernel), List.mem_of_getElem? (i := 853) (by decide +kernel), List.mem_of_getElem? (i := 854) (by decide +kernel)⟩
theorem lw_p27 : lw_okq (⟨"BoredKingsModel", "readPersonOf", "()Z"⟩, 24) := ⟨⟨by decide +kernel, by decide +kernel⟩, List.mem_of_getElem? (i := 737) (by decide +kernel), List.mem_of_getElem? (i := 857) (by decide +kernel), List.mem_of_getElem? (i := 858) (by decide +kernel)⟩
theorem lw_p28 : lw_okq (⟨"BoredKingsModel", "readNumbers", "(I)Z"⟩, 24) := ⟨⟨by decide +kernel, by decide +kernel⟩, List.mem_of_getElem? (i := 737) (by decide +kernel), List.mem_of_getElem? (i := 861) (by decide +kernel), List.mem_of_getElem? (i := 862) (by decide +kernel)⟩
theorem lw_p29 : lw_okq (⟨"BoredKingsModel", "isTold", "(III)Z"⟩, 24) := ⟨⟨by decide +kernel, by decide +kernel⟩, List.mem_of_getElem? (i := 737) (by decide +kernel), List.mem_of_getElem? (i := 868) (by decide +kernel), List.mem_of_getElem? (i := 869) (by decide +kernel)⟩
theorem lw_p30 : lw_okq (⟨"BoredKingsModel", "readThingOf", "()Z"⟩, 24) := ⟨⟨by decide +kernel, by decide +kernel⟩, List.mem_of_getElem? (i := 737) (by decide +kernel), List.mem_of_getElem? (i := 872) (by decide +kernel), List.mem_of_getElem? (i := 873) (by decide +kernel)⟩
theorem lw_p31 : lw_okq (⟨"BoredKingsModel", "readFadesOf", "()Z"⟩, 24) := ⟨⟨by decide +kernel, by decide +kernel⟩, List.mem_of_getElem? (i := 737) (by decide +kernel), List.mem_of_getElem? (i := 876) (by decide +kernel), List.mem_of_getElem? (i := 877) (by decide +kernel)⟩
def lw_privs_2 : List (MethodName × Nat) := [(⟨"BoredKings$Outlook", "addTimes", "(IIII)V"⟩, 7), (⟨"BoredKings", "bellsInOrder", "(II)I"⟩, 10), (⟨"BoredKings$Reign", "sortDown", "(II)V"⟩, 5), (⟨"BoredKings$Reign", "swap", "(II)V"⟩, 5), (⟨"BoredKings", "wasSo", "()Z"⟩, 10), (⟨"BoredKings", "staysWith", "(IIII)Z"⟩, 10), (⟨"BoredKingsModel", "clearTold", "()V"⟩, 24), (⟨"BoredKingsModel", "tellsPerson", "(III)V"⟩, 24), (⟨"BoredKingsModel", "settles", "()V"⟩, 24), (⟨"BoredKingsModel", "readItem", "()Z"⟩, 24), (⟨"BoredKingsModel", "letterAt", "(I)I"⟩, 24), (⟨"BoredKingsModel", "readPersonOf", "()Z"⟩, 24), (⟨"BoredKingsModel", "readNumbers", "(I)Z"⟩, 24), (⟨"BoredKingsModel", "isTold", "(III)Z"⟩, 24), (⟨"BoredKingsModel", "readThingOf", "()Z"⟩, 24), (⟨"BoredKingsModel", "readFadesOf", "()Z"⟩, 24)]
theorem lw_r2 : ∀ q ∈ lw_privs_2, lw_okq q := List.forall_mem_cons.mpr ⟨lw_p16, List.forall_mem_cons.mpr ⟨lw_p17, List.forall_mem_cons.mpr ⟨lw_p18, List.forall_mem_cons.mpr ⟨lw_p19, List.forall_mem_cons.mpr ⟨lw_p20, List.forall_mem_cons.mpr ⟨lw_p21, List.forall_mem_cons.mpr ⟨lw_p22, List.forall_mem_cons.mpr ⟨lw_p23, List.forall_mem_cons.mpr ⟨lw_p24, List.forall_mem_cons.mpr ⟨lw_p25, List.forall_mem_cons.mpr ⟨lw_p26, List.forall_mem_cons.mpr ⟨lw_p27, List.forall_mem_cons.mpr ⟨lw_p28, List.forall_mem_cons.mpr ⟨lw_p29, List.forall_mem_cons.mpr ⟨lw_p30, List.forall_mem_cons.mpr ⟨lw_p31, fun _ h => absurd h List.not_mem_nil⟩⟩⟩⟩⟩⟩⟩⟩⟩⟩⟩⟩⟩⟩⟩⟩
theorem lw_p32 : lw_okq (⟨"BoredKingsModel", "isPerson", "(I)Z"⟩, 24) := ⟨⟨by decide +kernel, by decide +kernel⟩, List.mem_of_getElem? (i := 737) (by decide +kernel), List.mem_of_getElem? (i := 889) (by decide +kernel), List.mem_of_getElem? (i := 890) (by decide +kernel)⟩
theorem lw_p33 : lw_okq (⟨"BoredKingsModel", "isThing", "(I)Z"⟩, 24) := ⟨⟨by decide +kernel, by decide +kernel⟩, List.mem_of_getElem? (i := 737) (by decide +kernel), List.mem_of_getElem? (i := 897) (by decide +kernel), List.mem_of_getElem? (i := 898) (by decide +kernel)⟩
theorem lw_p34 : lw_okq (⟨"BoredKingsModel", "remembers", "()V"⟩, 24) := ⟨⟨by decide +kernel, by decide +kernel⟩, List.mem_of_getElem? (i := 737) (by decide +kernel), List.mem_of_getElem? (i := 905) (by decide +kernel), List.mem_of_getElem? (i := 906) (by decide +kernel)⟩
theorem lw_p35 : lw_okq (⟨"BoredKingsModel", "from", "([I)V"⟩, 24) := ⟨⟨by decide +kernel, by decide +kernel⟩, List.mem_of_getElem? (i := 737) (by decide +kernel), List.mem_of_getElem? (i := 909) (by decide +kernel), List.mem_of_getElem? (i := 910) (by decide +kernel)⟩
theorem lw_p36 : lw_okq (⟨"BoredKingsModel", "goesOn", "(I)I"⟩, 24) := ⟨⟨by decide +kernel, by decide +kernel⟩, List.mem_of_getElem? (i := 737) (by decide +kernel), List.mem_of_getElem? (i := 913) (by decide +kernel), List.mem_of_getElem? (i := 914) (by decide +kernel)⟩
theorem lw_p37 : lw_okq (⟨"BoredKingsModel", "goes", "()Z"⟩, 24) := ⟨⟨by decide +kernel, by decide +kernel⟩, List.mem_of_getElem? (i := 737) (by decide +kernel), List.mem_of_getElem? (i := 917) (by decide +kernel), List.mem_of_getElem? (i := 918) (by decide +kernel)⟩
theorem lw_p38 : lw_okq (⟨"BoredKingsModel", "comes", "(II)I"⟩, 24) := ⟨⟨by decide +kernel, by decide +kernel⟩, List.mem_of_getElem? (i := 737) (by decide +kernel), List.mem_of_getElem? (i := 921) (by decide +kernel), List.mem_of_getElem? (i := 922) (by decide +kernel)⟩
theorem lw_p39 : lw_okq (⟨"BoredKingsModel", "comesBy", "(IIII)I"⟩, 24) := ⟨⟨by decide +kernel, by decide +kernel⟩, List.mem_of_getElem? (i := 737) (by decide +kernel), List.mem_of_getElem? (i := 928) (by decide +kernel), List.mem_of_getElem? (i := 929) (by decide +kernel)⟩
theorem lw_p40 : lw_okq (⟨"BoredKingsModel", "isEnough", "(II)Z"⟩, 24) := ⟨⟨by decide +kernel, by decide +kernel⟩, List.mem_of_getElem? (i := 737) (by decide +kernel), List.mem_of_getElem? (i := 935) (by decide +kernel), List.mem_of_getElem? (i := 936) (by decide +kernel)⟩
theorem lw_p41 : lw_okq (⟨"BoredKingsModel", "firstBell", "()I"⟩, 24) := ⟨⟨by decide +kernel, by decide +kernel⟩, List.mem_of_getElem? (i := 737) (by decide +kernel), List.mem_of_getElem? (i := 959) (by decide +kernel), List.mem_of_getElem? (i := 960) (by decide +kernel)⟩
theorem lw_p42 : lw_okq (⟨"BoredKingsModel", "reignsOn", "(I)I"⟩, 24) := ⟨⟨by decide +kernel, by decide +kernel⟩, List.mem_of_getElem? (i := 737) (by decide +kernel), List.mem_of_getElem? (i := 971) (by decide +kernel), List.mem_of_getElem? (i := 972) (by decide +kernel)⟩
theorem lw_p43 : lw_okq (⟨"BoredKingsModel", "isOrder", "(I)Z"⟩, 24) := ⟨⟨by decide +kernel, by decide +kernel⟩, List.mem_of_getElem? (i := 737) (by decide +kernel), List.mem_of_getElem? (i := 979) (by decide +kernel), List.mem_of_getElem? (i := 980) (by decide +kernel)⟩
def lw_privs_3 : List (MethodName × Nat) := [(⟨"BoredKingsModel", "isPerson", "(I)Z"⟩, 24), (⟨"BoredKingsModel", "isThing", "(I)Z"⟩, 24), (⟨"BoredKingsModel", "remembers", "()V"⟩, 24), (⟨"BoredKingsModel", "from", "([I)V"⟩, 24), (⟨"BoredKingsModel", "goesOn", "(I)I"⟩, 24), (⟨"BoredKingsModel", "goes", "()Z"⟩, 24), (⟨"BoredKingsModel", "comes", "(II)I"⟩, 24), (⟨"BoredKingsModel", "comesBy", "(IIII)I"⟩, 24), (⟨"BoredKingsModel", "isEnough", "(II)Z"⟩, 24), (⟨"BoredKingsModel", "firstBell", "()I"⟩, 24), (⟨"BoredKingsModel", "reignsOn", "(I)I"⟩, 24), (⟨"BoredKingsModel", "isOrder", "(I)Z"⟩, 24)]
theorem lw_r3 : ∀ q ∈ lw_privs_3, lw_okq q := List.forall_mem_cons.mpr ⟨lw_p32, List.forall_mem_cons.mpr ⟨lw_p33, List.forall_mem_cons.mpr ⟨lw_p34, List.forall_mem_cons.mpr ⟨lw_p35, List.forall_mem_cons.mpr ⟨lw_p36, List.forall_mem_cons.mpr ⟨lw_p37, List.forall_mem_cons.mpr ⟨lw_p38, List.forall_mem_cons.mpr ⟨lw_p39, List.forall_mem_cons.mpr ⟨lw_p40, List.forall_mem_cons.mpr ⟨lw_p41, List.forall_mem_cons.mpr ⟨lw_p42, List.forall_mem_cons.mpr ⟨lw_p43, fun _ h => absurd h List.not_mem_nil⟩⟩⟩⟩⟩⟩⟩⟩⟩⟩⟩⟩
def lw_privs : List (MethodName × Nat) := lw_privs_1 ++ (lw_privs_2 ++ (lw_privs_3))
def lw_tbl : List Cond := k2_sels lw_privs ++ tables_1
theorem lw_privs_ok : ∀ q ∈ lw_privs, lw_okq q := by
  show ∀ q ∈ lw_privs_1 ++ (lw_privs_2 ++ (lw_privs_3)), lw_okq q
  exact List.forall_mem_append.mpr ⟨lw_r1, List.forall_mem_append.mpr ⟨lw_r2, lw_r3⟩⟩
end
section
def RX0 : String := "BoredKings$Court"
def TX0 : u_T := fun k => match k with
  | 0 => ("BoredKings$Court", "kind", "[I", true)
  | 1 => ("BoredKings$Court", "taste", "[I", true)
  | 2 => ("BoredKings$Court", "stands", "[I", true)
  | 3 => ("BoredKings$Court", "persons", "I", false)
  | 4 => ("BoredKings$Court", "things", "LBoredKings$Things;", true)
  | 5 => ("BoredKings$Court", "fade", "I", false)
  | _ => ("BoredKings$Court", "numbers", "[I", true)
def tyX0 : Nat → FieldType := fun k => match k with
  | 0 => .array .int
  | 1 => .array .int
  | 2 => .array .int
  | 3 => .int
  | 4 => .object "BoredKings$Things"
  | 5 => .int
  | _ => .array .int
abbrev wsX00 : List Cond := u_ws RX0 TX0 7
theorem nmX0 : ∀ a, a < 7 → ∀ b, b < 7 → a ≠ b → (TX0 a).2.1 ≠ (TX0 b).2.1 := by decide +kernel
theorem tyX0_ok : ∀ k, k < 7 → parseFieldDescriptor (TX0 k).2.2.1 = some (tyX0 k) := by decide +kernel
abbrev cX0_init : ByteArray := prog_2_method_1_code
def yX0_init : MethodName := ⟨RX0, "<init>", "()V"⟩
abbrev cX0_read : ByteArray := prog_2_method_2_code
def yX0_read : MethodName := ⟨RX0, "read", "(LBoredKings$Script;)I"⟩
abbrev cX0_numbersOf : ByteArray := prog_2_method_3_code
def yX0_numbersOf : MethodName := ⟨RX0, "numbersOf", "(I)I"⟩
abbrev cX0_readNumbers : ByteArray := prog_2_method_4_code
def yX0_readNumbers : MethodName := ⟨RX0, "readNumbers", "(LBoredKings$Script;II)I"⟩
abbrev cX0_takes : ByteArray := prog_2_method_5_code
def yX0_takes : MethodName := ⟨RX0, "takes", "(I)Z"⟩
abbrev cX0_takesPerson : ByteArray := prog_2_method_6_code
def yX0_takesPerson : MethodName := ⟨RX0, "takesPerson", "(III)Z"⟩
abbrev cX0_takesThing : ByteArray := prog_2_method_7_code
def yX0_takesThing : MethodName := ⟨RX0, "takesThing", "(III)Z"⟩
abbrev cX0_takesFade : ByteArray := prog_2_method_8_code
def yX0_takesFade : MethodName := ⟨RX0, "takesFade", "(I)Z"⟩
abbrev cX0_faded : ByteArray := prog_2_method_9_code
def yX0_faded : MethodName := ⟨RX0, "faded", "(I)I"⟩
abbrev cX0_standsOf : ByteArray := prog_2_method_10_code
def yX0_standsOf : MethodName := ⟨RX0, "standsOf", "(I)I"⟩
def RX1 : String := "BoredKings$Moment"
def TX1 : u_T := fun k => match k with
  | 0 => ("BoredKings$Moment", "day", "I", false)
  | 1 => ("BoredKings$Moment", "king", "I", false)
  | 2 => ("BoredKings$Moment", "interest", "I", false)
  | 3 => ("BoredKings$Moment", "hidden", "I", false)
  | 4 => ("BoredKings$Moment", "reigned", "[I", true)
  | _ => ("BoredKings$Moment", "things", "LBoredKings$Things;", true)
def tyX1 : Nat → FieldType := fun k => match k with
  | 0 => .int
  | 1 => .int
  | 2 => .int
  | 3 => .int
  | 4 => .array .int
  | _ => .object "BoredKings$Things"
abbrev wsX10 : List Cond := u_ws RX1 TX1 6
theorem nmX1 : ∀ a, a < 6 → ∀ b, b < 6 → a ≠ b → (TX1 a).2.1 ≠ (TX1 b).2.1 := by decide +kernel
theorem tyX1_ok : ∀ k, k < 6 → parseFieldDescriptor (TX1 k).2.2.1 = some (tyX1 k) := by decide +kernel
abbrev cX1_init : ByteArray := prog_3_method_1_code
def yX1_init : MethodName := ⟨RX1, "<init>", "()V"⟩
abbrev cX1_begin : ByteArray := prog_3_method_2_code
def yX1_begin : MethodName := ⟨RX1, "begin", "(LBoredKings$Court;)V"⟩
abbrev cX1_copyFrom : ByteArray := prog_3_method_3_code
def yX1_copyFrom : MethodName := ⟨RX1, "copyFrom", "(LBoredKings$Moment;)V"⟩
abbrev cX1_isHidden : ByteArray := prog_3_method_4_code
def yX1_isHidden : MethodName := ⟨RX1, "isHidden", "(I)Z"⟩
abbrev cX1_addReigned : ByteArray := prog_3_method_5_code
def yX1_addReigned : MethodName := ⟨RX1, "addReigned", "(I)V"⟩
def RX2 : String := "BoredKings$Outlook"
def TX2 : u_T := fun k => match k with
  | 0 => ("BoredKings$Outlook", "court", "LBoredKings$Court;", true)
  | 1 => ("BoredKings$Outlook", "things", "LBoredKings$Things;", false)
  | 2 => ("BoredKings$Outlook", "firstDay", "I", false)
  | 3 => ("BoredKings$Outlook", "days", "I", false)
  | 4 => ("BoredKings$Outlook", "shown", "[I", true)
  | 5 => ("BoredKings$Outlook", "had", "[I", true)
  | _ => ("BoredKings$Outlook", "gain", "[I", true)
def tyX2 : Nat → FieldType := fun k => match k with
  | 0 => .object "BoredKings$Court"
  | 1 => .object "BoredKings$Things"
  | 2 => .int
  | 3 => .int
  | 4 => .array .int
  | 5 => .array .int
  | _ => .array .int
abbrev wsX20 : List Cond := u_ws RX2 TX2 7
theorem nmX2 : ∀ a, a < 7 → ∀ b, b < 7 → a ≠ b → (TX2 a).2.1 ≠ (TX2 b).2.1 := by decide +kernel
theorem tyX2_ok : ∀ k, k < 7 → parseFieldDescriptor (TX2 k).2.2.1 = some (tyX2 k) := by decide +kernel
abbrev cX2_init : ByteArray := prog_4_method_1_code
def yX2_init : MethodName := ⟨RX2, "<init>", "(LBoredKings$Court;)V"⟩
abbrev cX2_look : ByteArray := prog_4_method_2_code
def yX2_look : MethodName := ⟨RX2, "look", "(LBoredKings$Things;III)V"⟩
abbrev cX2_isLookedAt : ByteArray := prog_4_method_3_code
def yX2_isLookedAt : MethodName := ⟨RX2, "isLookedAt", "(I)Z"⟩
abbrev cX2_isPlace : ByteArray := prog_4_method_4_code
def yX2_isPlace : MethodName := ⟨RX2, "isPlace", "(I)Z"⟩
abbrev cX2_weigh : ByteArray := prog_4_method_5_code
def yX2_weigh : MethodName := ⟨RX2, "weigh", "(II)V"⟩
abbrev cX2_gainBy : ByteArray := prog_4_method_6_code
def yX2_gainBy : MethodName := ⟨RX2, "gainBy", "(IIII)I"⟩
abbrev cX2_gainOf : ByteArray := prog_4_method_7_code
def yX2_gainOf : MethodName := ⟨RX2, "gainOf", "(II)I"⟩
abbrev cX2_gainWithout : ByteArray := prog_4_method_8_code
def yX2_gainWithout : MethodName := ⟨RX2, "gainWithout", "(III)I"⟩
abbrev cX2_gainOfOneMore : ByteArray := prog_4_method_9_code
def yX2_gainOfOneMore : MethodName := ⟨RX2, "gainOfOneMore", "(IIII)I"⟩
abbrev cX2_add : ByteArray := prog_4_method_10_code
def yX2_add : MethodName := ⟨RX2, "add", "(III)V"⟩
abbrev cX2_takeAway : ByteArray := prog_4_method_11_code
def yX2_takeAway : MethodName := ⟨RX2, "takeAway", "(III)V"⟩
abbrev cX2_addTimes : ByteArray := prog_4_method_12_code
def yX2_addTimes : MethodName := ⟨RX2, "addTimes", "(IIII)V"⟩
abbrev cX2_shownAtAll : ByteArray := prog_4_method_13_code
def yX2_shownAtAll : MethodName := ⟨RX2, "shownAtAll", "()I"⟩
def RX3 : String := "BoredKings$Reign"
def TX3 : u_T := fun k => match k with
  | 0 => ("BoredKings$Reign", "court", "LBoredKings$Court;", true)
  | 1 => ("BoredKings$Reign", "outlook", "LBoredKings$Outlook;", true)
  | 2 => ("BoredKings$Reign", "line", "[I", true)
  | 3 => ("BoredKings$Reign", "at", "I", false)
  | _ => ("BoredKings$Reign", "interest", "I", false)
def tyX3 : Nat → FieldType := fun k => match k with
  | 0 => .object "BoredKings$Court"
  | 1 => .object "BoredKings$Outlook"
  | 2 => .array .int
  | 3 => .int
  | _ => .int
abbrev wsX30 : List Cond := u_ws RX3 TX3 5
theorem nmX3 : ∀ a, a < 5 → ∀ b, b < 5 → a ≠ b → (TX3 a).2.1 ≠ (TX3 b).2.1 := by decide +kernel
theorem tyX3_ok : ∀ k, k < 5 → parseFieldDescriptor (TX3 k).2.2.1 = some (tyX3 k) := by decide +kernel
abbrev cX3_init : ByteArray := prog_5_method_1_code
def yX3_init : MethodName := ⟨RX3, "<init>", "(LBoredKings$Court;LBoredKings$Outlook;)V"⟩
abbrev cX3_start : ByteArray := prog_5_method_2_code
def yX3_start : MethodName := ⟨RX3, "start", "(LBoredKings$Moment;)V"⟩
abbrev cX3_startFirst : ByteArray := prog_5_method_3_code
def yX3_startFirst : MethodName := ⟨RX3, "startFirst", "()V"⟩
abbrev cX3_startLine : ByteArray := prog_5_method_4_code
def yX3_startLine : MethodName := ⟨RX3, "startLine", "(LBoredKings$Moment;)V"⟩
abbrev cX3_reigning : ByteArray := prog_5_method_5_code
def yX3_reigning : MethodName := ⟨RX3, "reigning", "()I"⟩
abbrev cX3_ringsOn : ByteArray := prog_5_method_6_code
def yX3_ringsOn : MethodName := ⟨RX3, "ringsOn", "(I)Z"⟩
abbrev cX3_change : ByteArray := prog_5_method_7_code
def yX3_change : MethodName := ⟨RX3, "change", "()V"⟩
abbrev cX3_live : ByteArray := prog_5_method_8_code
def yX3_live : MethodName := ⟨RX3, "live", "(I)Z"⟩
abbrev cX3_lineUp : ByteArray := prog_5_method_9_code
def yX3_lineUp : MethodName := ⟨RX3, "lineUp", "()V"⟩
abbrev cX3_copyLine : ByteArray := prog_5_method_10_code
def yX3_copyLine : MethodName := ⟨RX3, "copyLine", "([I)V"⟩
abbrev cX3_lineUpNext : ByteArray := prog_5_method_11_code
def yX3_lineUpNext : MethodName := ⟨RX3, "lineUpNext", "(I)Z"⟩
abbrev cX3_sortDown : ByteArray := prog_5_method_12_code
def yX3_sortDown : MethodName := ⟨RX3, "sortDown", "(II)V"⟩
abbrev cX3_swap : ByteArray := prog_5_method_13_code
def yX3_swap : MethodName := ⟨RX3, "swap", "(II)V"⟩
def RX4 : String := "BoredKings$Script"
def TX4 : u_T := fun k => match k with
  | 0 => ("BoredKings$Script", "letters", "[I", true)
  | _ => ("BoredKings$Script", "length", "I", false)
def tyX4 : Nat → FieldType := fun k => match k with
  | 0 => .array .int
  | _ => .int
abbrev wsX40 : List Cond := u_ws RX4 TX4 2
theorem nmX4 : ∀ a, a < 2 → ∀ b, b < 2 → a ≠ b → (TX4 a).2.1 ≠ (TX4 b).2.1 := by decide +kernel
theorem tyX4_ok : ∀ k, k < 2 → parseFieldDescriptor (TX4 k).2.2.1 = some (tyX4 k) := by decide +kernel
abbrev cX4_init : ByteArray := prog_6_method_1_code
def yX4_init : MethodName := ⟨RX4, "<init>", "()V"⟩
abbrev cX4_append : ByteArray := prog_6_method_2_code
def yX4_append : MethodName := ⟨RX4, "append", "(I)Z"⟩
abbrev cX4_clear : ByteArray := prog_6_method_3_code
def yX4_clear : MethodName := ⟨RX4, "clear", "()V"⟩
abbrev cX4_letterAt : ByteArray := prog_6_method_4_code
def yX4_letterAt : MethodName := ⟨RX4, "letterAt", "(I)I"⟩
abbrev cX4_isFigure : ByteArray := prog_6_method_5_code
def yX4_isFigure : MethodName := ⟨RX4, "isFigure", "(I)Z"⟩
abbrev cX4_figuresAt : ByteArray := prog_6_method_6_code
def yX4_figuresAt : MethodName := ⟨RX4, "figuresAt", "(I)I"⟩
abbrev cX4_numberAt : ByteArray := prog_6_method_7_code
def yX4_numberAt : MethodName := ⟨RX4, "numberAt", "(II)I"⟩
def RX5 : String := "BoredKings$Shelf"
def TX5 : u_T := fun k => match k with
  | 0 => ("BoredKings$Shelf", "places", "[LBoredKings$Moment;", true)
  | 1 => ("BoredKings$Shelf", "oldest", "I", false)
  | _ => ("BoredKings$Shelf", "size", "I", false)
def tyX5 : Nat → FieldType := fun k => match k with
  | 0 => .array (.object "BoredKings$Moment")
  | 1 => .int
  | _ => .int
abbrev wsX50 : List Cond := u_ws RX5 TX5 3
theorem nmX5 : ∀ a, a < 3 → ∀ b, b < 3 → a ≠ b → (TX5 a).2.1 ≠ (TX5 b).2.1 := by decide +kernel
theorem tyX5_ok : ∀ k, k < 3 → parseFieldDescriptor (TX5 k).2.2.1 = some (tyX5 k) := by decide +kernel
abbrev cX5_init : ByteArray := prog_7_method_1_code
def yX5_init : MethodName := ⟨RX5, "<init>", "(I)V"⟩
abbrev cX5_clear : ByteArray := prog_7_method_2_code
def yX5_clear : MethodName := ⟨RX5, "clear", "()V"⟩
abbrev cX5_placeBehind : ByteArray := prog_7_method_3_code
def yX5_placeBehind : MethodName := ⟨RX5, "placeBehind", "(I)LBoredKings$Moment;"⟩
abbrev cX5_put : ByteArray := prog_7_method_4_code
def yX5_put : MethodName := ⟨RX5, "put", "(LBoredKings$Moment;)V"⟩
abbrev cX5_takeInto : ByteArray := prog_7_method_5_code
def yX5_takeInto : MethodName := ⟨RX5, "takeInto", "(LBoredKings$Moment;)Z"⟩
def RX6 : String := "BoredKings$Sightings"
def TX6 : u_T := fun k => match k with
  | 0 => ("BoredKings$Sightings", "who", "[I", true)
  | 1 => ("BoredKings$Sightings", "when", "[I", true)
  | _ => ("BoredKings$Sightings", "size", "I", false)
def tyX6 : Nat → FieldType := fun k => match k with
  | 0 => .array .int
  | 1 => .array .int
  | _ => .int
abbrev wsX60 : List Cond := u_ws RX6 TX6 3
theorem nmX6 : ∀ a, a < 3 → ∀ b, b < 3 → a ≠ b → (TX6 a).2.1 ≠ (TX6 b).2.1 := by decide +kernel
theorem tyX6_ok : ∀ k, k < 3 → parseFieldDescriptor (TX6 k).2.2.1 = some (tyX6 k) := by decide +kernel
abbrev cX6_init : ByteArray := prog_8_method_1_code
def yX6_init : MethodName := ⟨RX6, "<init>", "()V"⟩
abbrev cX6_clear : ByteArray := prog_8_method_2_code
def yX6_clear : MethodName := ⟨RX6, "clear", "()V"⟩
abbrev cX6_add : ByteArray := prog_8_method_3_code
def yX6_add : MethodName := ⟨RX6, "add", "(II)Z"⟩
abbrev cX6_agrees : ByteArray := prog_8_method_4_code
def yX6_agrees : MethodName := ⟨RX6, "agrees", "(II)Z"⟩
abbrev cX6_lastDay : ByteArray := prog_8_method_5_code
def yX6_lastDay : MethodName := ⟨RX6, "lastDay", "()I"⟩
def RX7 : String := "BoredKings$Things"
def TX7 : u_T := fun k => match k with
  | 0 => ("BoredKings$Things", "day", "[I", true)
  | 1 => ("BoredKings$Things", "topics", "[I", true)
  | 2 => ("BoredKings$Things", "strength", "[I", true)
  | _ => ("BoredKings$Things", "size", "I", false)
def tyX7 : Nat → FieldType := fun k => match k with
  | 0 => .array .int
  | 1 => .array .int
  | 2 => .array .int
  | _ => .int
abbrev wsX70 : List Cond := u_ws RX7 TX7 4
theorem nmX7 : ∀ a, a < 4 → ∀ b, b < 4 → a ≠ b → (TX7 a).2.1 ≠ (TX7 b).2.1 := by decide +kernel
theorem tyX7_ok : ∀ k, k < 4 → parseFieldDescriptor (TX7 k).2.2.1 = some (tyX7 k) := by decide +kernel
abbrev cX7_init : ByteArray := prog_9_method_1_code
def yX7_init : MethodName := ⟨RX7, "<init>", "()V"⟩
abbrev cX7_clear : ByteArray := prog_9_method_2_code
def yX7_clear : MethodName := ⟨RX7, "clear", "()V"⟩
abbrev cX7_add : ByteArray := prog_9_method_3_code
def yX7_add : MethodName := ⟨RX7, "add", "(III)Z"⟩
abbrev cX7_copyFrom : ByteArray := prog_9_method_4_code
def yX7_copyFrom : MethodName := ⟨RX7, "copyFrom", "(LBoredKings$Things;)V"⟩
def RX8 : String := "BoredKings"
def TX8 : u_T := fun k => match k with
  | 0 => ("BoredKings", "script", "LBoredKings$Script;", true)
  | 1 => ("BoredKings", "draft", "LBoredKings$Court;", true)
  | 2 => ("BoredKings", "laid", "LBoredKings$Court;", true)
  | 3 => ("BoredKings", "now", "LBoredKings$Moment;", true)
  | 4 => ("BoredKings", "acts", "LBoredKings$Shelf;", true)
  | 5 => ("BoredKings", "shelf", "LBoredKings$Shelf;", true)
  | 6 => ("BoredKings", "sightings", "LBoredKings$Sightings;", true)
  | 7 => ("BoredKings", "outlook", "LBoredKings$Outlook;", true)
  | 8 => ("BoredKings", "reign", "LBoredKings$Reign;", true)
  | _ => ("BoredKings", "bestOrder", "[I", true)
def tyX8 : Nat → FieldType := fun k => match k with
  | 0 => .object "BoredKings$Script"
  | 1 => .object "BoredKings$Court"
  | 2 => .object "BoredKings$Court"
  | 3 => .object "BoredKings$Moment"
  | 4 => .object "BoredKings$Shelf"
  | 5 => .object "BoredKings$Shelf"
  | 6 => .object "BoredKings$Sightings"
  | 7 => .object "BoredKings$Outlook"
  | 8 => .object "BoredKings$Reign"
  | _ => .array .int
abbrev wsX80 : List Cond := u_ws RX8 TX8 10
theorem nmX8 : ∀ a, a < 10 → ∀ b, b < 10 → a ≠ b → (TX8 a).2.1 ≠ (TX8 b).2.1 := by decide +kernel
theorem tyX8_ok : ∀ k, k < 10 → parseFieldDescriptor (TX8 k).2.2.1 = some (tyX8 k) := by decide +kernel
abbrev cX8_init : ByteArray := prog_1_method_1_code
def yX8_init : MethodName := ⟨RX8, "<init>", "()V"⟩
abbrev cX8_write : ByteArray := prog_1_method_2_code
def yX8_write : MethodName := ⟨RX8, "write", "(I)I"⟩
abbrev cX8_wipe : ByteArray := prog_1_method_3_code
def yX8_wipe : MethodName := ⟨RX8, "wipe", "()I"⟩
abbrev cX8_fault : ByteArray := prog_1_method_4_code
def yX8_fault : MethodName := ⟨RX8, "fault", "()I"⟩
abbrev cX8_lay : ByteArray := prog_1_method_5_code
def yX8_lay : MethodName := ⟨RX8, "lay", "()I"⟩
abbrev cX8_person : ByteArray := prog_1_method_6_code
def yX8_person : MethodName := ⟨RX8, "person", "(II)I"⟩
abbrev cX8_thing : ByteArray := prog_1_method_7_code
def yX8_thing : MethodName := ⟨RX8, "thing", "(II)I"⟩
abbrev cX8_pass : ByteArray := prog_1_method_8_code
def yX8_pass : MethodName := ⟨RX8, "pass", "(I)I"⟩
abbrev cX8_hide : ByteArray := prog_1_method_9_code
def yX8_hide : MethodName := ⟨RX8, "hide", "(I)I"⟩
abbrev cX8_arrange : ByteArray := prog_1_method_10_code
def yX8_arrange : MethodName := ⟨RX8, "arrange", "(III)I"⟩
abbrev cX8_undo : ByteArray := prog_1_method_11_code
def yX8_undo : MethodName := ⟨RX8, "undo", "()I"⟩
abbrev cX8_king : ByteArray := prog_1_method_12_code
def yX8_king : MethodName := ⟨RX8, "king", "(II)I"⟩
abbrev cX8_bell : ByteArray := prog_1_method_13_code
def yX8_bell : MethodName := ⟨RX8, "bell", "()I"⟩
abbrev cX8_hides : ByteArray := prog_1_method_14_code
def yX8_hides : MethodName := ⟨RX8, "hides", "(I)I"⟩
abbrev cX8_raise : ByteArray := prog_1_method_15_code
def yX8_raise : MethodName := ⟨RX8, "raise", "(II)I"⟩
abbrev cX8_order : ByteArray := prog_1_method_16_code
def yX8_order : MethodName := ⟨RX8, "order", "(II)I"⟩
abbrev cX8_away : ByteArray := prog_1_method_17_code
def yX8_away : MethodName := ⟨RX8, "away", "(I)I"⟩
abbrev cX8_seen : ByteArray := prog_1_method_18_code
def yX8_seen : MethodName := ⟨RX8, "seen", "(II)I"⟩
abbrev cX8_forget : ByteArray := prog_1_method_19_code
def yX8_forget : MethodName := ⟨RX8, "forget", "()I"⟩
abbrev cX8_tastes : ByteArray := prog_1_method_20_code
def yX8_tastes : MethodName := ⟨RX8, "tastes", "(II)I"⟩
abbrev cX8_lasts : ByteArray := prog_1_method_21_code
def yX8_lasts : MethodName := ⟨RX8, "lasts", "(IIIII)I"⟩
abbrev cX8_content : ByteArray := prog_1_method_22_code
def yX8_content : MethodName := ⟨RX8, "content", "(I)I"⟩
abbrev cX8_dull : ByteArray := prog_1_method_23_code
def yX8_dull : MethodName := ⟨RX8, "dull", "(I)I"⟩
abbrev cX8_year : ByteArray := prog_1_method_24_code
def yX8_year : MethodName := ⟨RX8, "year", "(III)I"⟩
abbrev cX8_keep : ByteArray := prog_1_method_25_code
def yX8_keep : MethodName := ⟨RX8, "keep", "()I"⟩
abbrev cX8_back : ByteArray := prog_1_method_26_code
def yX8_back : MethodName := ⟨RX8, "back", "()I"⟩
abbrev cX8_count : ByteArray := prog_1_method_27_code
def yX8_count : MethodName := ⟨RX8, "count", "(I)I"⟩
abbrev cX8_isPerson : ByteArray := prog_1_method_28_code
def yX8_isPerson : MethodName := ⟨RX8, "isPerson", "(I)Z"⟩
abbrev cX8_isThing : ByteArray := prog_1_method_29_code
def yX8_isThing : MethodName := ⟨RX8, "isThing", "(I)Z"⟩
abbrev cX8_isTopics : ByteArray := prog_1_method_30_code
def yX8_isTopics : MethodName := ⟨RX8, "isTopics", "(I)Z"⟩
abbrev cX8_isStrength : ByteArray := prog_1_method_31_code
def yX8_isStrength : MethodName := ⟨RX8, "isStrength", "(I)Z"⟩
abbrev cX8_isDayFromNow : ByteArray := prog_1_method_32_code
def yX8_isDayFromNow : MethodName := ⟨RX8, "isDayFromNow", "(I)Z"⟩
abbrev cX8_isHalf : ByteArray := prog_1_method_33_code
def yX8_isHalf : MethodName := ⟨RX8, "isHalf", "(I)Z"⟩
abbrev cX8_lookAhead : ByteArray := prog_1_method_34_code
def yX8_lookAhead : MethodName := ⟨RX8, "lookAhead", "(I)V"⟩
abbrev cX8_placeOf : ByteArray := prog_1_method_35_code
def yX8_placeOf : MethodName := ⟨RX8, "placeOf", "(I)I"⟩
abbrev cX8_firstBell : ByteArray := prog_1_method_36_code
def yX8_firstBell : MethodName := ⟨RX8, "firstBell", "()I"⟩
abbrev cX8_firstReignOf : ByteArray := prog_1_method_37_code
def yX8_firstReignOf : MethodName := ⟨RX8, "firstReignOf", "(I)I"⟩
abbrev cX8_staysWithout : ByteArray := prog_1_method_38_code
def yX8_staysWithout : MethodName := ⟨RX8, "staysWithout", "(II)Z"⟩
abbrev cX8_staysWith : ByteArray := prog_1_method_39_code
def yX8_staysWith : MethodName := ⟨RX8, "staysWith", "(IIII)Z"⟩
abbrev cX8_bellsInOrder : ByteArray := prog_1_method_40_code
def yX8_bellsInOrder : MethodName := ⟨RX8, "bellsInOrder", "(II)I"⟩
abbrev cX8_wasSo : ByteArray := prog_1_method_41_code
def yX8_wasSo : MethodName := ⟨RX8, "wasSo", "()Z"⟩
abbrev cX8_draw : ByteArray := prog_1_method_42_code
def yX8_draw : MethodName := ⟨RX8, "draw", "(II)I"⟩
abbrev cX8_power : ByteArray := prog_1_method_43_code
def yX8_power : MethodName := ⟨RX8, "power", "(II)I"⟩
abbrev cX8_greatestDivisor : ByteArray := prog_1_method_44_code
def yX8_greatestDivisor : MethodName := ⟨RX8, "greatestDivisor", "(II)I"⟩
abbrev cX8_comesBy : ByteArray := prog_1_method_45_code
def yX8_comesBy : MethodName := ⟨RX8, "comesBy", "(IIIIII)I"⟩
def RX9 : String := "BoredKingsModel"
def TX9 : u_T := fun k => match k with
  | 0 => ("BoredKingsModel", "persons", "I", false)
  | 1 => ("BoredKingsModel", "person", "[I", true)
  | 2 => ("BoredKingsModel", "fades", "I", false)
  | 3 => ("BoredKingsModel", "st", "[I", true)
  | 4 => ("BoredKingsModel", "first", "[I", true)
  | 5 => ("BoredKingsModel", "acts", "I", false)
  | 6 => ("BoredKingsModel", "was", "[I", true)
  | 7 => ("BoredKingsModel", "keeps", "I", false)
  | 8 => ("BoredKingsModel", "kept", "[I", true)
  | 9 => ("BoredKingsModel", "seens", "I", false)
  | 10 => ("BoredKingsModel", "seen", "[I", true)
  | 11 => ("BoredKingsModel", "text", "[I", true)
  | 12 => ("BoredKingsModel", "texted", "I", false)
  | 13 => ("BoredKingsModel", "at", "I", false)
  | 14 => ("BoredKingsModel", "told", "[I", true)
  | 15 => ("BoredKingsModel", "readPersons", "I", false)
  | 16 => ("BoredKingsModel", "readPerson", "[I", true)
  | 17 => ("BoredKingsModel", "readFades", "I", false)
  | 18 => ("BoredKingsModel", "read", "[I", true)
  | 19 => ("BoredKingsModel", "now", "[I", true)
  | 20 => ("BoredKingsModel", "moreTopics", "I", false)
  | 21 => ("BoredKingsModel", "moreStrong", "I", false)
  | 22 => ("BoredKingsModel", "order", "[I", true)
  | _ => ("BoredKingsModel", "best", "[I", true)
def tyX9 : Nat → FieldType := fun k => match k with
  | 0 => .int
  | 1 => .array .int
  | 2 => .int
  | 3 => .array .int
  | 4 => .array .int
  | 5 => .int
  | 6 => .array .int
  | 7 => .int
  | 8 => .array .int
  | 9 => .int
  | 10 => .array .int
  | 11 => .array .int
  | 12 => .int
  | 13 => .int
  | 14 => .array .int
  | 15 => .int
  | 16 => .array .int
  | 17 => .int
  | 18 => .array .int
  | 19 => .array .int
  | 20 => .int
  | 21 => .int
  | 22 => .array .int
  | _ => .array .int
abbrev wsX90 : List Cond := u_ws RX9 TX9 24
theorem nmX9 : ∀ a, a < 24 → ∀ b, b < 24 → a ≠ b → (TX9 a).2.1 ≠ (TX9 b).2.1 := by decide +kernel
theorem tyX9_ok : ∀ k, k < 24 → parseFieldDescriptor (TX9 k).2.2.1 = some (tyX9 k) := by decide +kernel
abbrev cX9_init : ByteArray := prog_11_method_1_code
def yX9_init : MethodName := ⟨RX9, "<init>", "()V"⟩
abbrev cX9_tellsPerson : ByteArray := prog_11_method_3_code
def yX9_tellsPerson : MethodName := ⟨RX9, "tellsPerson", "(III)V"⟩
abbrev cX9_addsThing : ByteArray := prog_11_method_4_code
def yX9_addsThing : MethodName := ⟨RX9, "addsThing", "([IIII)V"⟩
abbrev cX9_in : ByteArray := prog_11_method_5_code
def yX9_in : MethodName := ⟨RX9, "in", "(III)Z"⟩
abbrev cX9_has : ByteArray := prog_11_method_6_code
def yX9_has : MethodName := ⟨RX9, "has", "(II)Z"⟩
abbrev cX9_bits : ByteArray := prog_11_method_7_code
def yX9_bits : MethodName := ⟨RX9, "bits", "(I)I"⟩
abbrev cX9_isPerson : ByteArray := prog_11_method_8_code
def yX9_isPerson : MethodName := ⟨RX9, "isPerson", "(I)Z"⟩
abbrev cX9_isThing : ByteArray := prog_11_method_9_code
def yX9_isThing : MethodName := ⟨RX9, "isThing", "(I)Z"⟩
abbrev cX9_write : ByteArray := prog_11_method_10_code
def yX9_write : MethodName := ⟨RX9, "write", "(I)I"⟩
abbrev cX9_wipe : ByteArray := prog_11_method_11_code
def yX9_wipe : MethodName := ⟨RX9, "wipe", "()I"⟩
abbrev cX9_letterAt : ByteArray := prog_11_method_12_code
def yX9_letterAt : MethodName := ⟨RX9, "letterAt", "(I)I"⟩
abbrev cX9_isFigure : ByteArray := prog_11_method_13_code
def yX9_isFigure : MethodName := ⟨RX9, "isFigure", "(I)Z"⟩
abbrev cX9_readNumbers : ByteArray := prog_11_method_14_code
def yX9_readNumbers : MethodName := ⟨RX9, "readNumbers", "(I)Z"⟩
abbrev cX9_isTold : ByteArray := prog_11_method_15_code
def yX9_isTold : MethodName := ⟨RX9, "isTold", "(III)Z"⟩
abbrev cX9_put : ByteArray := prog_11_method_16_code
def yX9_put : MethodName := ⟨RX9, "put", "([II[II)V"⟩
abbrev cX9_clearTold : ByteArray := prog_11_method_17_code
def yX9_clearTold : MethodName := ⟨RX9, "clearTold", "()V"⟩
abbrev cX9_readPersonOf : ByteArray := prog_11_method_18_code
def yX9_readPersonOf : MethodName := ⟨RX9, "readPersonOf", "()Z"⟩
abbrev cX9_readThingOf : ByteArray := prog_11_method_19_code
def yX9_readThingOf : MethodName := ⟨RX9, "readThingOf", "()Z"⟩
abbrev cX9_readFadesOf : ByteArray := prog_11_method_20_code
def yX9_readFadesOf : MethodName := ⟨RX9, "readFadesOf", "()Z"⟩
abbrev cX9_readItem : ByteArray := prog_11_method_21_code
def yX9_readItem : MethodName := ⟨RX9, "readItem", "()Z"⟩
abbrev cX9_fault : ByteArray := prog_11_method_22_code
def yX9_fault : MethodName := ⟨RX9, "fault", "()I"⟩
abbrev cX9_lay : ByteArray := prog_11_method_23_code
def yX9_lay : MethodName := ⟨RX9, "lay", "()I"⟩
abbrev cX9_settles : ByteArray := prog_11_method_24_code
def yX9_settles : MethodName := ⟨RX9, "settles", "()V"⟩
abbrev cX9_from : ByteArray := prog_11_method_25_code
def yX9_from : MethodName := ⟨RX9, "from", "([I)V"⟩
abbrev cX9_comesBy : ByteArray := prog_11_method_26_code
def yX9_comesBy : MethodName := ⟨RX9, "comesBy", "(IIII)I"⟩
abbrev cX9_comes : ByteArray := prog_11_method_27_code
def yX9_comes : MethodName := ⟨RX9, "comes", "(II)I"⟩
abbrev cX9_isEnough : ByteArray := prog_11_method_28_code
def yX9_isEnough : MethodName := ⟨RX9, "isEnough", "(II)Z"⟩
abbrev cX9_goes : ByteArray := prog_11_method_29_code
def yX9_goes : MethodName := ⟨RX9, "goes", "()Z"⟩
abbrev cX9_goesOn : ByteArray := prog_11_method_30_code
def yX9_goesOn : MethodName := ⟨RX9, "goesOn", "(I)I"⟩
abbrev cX9_person : ByteArray := prog_11_method_31_code
def yX9_person : MethodName := ⟨RX9, "person", "(II)I"⟩
abbrev cX9_thing : ByteArray := prog_11_method_32_code
def yX9_thing : MethodName := ⟨RX9, "thing", "(II)I"⟩
abbrev cX9_remembers : ByteArray := prog_11_method_33_code
def yX9_remembers : MethodName := ⟨RX9, "remembers", "()V"⟩
abbrev cX9_pass : ByteArray := prog_11_method_34_code
def yX9_pass : MethodName := ⟨RX9, "pass", "(I)I"⟩
abbrev cX9_hide : ByteArray := prog_11_method_35_code
def yX9_hide : MethodName := ⟨RX9, "hide", "(I)I"⟩
abbrev cX9_arrange : ByteArray := prog_11_method_36_code
def yX9_arrange : MethodName := ⟨RX9, "arrange", "(III)I"⟩
abbrev cX9_undo : ByteArray := prog_11_method_37_code
def yX9_undo : MethodName := ⟨RX9, "undo", "()I"⟩
abbrev cX9_king : ByteArray := prog_11_method_38_code
def yX9_king : MethodName := ⟨RX9, "king", "(II)I"⟩
abbrev cX9_firstBell : ByteArray := prog_11_method_39_code
def yX9_firstBell : MethodName := ⟨RX9, "firstBell", "()I"⟩
abbrev cX9_bell : ByteArray := prog_11_method_40_code
def yX9_bell : MethodName := ⟨RX9, "bell", "()I"⟩
abbrev cX9_hides : ByteArray := prog_11_method_41_code
def yX9_hides : MethodName := ⟨RX9, "hides", "(I)I"⟩
abbrev cX9_reignsOn : ByteArray := prog_11_method_42_code
def yX9_reignsOn : MethodName := ⟨RX9, "reignsOn", "(I)I"⟩
abbrev cX9_raise : ByteArray := prog_11_method_43_code
def yX9_raise : MethodName := ⟨RX9, "raise", "(II)I"⟩
abbrev cX9_isOrder : ByteArray := prog_11_method_44_code
def yX9_isOrder : MethodName := ⟨RX9, "isOrder", "(I)Z"⟩
abbrev cX9_order : ByteArray := prog_11_method_45_code
def yX9_order : MethodName := ⟨RX9, "order", "(II)I"⟩
abbrev cX9_away : ByteArray := prog_11_method_46_code
def yX9_away : MethodName := ⟨RX9, "away", "(I)I"⟩
abbrev cX9_seen : ByteArray := prog_11_method_47_code
def yX9_seen : MethodName := ⟨RX9, "seen", "(II)I"⟩
abbrev cX9_forget : ByteArray := prog_11_method_48_code
def yX9_forget : MethodName := ⟨RX9, "forget", "()I"⟩
abbrev cX9_tastes : ByteArray := prog_11_method_49_code
def yX9_tastes : MethodName := ⟨RX9, "tastes", "(II)I"⟩
abbrev cX9_lasts : ByteArray := prog_11_method_50_code
def yX9_lasts : MethodName := ⟨RX9, "lasts", "(IIIII)I"⟩
abbrev cX9_content : ByteArray := prog_11_method_51_code
def yX9_content : MethodName := ⟨RX9, "content", "(I)I"⟩
abbrev cX9_dull : ByteArray := prog_11_method_52_code
def yX9_dull : MethodName := ⟨RX9, "dull", "(I)I"⟩
abbrev cX9_year : ByteArray := prog_11_method_53_code
def yX9_year : MethodName := ⟨RX9, "year", "(III)I"⟩
abbrev cX9_keep : ByteArray := prog_11_method_54_code
def yX9_keep : MethodName := ⟨RX9, "keep", "()I"⟩
abbrev cX9_back : ByteArray := prog_11_method_55_code
def yX9_back : MethodName := ⟨RX9, "back", "()I"⟩
abbrev cX9_count : ByteArray := prog_11_method_56_code
def yX9_count : MethodName := ⟨RX9, "count", "(I)I"⟩
def RJx145de : String := "java/io/Serializable"
def TJx145de : u_T := fun k => match k with
  | _ => ("", "", "", false)
def tyJx145de : Nat → FieldType := fun k => match k with
  | _ => .int
abbrev wsJx145de0 : List Cond := u_ws RJx145de TJx145de 0
theorem nmJx145de : ∀ a, a < 0 → ∀ b, b < 0 → a ≠ b → (TJx145de a).2.1 ≠ (TJx145de b).2.1 := by decide +kernel
theorem tyJx145de_ok : ∀ k, k < 0 → parseFieldDescriptor (TJx145de k).2.2.1 = some (tyJx145de k) := by decide +kernel
def RJx9f9b0 : String := "java/lang/CharSequence"
def TJx9f9b0 : u_T := fun k => match k with
  | _ => ("", "", "", false)
def tyJx9f9b0 : Nat → FieldType := fun k => match k with
  | _ => .int
abbrev wsJx9f9b00 : List Cond := u_ws RJx9f9b0 TJx9f9b0 0
theorem nmJx9f9b0 : ∀ a, a < 0 → ∀ b, b < 0 → a ≠ b → (TJx9f9b0 a).2.1 ≠ (TJx9f9b0 b).2.1 := by decide +kernel
theorem tyJx9f9b0_ok : ∀ k, k < 0 → parseFieldDescriptor (TJx9f9b0 k).2.2.1 = some (tyJx9f9b0 k) := by decide +kernel
def RJxb160c : String := "java/lang/Comparable"
def TJxb160c : u_T := fun k => match k with
  | _ => ("", "", "", false)
def tyJxb160c : Nat → FieldType := fun k => match k with
  | _ => .int
abbrev wsJxb160c0 : List Cond := u_ws RJxb160c TJxb160c 0
theorem nmJxb160c : ∀ a, a < 0 → ∀ b, b < 0 → a ≠ b → (TJxb160c a).2.1 ≠ (TJxb160c b).2.1 := by decide +kernel
theorem tyJxb160c_ok : ∀ k, k < 0 → parseFieldDescriptor (TJxb160c k).2.2.1 = some (tyJxb160c k) := by decide +kernel
def RJ6 : String := "java/lang/Integer"
def TJ6 : u_T := fun k => match k with
  | _ => ("", "", "", false)
def tyJ6 : Nat → FieldType := fun k => match k with
  | _ => .int
abbrev wsJ60 : List Cond := u_ws RJ6 TJ6 0
theorem nmJ6 : ∀ a, a < 0 → ∀ b, b < 0 → a ≠ b → (TJ6 a).2.1 ≠ (TJ6 b).2.1 := by decide +kernel
theorem tyJ6_ok : ∀ k, k < 0 → parseFieldDescriptor (TJ6 k).2.2.1 = some (tyJ6 k) := by decide +kernel
abbrev cJ6_bitCount_0f7a4 : ByteArray := prog_12_method_49_code
def yJ6_bitCount_0f7a4 : MethodName := ⟨RJ6, "bitCount", "(I)I"⟩
def RJ9 : String := "java/lang/Math"
def TJ9 : u_T := fun k => match k with
  | _ => ("", "", "", false)
def tyJ9 : Nat → FieldType := fun k => match k with
  | _ => .int
abbrev wsJ90 : List Cond := u_ws RJ9 TJ9 0
theorem nmJ9 : ∀ a, a < 0 → ∀ b, b < 0 → a ≠ b → (TJ9 a).2.1 ≠ (TJ9 b).2.1 := by decide +kernel
theorem tyJ9_ok : ∀ k, k < 0 → parseFieldDescriptor (TJ9 k).2.2.1 = some (tyJ9 k) := by decide +kernel
abbrev cJ9_max_7cf53 : ByteArray := prog_13_method_65_code
def yJ9_max_7cf53 : MethodName := ⟨RJ9, "max", "(II)I"⟩
abbrev cJ9_min_7cf53 : ByteArray := prog_13_method_69_code
def yJ9_min_7cf53 : MethodName := ⟨RJ9, "min", "(II)I"⟩
def RJ0 : String := "java/lang/String"
def TJ0 : u_T := fun k => match k with
  | _ => ("", "", "", false)
def tyJ0 : Nat → FieldType := fun k => match k with
  | _ => .int
abbrev wsJ00 : List Cond := u_ws RJ0 TJ0 0
theorem nmJ0 : ∀ a, a < 0 → ∀ b, b < 0 → a ≠ b → (TJ0 a).2.1 ≠ (TJ0 b).2.1 := by decide +kernel
theorem tyJ0_ok : ∀ k, k < 0 → parseFieldDescriptor (TJ0 k).2.2.1 = some (tyJ0 k) := by decide +kernel
abbrev cJ0_length_8abf5 : ByteArray := prog_14_method_54_code
def yJ0_length_8abf5 : MethodName := ⟨RJ0, "length", "()I"⟩
abbrev cJ0_charAt_5068e : ByteArray := prog_14_method_56_code
def yJ0_charAt_5068e : MethodName := ⟨RJ0, "charAt", "(I)C"⟩
abbrev cJ0_coder_7d493 : ByteArray := prog_14_method_152_code
def yJ0_coder_7d493 : MethodName := ⟨RJ0, "coder", "()B"⟩
abbrev cJ0_isLatin1_aae02 : ByteArray := prog_14_method_154_code
def yJ0_isLatin1_aae02 : MethodName := ⟨RJ0, "isLatin1", "()Z"⟩
abbrev cJ0_checkIndex_df160 : ByteArray := prog_14_method_155_code
def yJ0_checkIndex_df160 : MethodName := ⟨RJ0, "checkIndex", "(II)V"⟩
def RJ1 : String := "java/lang/StringLatin1"
def TJ1 : u_T := fun k => match k with
  | _ => ("", "", "", false)
def tyJ1 : Nat → FieldType := fun k => match k with
  | _ => .int
abbrev wsJ10 : List Cond := u_ws RJ1 TJ1 0
theorem nmJ1 : ∀ a, a < 0 → ∀ b, b < 0 → a ≠ b → (TJ1 a).2.1 ≠ (TJ1 b).2.1 := by decide +kernel
theorem tyJ1_ok : ∀ k, k < 0 → parseFieldDescriptor (TJ1 k).2.2.1 = some (tyJ1 k) := by decide +kernel
abbrev cJ1_charAt_3b067 : ByteArray := prog_15_method_2_code
def yJ1_charAt_3b067 : MethodName := ⟨RJ1, "charAt", "([BI)C"⟩
def RJ2 : String := "java/lang/StringUTF16"
def TJ2 : u_T := fun k => match k with
  | _ => ("", "", "", false)
def tyJ2 : Nat → FieldType := fun k => match k with
  | _ => .int
abbrev wsJ20 : List Cond := u_ws RJ2 TJ2 0
theorem nmJ2 : ∀ a, a < 0 → ∀ b, b < 0 → a ≠ b → (TJ2 a).2.1 ≠ (TJ2 b).2.1 := by decide +kernel
theorem tyJ2_ok : ∀ k, k < 0 → parseFieldDescriptor (TJ2 k).2.2.1 = some (tyJ2 k) := by decide +kernel
abbrev cJ2_getChar_3b067 : ByteArray := prog_16_method_5_code
def yJ2_getChar_3b067 : MethodName := ⟨RJ2, "getChar", "([BI)C"⟩
abbrev cJ2_length_9d52b : ByteArray := prog_16_method_6_code
def yJ2_length_9d52b : MethodName := ⟨RJ2, "length", "([B)I"⟩
abbrev cJ2_charAt_3b067 : ByteArray := prog_16_method_83_code
def yJ2_charAt_3b067 : MethodName := ⟨RJ2, "charAt", "([BI)C"⟩
abbrev cJ2_checkIndex_2214a : ByteArray := prog_16_method_91_code
def yJ2_checkIndex_2214a : MethodName := ⟨RJ2, "checkIndex", "(I[B)V"⟩
def RJ10 : String := "java/lang/System"
def TJ10 : u_T := fun k => match k with
  | _ => ("", "", "", false)
def tyJ10 : Nat → FieldType := fun k => match k with
  | _ => .int
abbrev wsJ100 : List Cond := u_ws RJ10 TJ10 0
theorem nmJ10 : ∀ a, a < 0 → ∀ b, b < 0 → a ≠ b → (TJ10 a).2.1 ≠ (TJ10 b).2.1 := by decide +kernel
theorem tyJ10_ok : ∀ k, k < 0 → parseFieldDescriptor (TJ10 k).2.2.1 = some (tyJ10 k) := by decide +kernel
def RJxfd54e : String := "java/lang/constant/Constable"
def TJxfd54e : u_T := fun k => match k with
  | _ => ("", "", "", false)
def tyJxfd54e : Nat → FieldType := fun k => match k with
  | _ => .int
abbrev wsJxfd54e0 : List Cond := u_ws RJxfd54e TJxfd54e 0
theorem nmJxfd54e : ∀ a, a < 0 → ∀ b, b < 0 → a ≠ b → (TJxfd54e a).2.1 ≠ (TJxfd54e b).2.1 := by decide +kernel
theorem tyJxfd54e_ok : ∀ k, k < 0 → parseFieldDescriptor (TJxfd54e k).2.2.1 = some (tyJxfd54e k) := by decide +kernel
def RJx3cf43 : String := "java/lang/constant/ConstantDesc"
def TJx3cf43 : u_T := fun k => match k with
  | _ => ("", "", "", false)
def tyJx3cf43 : Nat → FieldType := fun k => match k with
  | _ => .int
abbrev wsJx3cf430 : List Cond := u_ws RJx3cf43 TJx3cf43 0
theorem nmJx3cf43 : ∀ a, a < 0 → ∀ b, b < 0 → a ≠ b → (TJx3cf43 a).2.1 ≠ (TJx3cf43 b).2.1 := by decide +kernel
theorem tyJx3cf43_ok : ∀ k, k < 0 → parseFieldDescriptor (TJx3cf43 k).2.2.1 = some (tyJx3cf43 k) := by decide +kernel
def RJ7 : String := "java/util/Arrays"
def TJ7 : u_T := fun k => match k with
  | _ => ("", "", "", false)
def tyJ7 : Nat → FieldType := fun k => match k with
  | _ => .int
abbrev wsJ70 : List Cond := u_ws RJ7 TJ7 0
theorem nmJ7 : ∀ a, a < 0 → ∀ b, b < 0 → a ≠ b → (TJ7 a).2.1 ≠ (TJ7 b).2.1 := by decide +kernel
theorem tyJ7_ok : ∀ k, k < 0 → parseFieldDescriptor (TJ7 k).2.2.1 = some (tyJ7 k) := by decide +kernel
abbrev cJ7_fill_53178 : ByteArray := prog_18_method_103_code
def yJ7_fill_53178 : MethodName := ⟨RJ7, "fill", "([II)V"⟩
def RJ3 : String := "jdk/internal/util/Preconditions"
def TJ3 : u_T := fun k => match k with
  | _ => ("", "", "", false)
def tyJ3 : Nat → FieldType := fun k => match k with
  | _ => .int
abbrev wsJ30 : List Cond := u_ws RJ3 TJ3 0
theorem nmJ3 : ∀ a, a < 0 → ∀ b, b < 0 → a ≠ b → (TJ3 a).2.1 ≠ (TJ3 b).2.1 := by decide +kernel
theorem tyJ3_ok : ∀ k, k < 0 → parseFieldDescriptor (TJ3 k).2.2.1 = some (tyJ3 k) := by decide +kernel
abbrev cJ3_checkIndex_8e157 : ByteArray := prog_19_method_11_code
def yJ3_checkIndex_8e157 : MethodName := ⟨RJ3, "checkIndex", "(IILjava/util/function/BiFunction;)I"⟩
def RL : String := "BoredKingsLaw"
abbrev cL_law : ByteArray := code
def yL_law : MethodName := ⟨RL, "law", "([I)Z"⟩
abbrev vwCl : List vw_C := [(RX0, TX0, 7), (RX1, TX1, 6), (RX2, TX2, 7), (RX3, TX3, 5), (RX4, TX4, 2), (RX5, TX5, 3), (RX6, TX6, 3), (RX7, TX7, 4), (RX8, TX8, 10), (RX9, TX9, 24)]
theorem inX0 : ∀ w ∈ wsX00, w ∈ lw_tbl := by decide +kernel
theorem inX1 : ∀ w ∈ wsX10, w ∈ lw_tbl := by decide +kernel
theorem inX2 : ∀ w ∈ wsX20, w ∈ lw_tbl := by decide +kernel
theorem inX3 : ∀ w ∈ wsX30, w ∈ lw_tbl := by decide +kernel
theorem inX4 : ∀ w ∈ wsX40, w ∈ lw_tbl := by decide +kernel
theorem inX5 : ∀ w ∈ wsX50, w ∈ lw_tbl := by decide +kernel
theorem inX6 : ∀ w ∈ wsX60, w ∈ lw_tbl := by decide +kernel
theorem inX7 : ∀ w ∈ wsX70, w ∈ lw_tbl := by decide +kernel
theorem inX8 : ∀ w ∈ wsX80, w ∈ lw_tbl := by decide +kernel
theorem inX9 : ∀ w ∈ wsX90, w ∈ lw_tbl := by decide +kernel
end
section
theorem dX0_init_0 : decode cX0_init 0 = .ok (.aload_n 0, 1) := by decide +kernel
theorem dX0_init_1 : decode cX0_init 1 = .ok (.invokespecial 3, 3) := by decide +kernel
theorem dX0_init_4 : decode cX0_init 4 = .ok (.aload_n 0, 1) := by decide +kernel
theorem dX0_init_5 : decode cX0_init 5 = .ok (.bipush 6, 2) := by decide +kernel
theorem dX0_init_7 : decode cX0_init 7 = .ok (.newarray .int, 2) := by decide +kernel
theorem dX0_init_9 : decode cX0_init 9 = .ok (.putfield 9, 3) := by decide +kernel
theorem dX0_init_12 : decode cX0_init 12 = .ok (.aload_n 0, 1) := by decide +kernel
theorem dX0_init_13 : decode cX0_init 13 = .ok (.bipush 6, 2) := by decide +kernel
theorem dX0_init_15 : decode cX0_init 15 = .ok (.newarray .int, 2) := by decide +kernel
theorem dX0_init_17 : decode cX0_init 17 = .ok (.putfield 15, 3) := by decide +kernel
theorem dX0_init_20 : decode cX0_init 20 = .ok (.aload_n 0, 1) := by decide +kernel
theorem dX0_init_21 : decode cX0_init 21 = .ok (.bipush 6, 2) := by decide +kernel
theorem dX0_init_23 : decode cX0_init 23 = .ok (.newarray .int, 2) := by decide +kernel
theorem dX0_init_25 : decode cX0_init 25 = .ok (.putfield 18, 3) := by decide +kernel
theorem dX0_init_28 : decode cX0_init 28 = .ok (.aload_n 0, 1) := by decide +kernel
theorem dX0_init_29 : decode cX0_init 29 = .ok (.new 21, 3) := by decide +kernel
theorem dX0_init_32 : decode cX0_init 32 = .ok (.dup, 1) := by decide +kernel
theorem dX0_init_33 : decode cX0_init 33 = .ok (.invokespecial 23, 3) := by decide +kernel
theorem dX0_init_36 : decode cX0_init 36 = .ok (.putfield 24, 3) := by decide +kernel
theorem dX0_init_39 : decode cX0_init 39 = .ok (.aload_n 0, 1) := by decide +kernel
theorem dX0_init_40 : decode cX0_init 40 = .ok (.iconst 2, 1) := by decide +kernel
theorem dX0_init_41 : decode cX0_init 41 = .ok (.putfield 28, 3) := by decide +kernel
theorem dX0_init_44 : decode cX0_init 44 = .ok (.aload_n 0, 1) := by decide +kernel
theorem dX0_init_45 : decode cX0_init 45 = .ok (.iconst 3, 1) := by decide +kernel
theorem dX0_init_46 : decode cX0_init 46 = .ok (.newarray .int, 2) := by decide +kernel
theorem dX0_init_48 : decode cX0_init 48 = .ok (.putfield 32, 3) := by decide +kernel
theorem dX0_init_51 : decode cX0_init 51 = .ok (.return_, 1) := by decide +kernel
theorem dX0_read_0 : decode cX0_read 0 = .ok (.aload_n 0, 1) := by decide +kernel
theorem dX0_read_1 : decode cX0_read 1 = .ok (.iconst 0, 1) := by decide +kernel
theorem dX0_read_2 : decode cX0_read 2 = .ok (.putfield 35, 3) := by decide +kernel
theorem dX0_read_5 : decode cX0_read 5 = .ok (.aload_n 0, 1) := by decide +kernel
theorem dX0_read_6 : decode cX0_read 6 = .ok (.getfield 24, 3) := by decide +kernel
theorem dX0_read_9 : decode cX0_read 9 = .ok (.invokevirtual 38, 3) := by decide +kernel
theorem dX0_read_12 : decode cX0_read 12 = .ok (.aload_n 0, 1) := by decide +kernel
theorem dX0_read_13 : decode cX0_read 13 = .ok (.iconst 2, 1) := by decide +kernel
theorem dX0_read_14 : decode cX0_read 14 = .ok (.putfield 28, 3) := by decide +kernel
theorem dX0_read_17 : decode cX0_read 17 = .ok (.iconst 0, 1) := by decide +kernel
theorem dX0_read_18 : decode cX0_read 18 = .ok (.istore_n 2, 1) := by decide +kernel
theorem dX0_read_19 : decode cX0_read 19 = .ok (.iconst 0, 1) := by decide +kernel
theorem dX0_read_20 : decode cX0_read 20 = .ok (.istore_n 3, 1) := by decide +kernel
theorem dX0_read_21 : decode cX0_read 21 = .ok (.iload_n 3, 1) := by decide +kernel
theorem dX0_read_22 : decode cX0_read 22 = .ok (.sipush 200, 3) := by decide +kernel
theorem dX0_read_25 : decode cX0_read 25 = .ok (.if_icmp .ge 58, 3) := by decide +kernel
theorem dX0_read_28 : decode cX0_read 28 = .ok (.iload_n 2, 1) := by decide +kernel
theorem dX0_read_29 : decode cX0_read 29 = .ok (.aload_n 1, 1) := by decide +kernel
theorem dX0_read_30 : decode cX0_read 30 = .ok (.getfield 41, 3) := by decide +kernel
theorem dX0_read_33 : decode cX0_read 33 = .ok (.if_icmp .ge 50, 3) := by decide +kernel
theorem dX0_read_36 : decode cX0_read 36 = .ok (.aload_n 1, 1) := by decide +kernel
theorem dX0_read_37 : decode cX0_read 37 = .ok (.iload_n 2, 1) := by decide +kernel
theorem dX0_read_38 : decode cX0_read 38 = .ok (.invokevirtual 46, 3) := by decide +kernel
theorem dX0_read_41 : decode cX0_read 41 = .ok (.istore 4, 2) := by decide +kernel
theorem dX0_read_43 : decode cX0_read 43 = .ok (.aload_n 0, 1) := by decide +kernel
theorem dX0_read_44 : decode cX0_read 44 = .ok (.aload_n 1, 1) := by decide +kernel
theorem dX0_read_45 : decode cX0_read 45 = .ok (.iload_n 2, 1) := by decide +kernel
theorem dX0_read_46 : decode cX0_read 46 = .ok (.iconst 1, 1) := by decide +kernel
theorem dX0_read_47 : decode cX0_read 47 = .ok (.iadd, 1) := by decide +kernel
theorem dX0_read_48 : decode cX0_read 48 = .ok (.iload 4, 2) := by decide +kernel
theorem dX0_read_50 : decode cX0_read 50 = .ok (.invokestatic 50, 3) := by decide +kernel
theorem dX0_read_53 : decode cX0_read 53 = .ok (.invokevirtual 53, 3) := by decide +kernel
theorem dX0_read_56 : decode cX0_read 56 = .ok (.istore 5, 2) := by decide +kernel
theorem dX0_read_58 : decode cX0_read 58 = .ok (.iload 5, 2) := by decide +kernel
theorem dX0_read_60 : decode cX0_read 60 = .ok (.ifCond .lt 12, 3) := by decide +kernel
theorem dX0_read_63 : decode cX0_read 63 = .ok (.aload_n 0, 1) := by decide +kernel
theorem dX0_read_64 : decode cX0_read 64 = .ok (.iload 4, 2) := by decide +kernel
theorem dX0_read_66 : decode cX0_read 66 = .ok (.invokevirtual 57, 3) := by decide +kernel
theorem dX0_read_69 : decode cX0_read 69 = .ok (.ifCond .ne 5, 3) := by decide +kernel
theorem dX0_read_72 : decode cX0_read 72 = .ok (.iload_n 2, 1) := by decide +kernel
theorem dX0_read_73 : decode cX0_read 73 = .ok (.ireturn, 1) := by decide +kernel
theorem dX0_read_74 : decode cX0_read 74 = .ok (.iload 5, 2) := by decide +kernel
theorem dX0_read_76 : decode cX0_read 76 = .ok (.istore_n 2, 1) := by decide +kernel
theorem dX0_read_77 : decode cX0_read 77 = .ok (.iinc 3 1, 3) := by decide +kernel
theorem dX0_read_80 : decode cX0_read 80 = .ok (.goto (-59), 3) := by decide +kernel
theorem dX0_read_83 : decode cX0_read 83 = .ok (.bipush (-4), 2) := by decide +kernel
theorem dX0_read_85 : decode cX0_read 85 = .ok (.ireturn, 1) := by decide +kernel
theorem dX0_numbersOf_0 : decode cX0_numbersOf 0 = .ok (.iload_n 0, 1) := by decide +kernel
theorem dX0_numbersOf_1 : decode cX0_numbersOf 1 = .ok (.bipush 112, 2) := by decide +kernel
theorem dX0_numbersOf_3 : decode cX0_numbersOf 3 = .ok (.if_icmp .eq 9, 3) := by decide +kernel
theorem dX0_numbersOf_6 : decode cX0_numbersOf 6 = .ok (.iload_n 0, 1) := by decide +kernel
theorem dX0_numbersOf_7 : decode cX0_numbersOf 7 = .ok (.bipush 116, 2) := by decide +kernel
theorem dX0_numbersOf_9 : decode cX0_numbersOf 9 = .ok (.if_icmp .ne 5, 3) := by decide +kernel
theorem dX0_numbersOf_12 : decode cX0_numbersOf 12 = .ok (.iconst 3, 1) := by decide +kernel
theorem dX0_numbersOf_13 : decode cX0_numbersOf 13 = .ok (.ireturn, 1) := by decide +kernel
theorem dX0_numbersOf_14 : decode cX0_numbersOf 14 = .ok (.iload_n 0, 1) := by decide +kernel
theorem dX0_numbersOf_15 : decode cX0_numbersOf 15 = .ok (.bipush 102, 2) := by decide +kernel
theorem dX0_numbersOf_17 : decode cX0_numbersOf 17 = .ok (.if_icmp .ne 7, 3) := by decide +kernel
theorem dX0_numbersOf_20 : decode cX0_numbersOf 20 = .ok (.iconst 1, 1) := by decide +kernel
theorem dX0_numbersOf_21 : decode cX0_numbersOf 21 = .ok (.goto 4, 3) := by decide +kernel
theorem dX0_numbersOf_24 : decode cX0_numbersOf 24 = .ok (.iconst 0, 1) := by decide +kernel
theorem dX0_numbersOf_25 : decode cX0_numbersOf 25 = .ok (.ireturn, 1) := by decide +kernel
theorem dX0_readNumbers_0 : decode cX0_readNumbers 0 = .ok (.iload_n 3, 1) := by decide +kernel
theorem dX0_readNumbers_1 : decode cX0_readNumbers 1 = .ok (.ifCond .le 7, 3) := by decide +kernel
theorem dX0_readNumbers_4 : decode cX0_readNumbers 4 = .ok (.iload_n 2, 1) := by decide +kernel
theorem dX0_readNumbers_5 : decode cX0_readNumbers 5 = .ok (.goto 4, 3) := by decide +kernel
theorem dX0_readNumbers_8 : decode cX0_readNumbers 8 = .ok (.iconst (-1), 1) := by decide +kernel
theorem dX0_readNumbers_9 : decode cX0_readNumbers 9 = .ok (.istore 4, 2) := by decide +kernel
theorem dX0_readNumbers_11 : decode cX0_readNumbers 11 = .ok (.iconst 0, 1) := by decide +kernel
theorem dX0_readNumbers_12 : decode cX0_readNumbers 12 = .ok (.istore 5, 2) := by decide +kernel
theorem dX0_readNumbers_14 : decode cX0_readNumbers 14 = .ok (.iload 5, 2) := by decide +kernel
theorem dX0_readNumbers_16 : decode cX0_readNumbers 16 = .ok (.iload_n 3, 1) := by decide +kernel
theorem dX0_readNumbers_17 : decode cX0_readNumbers 17 = .ok (.if_icmp .ge 101, 3) := by decide +kernel
theorem dX0_readNumbers_20 : decode cX0_readNumbers 20 = .ok (.iload 5, 2) := by decide +kernel
theorem dX0_readNumbers_22 : decode cX0_readNumbers 22 = .ok (.aload_n 0, 1) := by decide +kernel
theorem dX0_readNumbers_23 : decode cX0_readNumbers 23 = .ok (.getfield 32, 3) := by decide +kernel
theorem dX0_readNumbers_26 : decode cX0_readNumbers 26 = .ok (.arraylength, 1) := by decide +kernel
theorem dX0_readNumbers_27 : decode cX0_readNumbers 27 = .ok (.if_icmp .ge 91, 3) := by decide +kernel
theorem dX0_readNumbers_30 : decode cX0_readNumbers 30 = .ok (.iload 4, 2) := by decide +kernel
theorem dX0_readNumbers_32 : decode cX0_readNumbers 32 = .ok (.ifCond .lt 86, 3) := by decide +kernel
theorem dX0_readNumbers_35 : decode cX0_readNumbers 35 = .ok (.aload_n 1, 1) := by decide +kernel
theorem dX0_readNumbers_36 : decode cX0_readNumbers 36 = .ok (.iload 4, 2) := by decide +kernel
theorem dX0_readNumbers_38 : decode cX0_readNumbers 38 = .ok (.invokevirtual 61, 3) := by decide +kernel
theorem dX0_readNumbers_41 : decode cX0_readNumbers 41 = .ok (.istore 6, 2) := by decide +kernel
theorem dX0_readNumbers_43 : decode cX0_readNumbers 43 = .ok (.aload_n 1, 1) := by decide +kernel
theorem dX0_readNumbers_44 : decode cX0_readNumbers 44 = .ok (.iload 4, 2) := by decide +kernel
theorem dX0_readNumbers_46 : decode cX0_readNumbers 46 = .ok (.iload 6, 2) := by decide +kernel
theorem dX0_readNumbers_48 : decode cX0_readNumbers 48 = .ok (.iadd, 1) := by decide +kernel
theorem dX0_readNumbers_49 : decode cX0_readNumbers 49 = .ok (.invokevirtual 46, 3) := by decide +kernel
theorem dX0_readNumbers_52 : decode cX0_readNumbers 52 = .ok (.istore 7, 2) := by decide +kernel
theorem dX0_readNumbers_54 : decode cX0_readNumbers 54 = .ok (.iload 6, 2) := by decide +kernel
theorem dX0_readNumbers_56 : decode cX0_readNumbers 56 = .ok (.iconst 1, 1) := by decide +kernel
theorem dX0_readNumbers_57 : decode cX0_readNumbers 57 = .ok (.if_icmp .lt 29, 3) := by decide +kernel
theorem dX0_readNumbers_60 : decode cX0_readNumbers 60 = .ok (.iload 6, 2) := by decide +kernel
theorem dX0_readNumbers_62 : decode cX0_readNumbers 62 = .ok (.iconst 2, 1) := by decide +kernel
theorem dX0_readNumbers_63 : decode cX0_readNumbers 63 = .ok (.if_icmp .gt 23, 3) := by decide +kernel
theorem dX0_readNumbers_66 : decode cX0_readNumbers 66 = .ok (.iload 7, 2) := by decide +kernel
theorem dX0_readNumbers_68 : decode cX0_readNumbers 68 = .ok (.iload 5, 2) := by decide +kernel
theorem dX0_readNumbers_70 : decode cX0_readNumbers 70 = .ok (.iload_n 3, 1) := by decide +kernel
theorem dX0_readNumbers_71 : decode cX0_readNumbers 71 = .ok (.iconst 1, 1) := by decide +kernel
theorem dX0_readNumbers_72 : decode cX0_readNumbers 72 = .ok (.isub, 1) := by decide +kernel
theorem dX0_readNumbers_73 : decode cX0_readNumbers 73 = .ok (.if_icmp .ne 8, 3) := by decide +kernel
theorem dX0_readNumbers_76 : decode cX0_readNumbers 76 = .ok (.bipush 59, 2) := by decide +kernel
theorem dX0_readNumbers_78 : decode cX0_readNumbers 78 = .ok (.goto 5, 3) := by decide +kernel
theorem dX0_readNumbers_81 : decode cX0_readNumbers 81 = .ok (.bipush 44, 2) := by decide +kernel
theorem dX0_readNumbers_83 : decode cX0_readNumbers 83 = .ok (.if_icmp .eq 5, 3) := by decide +kernel
theorem dX0_readNumbers_86 : decode cX0_readNumbers 86 = .ok (.iconst (-1), 1) := by decide +kernel
theorem dX0_readNumbers_87 : decode cX0_readNumbers 87 = .ok (.ireturn, 1) := by decide +kernel
theorem dX0_readNumbers_88 : decode cX0_readNumbers 88 = .ok (.aload_n 0, 1) := by decide +kernel
theorem dX0_readNumbers_89 : decode cX0_readNumbers 89 = .ok (.getfield 32, 3) := by decide +kernel
theorem dX0_readNumbers_92 : decode cX0_readNumbers 92 = .ok (.iload 5, 2) := by decide +kernel
theorem dX0_readNumbers_94 : decode cX0_readNumbers 94 = .ok (.aload_n 1, 1) := by decide +kernel
theorem dX0_readNumbers_95 : decode cX0_readNumbers 95 = .ok (.iload 4, 2) := by decide +kernel
theorem dX0_readNumbers_97 : decode cX0_readNumbers 97 = .ok (.iload 6, 2) := by decide +kernel
theorem dX0_readNumbers_99 : decode cX0_readNumbers 99 = .ok (.invokevirtual 64, 3) := by decide +kernel
theorem dX0_readNumbers_102 : decode cX0_readNumbers 102 = .ok (.iastore, 1) := by decide +kernel
theorem dX0_readNumbers_103 : decode cX0_readNumbers 103 = .ok (.iload 4, 2) := by decide +kernel
theorem dX0_readNumbers_105 : decode cX0_readNumbers 105 = .ok (.iload 6, 2) := by decide +kernel
theorem dX0_readNumbers_107 : decode cX0_readNumbers 107 = .ok (.iconst 1, 1) := by decide +kernel
theorem dX0_readNumbers_108 : decode cX0_readNumbers 108 = .ok (.iadd, 1) := by decide +kernel
theorem dX0_readNumbers_109 : decode cX0_readNumbers 109 = .ok (.iadd, 1) := by decide +kernel
theorem dX0_readNumbers_110 : decode cX0_readNumbers 110 = .ok (.istore 4, 2) := by decide +kernel
theorem dX0_readNumbers_112 : decode cX0_readNumbers 112 = .ok (.iinc 5 1, 3) := by decide +kernel
theorem dX0_readNumbers_115 : decode cX0_readNumbers 115 = .ok (.goto (-101), 3) := by decide +kernel
theorem dX0_readNumbers_118 : decode cX0_readNumbers 118 = .ok (.iload 4, 2) := by decide +kernel
theorem dX0_readNumbers_120 : decode cX0_readNumbers 120 = .ok (.ireturn, 1) := by decide +kernel
theorem dX0_takes_0 : decode cX0_takes 0 = .ok (.iload_n 1, 1) := by decide +kernel
theorem dX0_takes_1 : decode cX0_takes 1 = .ok (.lookupswitch 92 #[(102, 81), (112, 35), (116, 58)], 35) := by decide +kernel
theorem dX0_takes_36 : decode cX0_takes 36 = .ok (.aload_n 0, 1) := by decide +kernel
theorem dX0_takes_37 : decode cX0_takes 37 = .ok (.aload_n 0, 1) := by decide +kernel
theorem dX0_takes_38 : decode cX0_takes 38 = .ok (.getfield 32, 3) := by decide +kernel
theorem dX0_takes_41 : decode cX0_takes 41 = .ok (.iconst 0, 1) := by decide +kernel
theorem dX0_takes_42 : decode cX0_takes 42 = .ok (.iaload, 1) := by decide +kernel
theorem dX0_takes_43 : decode cX0_takes 43 = .ok (.aload_n 0, 1) := by decide +kernel
theorem dX0_takes_44 : decode cX0_takes 44 = .ok (.getfield 32, 3) := by decide +kernel
theorem dX0_takes_47 : decode cX0_takes 47 = .ok (.iconst 1, 1) := by decide +kernel
theorem dX0_takes_48 : decode cX0_takes 48 = .ok (.iaload, 1) := by decide +kernel
theorem dX0_takes_49 : decode cX0_takes 49 = .ok (.aload_n 0, 1) := by decide +kernel
theorem dX0_takes_50 : decode cX0_takes 50 = .ok (.getfield 32, 3) := by decide +kernel
theorem dX0_takes_53 : decode cX0_takes 53 = .ok (.iconst 2, 1) := by decide +kernel
theorem dX0_takes_54 : decode cX0_takes 54 = .ok (.iaload, 1) := by decide +kernel
theorem dX0_takes_55 : decode cX0_takes 55 = .ok (.invokevirtual 68, 3) := by decide +kernel
theorem dX0_takes_58 : decode cX0_takes 58 = .ok (.ireturn, 1) := by decide +kernel
theorem dX0_takes_59 : decode cX0_takes 59 = .ok (.aload_n 0, 1) := by decide +kernel
theorem dX0_takes_60 : decode cX0_takes 60 = .ok (.aload_n 0, 1) := by decide +kernel
theorem dX0_takes_61 : decode cX0_takes 61 = .ok (.getfield 32, 3) := by decide +kernel
theorem dX0_takes_64 : decode cX0_takes 64 = .ok (.iconst 0, 1) := by decide +kernel
theorem dX0_takes_65 : decode cX0_takes 65 = .ok (.iaload, 1) := by decide +kernel
theorem dX0_takes_66 : decode cX0_takes 66 = .ok (.aload_n 0, 1) := by decide +kernel
theorem dX0_takes_67 : decode cX0_takes 67 = .ok (.getfield 32, 3) := by decide +kernel
theorem dX0_takes_70 : decode cX0_takes 70 = .ok (.iconst 1, 1) := by decide +kernel
theorem dX0_takes_71 : decode cX0_takes 71 = .ok (.iaload, 1) := by decide +kernel
theorem dX0_takes_72 : decode cX0_takes 72 = .ok (.aload_n 0, 1) := by decide +kernel
theorem dX0_takes_73 : decode cX0_takes 73 = .ok (.getfield 32, 3) := by decide +kernel
theorem dX0_takes_76 : decode cX0_takes 76 = .ok (.iconst 2, 1) := by decide +kernel
theorem dX0_takes_77 : decode cX0_takes 77 = .ok (.iaload, 1) := by decide +kernel
theorem dX0_takes_78 : decode cX0_takes 78 = .ok (.invokevirtual 72, 3) := by decide +kernel
theorem dX0_takes_81 : decode cX0_takes 81 = .ok (.ireturn, 1) := by decide +kernel
theorem dX0_takes_82 : decode cX0_takes 82 = .ok (.aload_n 0, 1) := by decide +kernel
theorem dX0_takes_83 : decode cX0_takes 83 = .ok (.aload_n 0, 1) := by decide +kernel
theorem dX0_takes_84 : decode cX0_takes 84 = .ok (.getfield 32, 3) := by decide +kernel
theorem dX0_takes_87 : decode cX0_takes 87 = .ok (.iconst 0, 1) := by decide +kernel
theorem dX0_takes_88 : decode cX0_takes 88 = .ok (.iaload, 1) := by decide +kernel
theorem dX0_takes_89 : decode cX0_takes 89 = .ok (.invokevirtual 75, 3) := by decide +kernel
theorem dX0_takes_92 : decode cX0_takes 92 = .ok (.ireturn, 1) := by decide +kernel
theorem dX0_takes_93 : decode cX0_takes 93 = .ok (.iconst 0, 1) := by decide +kernel
theorem dX0_takes_94 : decode cX0_takes 94 = .ok (.ireturn, 1) := by decide +kernel
theorem dX0_takesPerson_0 : decode cX0_takesPerson 0 = .ok (.aload_n 0, 1) := by decide +kernel
theorem dX0_takesPerson_1 : decode cX0_takesPerson 1 = .ok (.getfield 35, 3) := by decide +kernel
theorem dX0_takesPerson_4 : decode cX0_takesPerson 4 = .ok (.bipush 6, 2) := by decide +kernel
theorem dX0_takesPerson_6 : decode cX0_takesPerson 6 = .ok (.if_icmp .ge 29, 3) := by decide +kernel
theorem dX0_takesPerson_9 : decode cX0_takesPerson 9 = .ok (.iload_n 1, 1) := by decide +kernel
theorem dX0_takesPerson_10 : decode cX0_takesPerson 10 = .ok (.ifCond .lt 25, 3) := by decide +kernel
theorem dX0_takesPerson_13 : decode cX0_takesPerson 13 = .ok (.iload_n 1, 1) := by decide +kernel
theorem dX0_takesPerson_14 : decode cX0_takesPerson 14 = .ok (.iconst 3, 1) := by decide +kernel
theorem dX0_takesPerson_15 : decode cX0_takesPerson 15 = .ok (.if_icmp .gt 20, 3) := by decide +kernel
theorem dX0_takesPerson_18 : decode cX0_takesPerson 18 = .ok (.iload_n 2, 1) := by decide +kernel
theorem dX0_takesPerson_19 : decode cX0_takesPerson 19 = .ok (.bipush 31, 2) := by decide +kernel
theorem dX0_takesPerson_21 : decode cX0_takesPerson 21 = .ok (.if_icmp .gt 14, 3) := by decide +kernel
theorem dX0_takesPerson_24 : decode cX0_takesPerson 24 = .ok (.iload_n 3, 1) := by decide +kernel
theorem dX0_takesPerson_25 : decode cX0_takesPerson 25 = .ok (.iconst 1, 1) := by decide +kernel
theorem dX0_takesPerson_26 : decode cX0_takesPerson 26 = .ok (.if_icmp .lt 9, 3) := by decide +kernel
theorem dX0_takesPerson_29 : decode cX0_takesPerson 29 = .ok (.iload_n 3, 1) := by decide +kernel
theorem dX0_takesPerson_30 : decode cX0_takesPerson 30 = .ok (.bipush 60, 2) := by decide +kernel
theorem dX0_takesPerson_32 : decode cX0_takesPerson 32 = .ok (.if_icmp .le 5, 3) := by decide +kernel
theorem dX0_takesPerson_35 : decode cX0_takesPerson 35 = .ok (.iconst 0, 1) := by decide +kernel
theorem dX0_takesPerson_36 : decode cX0_takesPerson 36 = .ok (.ireturn, 1) := by decide +kernel
theorem dX0_takesPerson_37 : decode cX0_takesPerson 37 = .ok (.aload_n 0, 1) := by decide +kernel
theorem dX0_takesPerson_38 : decode cX0_takesPerson 38 = .ok (.getfield 9, 3) := by decide +kernel
theorem dX0_takesPerson_41 : decode cX0_takesPerson 41 = .ok (.aload_n 0, 1) := by decide +kernel
theorem dX0_takesPerson_42 : decode cX0_takesPerson 42 = .ok (.getfield 35, 3) := by decide +kernel
theorem dX0_takesPerson_45 : decode cX0_takesPerson 45 = .ok (.iload_n 1, 1) := by decide +kernel
theorem dX0_takesPerson_46 : decode cX0_takesPerson 46 = .ok (.iastore, 1) := by decide +kernel
theorem dX0_takesPerson_47 : decode cX0_takesPerson 47 = .ok (.aload_n 0, 1) := by decide +kernel
theorem dX0_takesPerson_48 : decode cX0_takesPerson 48 = .ok (.getfield 15, 3) := by decide +kernel
theorem dX0_takesPerson_51 : decode cX0_takesPerson 51 = .ok (.aload_n 0, 1) := by decide +kernel
theorem dX0_takesPerson_52 : decode cX0_takesPerson 52 = .ok (.getfield 35, 3) := by decide +kernel
theorem dX0_takesPerson_55 : decode cX0_takesPerson 55 = .ok (.iload_n 2, 1) := by decide +kernel
theorem dX0_takesPerson_56 : decode cX0_takesPerson 56 = .ok (.iastore, 1) := by decide +kernel
theorem dX0_takesPerson_57 : decode cX0_takesPerson 57 = .ok (.aload_n 0, 1) := by decide +kernel
theorem dX0_takesPerson_58 : decode cX0_takesPerson 58 = .ok (.getfield 18, 3) := by decide +kernel
theorem dX0_takesPerson_61 : decode cX0_takesPerson 61 = .ok (.aload_n 0, 1) := by decide +kernel
theorem dX0_takesPerson_62 : decode cX0_takesPerson 62 = .ok (.getfield 35, 3) := by decide +kernel
theorem dX0_takesPerson_65 : decode cX0_takesPerson 65 = .ok (.iload_n 3, 1) := by decide +kernel
theorem dX0_takesPerson_66 : decode cX0_takesPerson 66 = .ok (.iastore, 1) := by decide +kernel
theorem dX0_takesPerson_67 : decode cX0_takesPerson 67 = .ok (.aload_n 0, 1) := by decide +kernel
theorem dX0_takesPerson_68 : decode cX0_takesPerson 68 = .ok (.dup, 1) := by decide +kernel
theorem dX0_takesPerson_69 : decode cX0_takesPerson 69 = .ok (.getfield 35, 3) := by decide +kernel
theorem dX0_takesPerson_72 : decode cX0_takesPerson 72 = .ok (.iconst 1, 1) := by decide +kernel
theorem dX0_takesPerson_73 : decode cX0_takesPerson 73 = .ok (.iadd, 1) := by decide +kernel
theorem dX0_takesPerson_74 : decode cX0_takesPerson 74 = .ok (.putfield 35, 3) := by decide +kernel
theorem dX0_takesPerson_77 : decode cX0_takesPerson 77 = .ok (.iconst 1, 1) := by decide +kernel
theorem dX0_takesPerson_78 : decode cX0_takesPerson 78 = .ok (.ireturn, 1) := by decide +kernel
theorem dX0_takesThing_0 : decode cX0_takesThing 0 = .ok (.iload_n 1, 1) := by decide +kernel
theorem dX0_takesThing_1 : decode cX0_takesThing 1 = .ok (.bipush 60, 2) := by decide +kernel
theorem dX0_takesThing_3 : decode cX0_takesThing 3 = .ok (.if_icmp .gt 34, 3) := by decide +kernel
theorem dX0_takesThing_6 : decode cX0_takesThing 6 = .ok (.iload_n 2, 1) := by decide +kernel
theorem dX0_takesThing_7 : decode cX0_takesThing 7 = .ok (.invokestatic 78, 3) := by decide +kernel
theorem dX0_takesThing_10 : decode cX0_takesThing 10 = .ok (.ifCond .eq 27, 3) := by decide +kernel
theorem dX0_takesThing_13 : decode cX0_takesThing 13 = .ok (.iload_n 3, 1) := by decide +kernel
theorem dX0_takesThing_14 : decode cX0_takesThing 14 = .ok (.invokestatic 81, 3) := by decide +kernel
theorem dX0_takesThing_17 : decode cX0_takesThing 17 = .ok (.ifCond .eq 20, 3) := by decide +kernel
theorem dX0_takesThing_20 : decode cX0_takesThing 20 = .ok (.aload_n 0, 1) := by decide +kernel
theorem dX0_takesThing_21 : decode cX0_takesThing 21 = .ok (.getfield 24, 3) := by decide +kernel
theorem dX0_takesThing_24 : decode cX0_takesThing 24 = .ok (.iload_n 1, 1) := by decide +kernel
theorem dX0_takesThing_25 : decode cX0_takesThing 25 = .ok (.iload_n 2, 1) := by decide +kernel
theorem dX0_takesThing_26 : decode cX0_takesThing 26 = .ok (.iload_n 3, 1) := by decide +kernel
theorem dX0_takesThing_27 : decode cX0_takesThing 27 = .ok (.invokevirtual 84, 3) := by decide +kernel
theorem dX0_takesThing_30 : decode cX0_takesThing 30 = .ok (.ifCond .eq 7, 3) := by decide +kernel
theorem dX0_takesThing_33 : decode cX0_takesThing 33 = .ok (.iconst 1, 1) := by decide +kernel
theorem dX0_takesThing_34 : decode cX0_takesThing 34 = .ok (.goto 4, 3) := by decide +kernel
theorem dX0_takesThing_37 : decode cX0_takesThing 37 = .ok (.iconst 0, 1) := by decide +kernel
theorem dX0_takesThing_38 : decode cX0_takesThing 38 = .ok (.ireturn, 1) := by decide +kernel
theorem dX0_takesFade_0 : decode cX0_takesFade 0 = .ok (.iload_n 1, 1) := by decide +kernel
theorem dX0_takesFade_1 : decode cX0_takesFade 1 = .ok (.iconst 1, 1) := by decide +kernel
theorem dX0_takesFade_2 : decode cX0_takesFade 2 = .ok (.if_icmp .lt 9, 3) := by decide +kernel
theorem dX0_takesFade_5 : decode cX0_takesFade 5 = .ok (.iload_n 1, 1) := by decide +kernel
theorem dX0_takesFade_6 : decode cX0_takesFade 6 = .ok (.bipush 9, 2) := by decide +kernel
theorem dX0_takesFade_8 : decode cX0_takesFade 8 = .ok (.if_icmp .le 5, 3) := by decide +kernel
theorem dX0_takesFade_11 : decode cX0_takesFade 11 = .ok (.iconst 0, 1) := by decide +kernel
theorem dX0_takesFade_12 : decode cX0_takesFade 12 = .ok (.ireturn, 1) := by decide +kernel
theorem dX0_takesFade_13 : decode cX0_takesFade 13 = .ok (.aload_n 0, 1) := by decide +kernel
theorem dX0_takesFade_14 : decode cX0_takesFade 14 = .ok (.iload_n 1, 1) := by decide +kernel
theorem dX0_takesFade_15 : decode cX0_takesFade 15 = .ok (.putfield 28, 3) := by decide +kernel
theorem dX0_takesFade_18 : decode cX0_takesFade 18 = .ok (.iconst 1, 1) := by decide +kernel
theorem dX0_takesFade_19 : decode cX0_takesFade 19 = .ok (.ireturn, 1) := by decide +kernel
theorem dX0_faded_0 : decode cX0_faded 0 = .ok (.aload_n 0, 1) := by decide +kernel
theorem dX0_faded_1 : decode cX0_faded 1 = .ok (.getfield 28, 3) := by decide +kernel
theorem dX0_faded_4 : decode cX0_faded 4 = .ok (.ifCond .le 12, 3) := by decide +kernel
theorem dX0_faded_7 : decode cX0_faded 7 = .ok (.iload_n 1, 1) := by decide +kernel
theorem dX0_faded_8 : decode cX0_faded 8 = .ok (.aload_n 0, 1) := by decide +kernel
theorem dX0_faded_9 : decode cX0_faded 9 = .ok (.getfield 28, 3) := by decide +kernel
theorem dX0_faded_12 : decode cX0_faded 12 = .ok (.idiv, 1) := by decide +kernel
theorem dX0_faded_13 : decode cX0_faded 13 = .ok (.goto 4, 3) := by decide +kernel
theorem dX0_faded_16 : decode cX0_faded 16 = .ok (.iload_n 1, 1) := by decide +kernel
theorem dX0_faded_17 : decode cX0_faded 17 = .ok (.ireturn, 1) := by decide +kernel
theorem dX0_standsOf_0 : decode cX0_standsOf 0 = .ok (.iload_n 1, 1) := by decide +kernel
theorem dX0_standsOf_1 : decode cX0_standsOf 1 = .ok (.ifCond .lt 18, 3) := by decide +kernel
theorem dX0_standsOf_4 : decode cX0_standsOf 4 = .ok (.iload_n 1, 1) := by decide +kernel
theorem dX0_standsOf_5 : decode cX0_standsOf 5 = .ok (.bipush 6, 2) := by decide +kernel
theorem dX0_standsOf_7 : decode cX0_standsOf 7 = .ok (.if_icmp .ge 12, 3) := by decide +kernel
theorem dX0_standsOf_10 : decode cX0_standsOf 10 = .ok (.aload_n 0, 1) := by decide +kernel
theorem dX0_standsOf_11 : decode cX0_standsOf 11 = .ok (.getfield 18, 3) := by decide +kernel
theorem dX0_standsOf_14 : decode cX0_standsOf 14 = .ok (.iload_n 1, 1) := by decide +kernel
theorem dX0_standsOf_15 : decode cX0_standsOf 15 = .ok (.iaload, 1) := by decide +kernel
theorem dX0_standsOf_16 : decode cX0_standsOf 16 = .ok (.goto 5, 3) := by decide +kernel
theorem dX0_standsOf_19 : decode cX0_standsOf 19 = .ok (.bipush 60, 2) := by decide +kernel
theorem dX0_standsOf_21 : decode cX0_standsOf 21 = .ok (.ireturn, 1) := by decide +kernel
theorem dX1_init_0 : decode cX1_init 0 = .ok (.aload_n 0, 1) := by decide +kernel
theorem dX1_init_1 : decode cX1_init 1 = .ok (.invokespecial 3, 3) := by decide +kernel
theorem dX1_init_4 : decode cX1_init 4 = .ok (.aload_n 0, 1) := by decide +kernel
theorem dX1_init_5 : decode cX1_init 5 = .ok (.bipush 6, 2) := by decide +kernel
theorem dX1_init_7 : decode cX1_init 7 = .ok (.newarray .int, 2) := by decide +kernel
theorem dX1_init_9 : decode cX1_init 9 = .ok (.putfield 9, 3) := by decide +kernel
theorem dX1_init_12 : decode cX1_init 12 = .ok (.aload_n 0, 1) := by decide +kernel
theorem dX1_init_13 : decode cX1_init 13 = .ok (.new 15, 3) := by decide +kernel
theorem dX1_init_16 : decode cX1_init 16 = .ok (.dup, 1) := by decide +kernel
theorem dX1_init_17 : decode cX1_init 17 = .ok (.invokespecial 17, 3) := by decide +kernel
theorem dX1_init_20 : decode cX1_init 20 = .ok (.putfield 18, 3) := by decide +kernel
theorem dX1_init_23 : decode cX1_init 23 = .ok (.return_, 1) := by decide +kernel
theorem dX1_begin_0 : decode cX1_begin 0 = .ok (.aload_n 0, 1) := by decide +kernel
theorem dX1_begin_1 : decode cX1_begin 1 = .ok (.iconst 0, 1) := by decide +kernel
theorem dX1_begin_2 : decode cX1_begin 2 = .ok (.putfield 22, 3) := by decide +kernel
theorem dX1_begin_5 : decode cX1_begin 5 = .ok (.aload_n 0, 1) := by decide +kernel
theorem dX1_begin_6 : decode cX1_begin 6 = .ok (.iconst 0, 1) := by decide +kernel
theorem dX1_begin_7 : decode cX1_begin 7 = .ok (.putfield 26, 3) := by decide +kernel
theorem dX1_begin_10 : decode cX1_begin 10 = .ok (.aload_n 0, 1) := by decide +kernel
theorem dX1_begin_11 : decode cX1_begin 11 = .ok (.iconst 0, 1) := by decide +kernel
theorem dX1_begin_12 : decode cX1_begin 12 = .ok (.putfield 29, 3) := by decide +kernel
theorem dX1_begin_15 : decode cX1_begin 15 = .ok (.aload_n 0, 1) := by decide +kernel
theorem dX1_begin_16 : decode cX1_begin 16 = .ok (.iconst 0, 1) := by decide +kernel
theorem dX1_begin_17 : decode cX1_begin 17 = .ok (.putfield 32, 3) := by decide +kernel
theorem dX1_begin_20 : decode cX1_begin 20 = .ok (.aload_n 0, 1) := by decide +kernel
theorem dX1_begin_21 : decode cX1_begin 21 = .ok (.getfield 9, 3) := by decide +kernel
theorem dX1_begin_24 : decode cX1_begin 24 = .ok (.iconst 0, 1) := by decide +kernel
theorem dX1_begin_25 : decode cX1_begin 25 = .ok (.invokestatic 35, 3) := by decide +kernel
theorem dX1_begin_28 : decode cX1_begin 28 = .ok (.aload_n 0, 1) := by decide +kernel
theorem dX1_begin_29 : decode cX1_begin 29 = .ok (.getfield 18, 3) := by decide +kernel
theorem dX1_begin_32 : decode cX1_begin 32 = .ok (.aload_n 1, 1) := by decide +kernel
theorem dX1_begin_33 : decode cX1_begin 33 = .ok (.getfield 41, 3) := by decide +kernel
theorem dX1_begin_36 : decode cX1_begin 36 = .ok (.invokevirtual 44, 3) := by decide +kernel
theorem dX1_begin_39 : decode cX1_begin 39 = .ok (.return_, 1) := by decide +kernel
theorem dX1_copyFrom_0 : decode cX1_copyFrom 0 = .ok (.aload_n 0, 1) := by decide +kernel
theorem dX1_copyFrom_1 : decode cX1_copyFrom 1 = .ok (.aload_n 1, 1) := by decide +kernel
theorem dX1_copyFrom_2 : decode cX1_copyFrom 2 = .ok (.getfield 22, 3) := by decide +kernel
theorem dX1_copyFrom_5 : decode cX1_copyFrom 5 = .ok (.putfield 22, 3) := by decide +kernel
theorem dX1_copyFrom_8 : decode cX1_copyFrom 8 = .ok (.aload_n 0, 1) := by decide +kernel
theorem dX1_copyFrom_9 : decode cX1_copyFrom 9 = .ok (.aload_n 1, 1) := by decide +kernel
theorem dX1_copyFrom_10 : decode cX1_copyFrom 10 = .ok (.getfield 26, 3) := by decide +kernel
theorem dX1_copyFrom_13 : decode cX1_copyFrom 13 = .ok (.putfield 26, 3) := by decide +kernel
theorem dX1_copyFrom_16 : decode cX1_copyFrom 16 = .ok (.aload_n 0, 1) := by decide +kernel
theorem dX1_copyFrom_17 : decode cX1_copyFrom 17 = .ok (.aload_n 1, 1) := by decide +kernel
theorem dX1_copyFrom_18 : decode cX1_copyFrom 18 = .ok (.getfield 29, 3) := by decide +kernel
theorem dX1_copyFrom_21 : decode cX1_copyFrom 21 = .ok (.putfield 29, 3) := by decide +kernel
theorem dX1_copyFrom_24 : decode cX1_copyFrom 24 = .ok (.aload_n 0, 1) := by decide +kernel
theorem dX1_copyFrom_25 : decode cX1_copyFrom 25 = .ok (.aload_n 1, 1) := by decide +kernel
theorem dX1_copyFrom_26 : decode cX1_copyFrom 26 = .ok (.getfield 32, 3) := by decide +kernel
theorem dX1_copyFrom_29 : decode cX1_copyFrom 29 = .ok (.putfield 32, 3) := by decide +kernel
theorem dX1_copyFrom_32 : decode cX1_copyFrom 32 = .ok (.aload_n 1, 1) := by decide +kernel
theorem dX1_copyFrom_33 : decode cX1_copyFrom 33 = .ok (.getfield 9, 3) := by decide +kernel
theorem dX1_copyFrom_36 : decode cX1_copyFrom 36 = .ok (.iconst 0, 1) := by decide +kernel
theorem dX1_copyFrom_37 : decode cX1_copyFrom 37 = .ok (.aload_n 0, 1) := by decide +kernel
theorem dX1_copyFrom_38 : decode cX1_copyFrom 38 = .ok (.getfield 9, 3) := by decide +kernel
theorem dX1_copyFrom_41 : decode cX1_copyFrom 41 = .ok (.iconst 0, 1) := by decide +kernel
theorem dX1_copyFrom_42 : decode cX1_copyFrom 42 = .ok (.bipush 6, 2) := by decide +kernel
theorem dX1_copyFrom_44 : decode cX1_copyFrom 44 = .ok (.invokestatic 48, 3) := by decide +kernel
theorem dX1_copyFrom_47 : decode cX1_copyFrom 47 = .ok (.aload_n 0, 1) := by decide +kernel
theorem dX1_copyFrom_48 : decode cX1_copyFrom 48 = .ok (.getfield 18, 3) := by decide +kernel
theorem dX1_copyFrom_51 : decode cX1_copyFrom 51 = .ok (.aload_n 1, 1) := by decide +kernel
theorem dX1_copyFrom_52 : decode cX1_copyFrom 52 = .ok (.getfield 18, 3) := by decide +kernel
theorem dX1_copyFrom_55 : decode cX1_copyFrom 55 = .ok (.invokevirtual 44, 3) := by decide +kernel
theorem dX1_copyFrom_58 : decode cX1_copyFrom 58 = .ok (.return_, 1) := by decide +kernel
theorem dX1_isHidden_0 : decode cX1_isHidden 0 = .ok (.aload_n 0, 1) := by decide +kernel
theorem dX1_isHidden_1 : decode cX1_isHidden 1 = .ok (.getfield 32, 3) := by decide +kernel
theorem dX1_isHidden_4 : decode cX1_isHidden 4 = .ok (.iload_n 1, 1) := by decide +kernel
theorem dX1_isHidden_5 : decode cX1_isHidden 5 = .ok (.ishr, 1) := by decide +kernel
theorem dX1_isHidden_6 : decode cX1_isHidden 6 = .ok (.iconst 1, 1) := by decide +kernel
theorem dX1_isHidden_7 : decode cX1_isHidden 7 = .ok (.iand, 1) := by decide +kernel
theorem dX1_isHidden_8 : decode cX1_isHidden 8 = .ok (.iconst 1, 1) := by decide +kernel
theorem dX1_isHidden_9 : decode cX1_isHidden 9 = .ok (.if_icmp .ne 7, 3) := by decide +kernel
theorem dX1_isHidden_12 : decode cX1_isHidden 12 = .ok (.iconst 1, 1) := by decide +kernel
theorem dX1_isHidden_13 : decode cX1_isHidden 13 = .ok (.goto 4, 3) := by decide +kernel
theorem dX1_isHidden_16 : decode cX1_isHidden 16 = .ok (.iconst 0, 1) := by decide +kernel
theorem dX1_isHidden_17 : decode cX1_isHidden 17 = .ok (.ireturn, 1) := by decide +kernel
theorem dX1_addReigned_0 : decode cX1_addReigned 0 = .ok (.iload_n 1, 1) := by decide +kernel
theorem dX1_addReigned_1 : decode cX1_addReigned 1 = .ok (.ifCond .lt 19, 3) := by decide +kernel
theorem dX1_addReigned_4 : decode cX1_addReigned 4 = .ok (.iload_n 1, 1) := by decide +kernel
theorem dX1_addReigned_5 : decode cX1_addReigned 5 = .ok (.bipush 6, 2) := by decide +kernel
theorem dX1_addReigned_7 : decode cX1_addReigned 7 = .ok (.if_icmp .ge 13, 3) := by decide +kernel
theorem dX1_addReigned_10 : decode cX1_addReigned 10 = .ok (.aload_n 0, 1) := by decide +kernel
theorem dX1_addReigned_11 : decode cX1_addReigned 11 = .ok (.getfield 9, 3) := by decide +kernel
theorem dX1_addReigned_14 : decode cX1_addReigned 14 = .ok (.iload_n 1, 1) := by decide +kernel
theorem dX1_addReigned_15 : decode cX1_addReigned 15 = .ok (.dup2, 1) := by decide +kernel
theorem dX1_addReigned_16 : decode cX1_addReigned 16 = .ok (.iaload, 1) := by decide +kernel
theorem dX1_addReigned_17 : decode cX1_addReigned 17 = .ok (.iconst 1, 1) := by decide +kernel
theorem dX1_addReigned_18 : decode cX1_addReigned 18 = .ok (.iadd, 1) := by decide +kernel
theorem dX1_addReigned_19 : decode cX1_addReigned 19 = .ok (.iastore, 1) := by decide +kernel
theorem dX1_addReigned_20 : decode cX1_addReigned 20 = .ok (.return_, 1) := by decide +kernel
theorem dX2_init_0 : decode cX2_init 0 = .ok (.aload_n 0, 1) := by decide +kernel
theorem dX2_init_1 : decode cX2_init 1 = .ok (.invokespecial 3, 3) := by decide +kernel
theorem dX2_init_4 : decode cX2_init 4 = .ok (.aload_n 0, 1) := by decide +kernel
theorem dX2_init_5 : decode cX2_init 5 = .ok (.bipush 61, 2) := by decide +kernel
theorem dX2_init_7 : decode cX2_init 7 = .ok (.newarray .int, 2) := by decide +kernel
theorem dX2_init_9 : decode cX2_init 9 = .ok (.putfield 9, 3) := by decide +kernel
theorem dX2_init_12 : decode cX2_init 12 = .ok (.aload_n 0, 1) := by decide +kernel
theorem dX2_init_13 : decode cX2_init 13 = .ok (.bipush 61, 2) := by decide +kernel
theorem dX2_init_15 : decode cX2_init 15 = .ok (.newarray .int, 2) := by decide +kernel
theorem dX2_init_17 : decode cX2_init 17 = .ok (.putfield 15, 3) := by decide +kernel
theorem dX2_init_20 : decode cX2_init 20 = .ok (.aload_n 0, 1) := by decide +kernel
theorem dX2_init_21 : decode cX2_init 21 = .ok (.sipush 366, 3) := by decide +kernel
theorem dX2_init_24 : decode cX2_init 24 = .ok (.newarray .int, 2) := by decide +kernel
theorem dX2_init_26 : decode cX2_init 26 = .ok (.putfield 18, 3) := by decide +kernel
theorem dX2_init_29 : decode cX2_init 29 = .ok (.aload_n 0, 1) := by decide +kernel
theorem dX2_init_30 : decode cX2_init 30 = .ok (.aload_n 1, 1) := by decide +kernel
theorem dX2_init_31 : decode cX2_init 31 = .ok (.putfield 21, 3) := by decide +kernel
theorem dX2_init_34 : decode cX2_init 34 = .ok (.return_, 1) := by decide +kernel
theorem dX2_look_0 : decode cX2_look 0 = .ok (.aload_n 0, 1) := by decide +kernel
theorem dX2_look_1 : decode cX2_look 1 = .ok (.aload_n 1, 1) := by decide +kernel
theorem dX2_look_2 : decode cX2_look 2 = .ok (.putfield 25, 3) := by decide +kernel
theorem dX2_look_5 : decode cX2_look 5 = .ok (.aload_n 0, 1) := by decide +kernel
theorem dX2_look_6 : decode cX2_look 6 = .ok (.iload_n 3, 1) := by decide +kernel
theorem dX2_look_7 : decode cX2_look 7 = .ok (.putfield 29, 3) := by decide +kernel
theorem dX2_look_10 : decode cX2_look 10 = .ok (.aload_n 0, 1) := by decide +kernel
theorem dX2_look_11 : decode cX2_look 11 = .ok (.iload 4, 2) := by decide +kernel
theorem dX2_look_13 : decode cX2_look 13 = .ok (.bipush 61, 2) := by decide +kernel
theorem dX2_look_15 : decode cX2_look 15 = .ok (.invokestatic 33, 3) := by decide +kernel
theorem dX2_look_18 : decode cX2_look 18 = .ok (.putfield 39, 3) := by decide +kernel
theorem dX2_look_21 : decode cX2_look 21 = .ok (.aload_n 0, 1) := by decide +kernel
theorem dX2_look_22 : decode cX2_look 22 = .ok (.getfield 9, 3) := by decide +kernel
theorem dX2_look_25 : decode cX2_look 25 = .ok (.iconst 0, 1) := by decide +kernel
theorem dX2_look_26 : decode cX2_look 26 = .ok (.invokestatic 42, 3) := by decide +kernel
theorem dX2_look_29 : decode cX2_look 29 = .ok (.aload_n 0, 1) := by decide +kernel
theorem dX2_look_30 : decode cX2_look 30 = .ok (.getfield 15, 3) := by decide +kernel
theorem dX2_look_33 : decode cX2_look 33 = .ok (.iconst 0, 1) := by decide +kernel
theorem dX2_look_34 : decode cX2_look 34 = .ok (.invokestatic 42, 3) := by decide +kernel
theorem dX2_look_37 : decode cX2_look 37 = .ok (.iconst 0, 1) := by decide +kernel
theorem dX2_look_38 : decode cX2_look 38 = .ok (.istore 5, 2) := by decide +kernel
theorem dX2_look_40 : decode cX2_look 40 = .ok (.iload 5, 2) := by decide +kernel
theorem dX2_look_42 : decode cX2_look 42 = .ok (.aload_n 1, 1) := by decide +kernel
theorem dX2_look_43 : decode cX2_look 43 = .ok (.getfield 48, 3) := by decide +kernel
theorem dX2_look_46 : decode cX2_look 46 = .ok (.if_icmp .ge 76, 3) := by decide +kernel
theorem dX2_look_49 : decode cX2_look 49 = .ok (.iload 5, 2) := by decide +kernel
theorem dX2_look_51 : decode cX2_look 51 = .ok (.bipush 9, 2) := by decide +kernel
theorem dX2_look_53 : decode cX2_look 53 = .ok (.if_icmp .ge 69, 3) := by decide +kernel
theorem dX2_look_56 : decode cX2_look 56 = .ok (.aload_n 1, 1) := by decide +kernel
theorem dX2_look_57 : decode cX2_look 57 = .ok (.getfield 53, 3) := by decide +kernel
theorem dX2_look_60 : decode cX2_look 60 = .ok (.iload 5, 2) := by decide +kernel
theorem dX2_look_62 : decode cX2_look 62 = .ok (.iaload, 1) := by decide +kernel
theorem dX2_look_63 : decode cX2_look 63 = .ok (.iload_n 3, 1) := by decide +kernel
theorem dX2_look_64 : decode cX2_look 64 = .ok (.isub, 1) := by decide +kernel
theorem dX2_look_65 : decode cX2_look 65 = .ok (.istore 6, 2) := by decide +kernel
theorem dX2_look_67 : decode cX2_look 67 = .ok (.aload_n 0, 1) := by decide +kernel
theorem dX2_look_68 : decode cX2_look 68 = .ok (.iload 6, 2) := by decide +kernel
theorem dX2_look_70 : decode cX2_look 70 = .ok (.invokevirtual 56, 3) := by decide +kernel
theorem dX2_look_73 : decode cX2_look 73 = .ok (.ifCond .eq 43, 3) := by decide +kernel
theorem dX2_look_76 : decode cX2_look 76 = .ok (.iload_n 2, 1) := by decide +kernel
theorem dX2_look_77 : decode cX2_look 77 = .ok (.iload 5, 2) := by decide +kernel
theorem dX2_look_79 : decode cX2_look 79 = .ok (.ishr, 1) := by decide +kernel
theorem dX2_look_80 : decode cX2_look 80 = .ok (.iconst 1, 1) := by decide +kernel
theorem dX2_look_81 : decode cX2_look 81 = .ok (.iand, 1) := by decide +kernel
theorem dX2_look_82 : decode cX2_look 82 = .ok (.ifCond .ne 34, 3) := by decide +kernel
theorem dX2_look_85 : decode cX2_look 85 = .ok (.aload_n 0, 1) := by decide +kernel
theorem dX2_look_86 : decode cX2_look 86 = .ok (.getfield 9, 3) := by decide +kernel
theorem dX2_look_89 : decode cX2_look 89 = .ok (.iload 6, 2) := by decide +kernel
theorem dX2_look_91 : decode cX2_look 91 = .ok (.dup2, 1) := by decide +kernel
theorem dX2_look_92 : decode cX2_look 92 = .ok (.iaload, 1) := by decide +kernel
theorem dX2_look_93 : decode cX2_look 93 = .ok (.iconst 1, 1) := by decide +kernel
theorem dX2_look_94 : decode cX2_look 94 = .ok (.iload 5, 2) := by decide +kernel
theorem dX2_look_96 : decode cX2_look 96 = .ok (.ishl, 1) := by decide +kernel
theorem dX2_look_97 : decode cX2_look 97 = .ok (.ior, 1) := by decide +kernel
theorem dX2_look_98 : decode cX2_look 98 = .ok (.iastore, 1) := by decide +kernel
theorem dX2_look_99 : decode cX2_look 99 = .ok (.aload_n 0, 1) := by decide +kernel
theorem dX2_look_100 : decode cX2_look 100 = .ok (.getfield 15, 3) := by decide +kernel
theorem dX2_look_103 : decode cX2_look 103 = .ok (.iload 6, 2) := by decide +kernel
theorem dX2_look_105 : decode cX2_look 105 = .ok (.dup2, 1) := by decide +kernel
theorem dX2_look_106 : decode cX2_look 106 = .ok (.iaload, 1) := by decide +kernel
theorem dX2_look_107 : decode cX2_look 107 = .ok (.aload_n 1, 1) := by decide +kernel
theorem dX2_look_108 : decode cX2_look 108 = .ok (.getfield 60, 3) := by decide +kernel
theorem dX2_look_111 : decode cX2_look 111 = .ok (.iload 5, 2) := by decide +kernel
theorem dX2_look_113 : decode cX2_look 113 = .ok (.iaload, 1) := by decide +kernel
theorem dX2_look_114 : decode cX2_look 114 = .ok (.ior, 1) := by decide +kernel
theorem dX2_look_115 : decode cX2_look 115 = .ok (.iastore, 1) := by decide +kernel
theorem dX2_look_116 : decode cX2_look 116 = .ok (.iinc 5 1, 3) := by decide +kernel
theorem dX2_look_119 : decode cX2_look 119 = .ok (.goto (-79), 3) := by decide +kernel
theorem dX2_look_122 : decode cX2_look 122 = .ok (.iconst 0, 1) := by decide +kernel
theorem dX2_look_123 : decode cX2_look 123 = .ok (.istore 5, 2) := by decide +kernel
theorem dX2_look_125 : decode cX2_look 125 = .ok (.iload 5, 2) := by decide +kernel
theorem dX2_look_127 : decode cX2_look 127 = .ok (.aload_n 0, 1) := by decide +kernel
theorem dX2_look_128 : decode cX2_look 128 = .ok (.getfield 21, 3) := by decide +kernel
theorem dX2_look_131 : decode cX2_look 131 = .ok (.getfield 63, 3) := by decide +kernel
theorem dX2_look_134 : decode cX2_look 134 = .ok (.if_icmp .ge 32, 3) := by decide +kernel
theorem dX2_look_137 : decode cX2_look 137 = .ok (.iload 5, 2) := by decide +kernel
theorem dX2_look_139 : decode cX2_look 139 = .ok (.bipush 6, 2) := by decide +kernel
theorem dX2_look_141 : decode cX2_look 141 = .ok (.if_icmp .ge 25, 3) := by decide +kernel
theorem dX2_look_144 : decode cX2_look 144 = .ok (.aload_n 0, 1) := by decide +kernel
theorem dX2_look_145 : decode cX2_look 145 = .ok (.iload 5, 2) := by decide +kernel
theorem dX2_look_147 : decode cX2_look 147 = .ok (.aload_n 0, 1) := by decide +kernel
theorem dX2_look_148 : decode cX2_look 148 = .ok (.getfield 21, 3) := by decide +kernel
theorem dX2_look_151 : decode cX2_look 151 = .ok (.getfield 68, 3) := by decide +kernel
theorem dX2_look_154 : decode cX2_look 154 = .ok (.iload 5, 2) := by decide +kernel
theorem dX2_look_156 : decode cX2_look 156 = .ok (.iaload, 1) := by decide +kernel
theorem dX2_look_157 : decode cX2_look 157 = .ok (.invokevirtual 71, 3) := by decide +kernel
theorem dX2_look_160 : decode cX2_look 160 = .ok (.iinc 5 1, 3) := by decide +kernel
theorem dX2_look_163 : decode cX2_look 163 = .ok (.goto (-38), 3) := by decide +kernel
theorem dX2_look_166 : decode cX2_look 166 = .ok (.return_, 1) := by decide +kernel
theorem dX2_isLookedAt_0 : decode cX2_isLookedAt 0 = .ok (.iload_n 1, 1) := by decide +kernel
theorem dX2_isLookedAt_1 : decode cX2_isLookedAt 1 = .ok (.ifCond .lt 21, 3) := by decide +kernel
theorem dX2_isLookedAt_4 : decode cX2_isLookedAt 4 = .ok (.iload_n 1, 1) := by decide +kernel
theorem dX2_isLookedAt_5 : decode cX2_isLookedAt 5 = .ok (.aload_n 0, 1) := by decide +kernel
theorem dX2_isLookedAt_6 : decode cX2_isLookedAt 6 = .ok (.getfield 39, 3) := by decide +kernel
theorem dX2_isLookedAt_9 : decode cX2_isLookedAt 9 = .ok (.if_icmp .ge 13, 3) := by decide +kernel
theorem dX2_isLookedAt_12 : decode cX2_isLookedAt 12 = .ok (.iload_n 1, 1) := by decide +kernel
theorem dX2_isLookedAt_13 : decode cX2_isLookedAt 13 = .ok (.bipush 61, 2) := by decide +kernel
theorem dX2_isLookedAt_15 : decode cX2_isLookedAt 15 = .ok (.if_icmp .ge 7, 3) := by decide +kernel
theorem dX2_isLookedAt_18 : decode cX2_isLookedAt 18 = .ok (.iconst 1, 1) := by decide +kernel
theorem dX2_isLookedAt_19 : decode cX2_isLookedAt 19 = .ok (.goto 4, 3) := by decide +kernel
theorem dX2_isLookedAt_22 : decode cX2_isLookedAt 22 = .ok (.iconst 0, 1) := by decide +kernel
theorem dX2_isLookedAt_23 : decode cX2_isLookedAt 23 = .ok (.ireturn, 1) := by decide +kernel
theorem dX2_isPlace_0 : decode cX2_isPlace 0 = .ok (.iload_n 0, 1) := by decide +kernel
theorem dX2_isPlace_1 : decode cX2_isPlace 1 = .ok (.ifCond .lt 13, 3) := by decide +kernel
theorem dX2_isPlace_4 : decode cX2_isPlace 4 = .ok (.iload_n 0, 1) := by decide +kernel
theorem dX2_isPlace_5 : decode cX2_isPlace 5 = .ok (.bipush 6, 2) := by decide +kernel
theorem dX2_isPlace_7 : decode cX2_isPlace 7 = .ok (.if_icmp .ge 7, 3) := by decide +kernel
theorem dX2_isPlace_10 : decode cX2_isPlace 10 = .ok (.iconst 1, 1) := by decide +kernel
theorem dX2_isPlace_11 : decode cX2_isPlace 11 = .ok (.goto 4, 3) := by decide +kernel
theorem dX2_isPlace_14 : decode cX2_isPlace 14 = .ok (.iconst 0, 1) := by decide +kernel
theorem dX2_isPlace_15 : decode cX2_isPlace 15 = .ok (.ireturn, 1) := by decide +kernel
theorem dX2_weigh_0 : decode cX2_weigh 0 = .ok (.iload_n 1, 1) := by decide +kernel
theorem dX2_weigh_1 : decode cX2_weigh 1 = .ok (.invokestatic 75, 3) := by decide +kernel
theorem dX2_weigh_4 : decode cX2_weigh 4 = .ok (.ifCond .ne 4, 3) := by decide +kernel
theorem dX2_weigh_7 : decode cX2_weigh 7 = .ok (.return_, 1) := by decide +kernel
theorem dX2_weigh_8 : decode cX2_weigh 8 = .ok (.iconst 0, 1) := by decide +kernel
theorem dX2_weigh_9 : decode cX2_weigh 9 = .ok (.istore_n 3, 1) := by decide +kernel
theorem dX2_weigh_10 : decode cX2_weigh 10 = .ok (.iload_n 3, 1) := by decide +kernel
theorem dX2_weigh_11 : decode cX2_weigh 11 = .ok (.aload_n 0, 1) := by decide +kernel
theorem dX2_weigh_12 : decode cX2_weigh 12 = .ok (.getfield 39, 3) := by decide +kernel
theorem dX2_weigh_15 : decode cX2_weigh 15 = .ok (.if_icmp .ge 52, 3) := by decide +kernel
theorem dX2_weigh_18 : decode cX2_weigh 18 = .ok (.iload_n 3, 1) := by decide +kernel
theorem dX2_weigh_19 : decode cX2_weigh 19 = .ok (.bipush 61, 2) := by decide +kernel
theorem dX2_weigh_21 : decode cX2_weigh 21 = .ok (.if_icmp .ge 46, 3) := by decide +kernel
theorem dX2_weigh_24 : decode cX2_weigh 24 = .ok (.aload_n 0, 1) := by decide +kernel
theorem dX2_weigh_25 : decode cX2_weigh 25 = .ok (.getfield 18, 3) := by decide +kernel
theorem dX2_weigh_28 : decode cX2_weigh 28 = .ok (.iload_n 3, 1) := by decide +kernel
theorem dX2_weigh_29 : decode cX2_weigh 29 = .ok (.bipush 6, 2) := by decide +kernel
theorem dX2_weigh_31 : decode cX2_weigh 31 = .ok (.imul, 1) := by decide +kernel
theorem dX2_weigh_32 : decode cX2_weigh 32 = .ok (.iload_n 1, 1) := by decide +kernel
theorem dX2_weigh_33 : decode cX2_weigh 33 = .ok (.iadd, 1) := by decide +kernel
theorem dX2_weigh_34 : decode cX2_weigh 34 = .ok (.aload_n 0, 1) := by decide +kernel
theorem dX2_weigh_35 : decode cX2_weigh 35 = .ok (.aload_n 0, 1) := by decide +kernel
theorem dX2_weigh_36 : decode cX2_weigh 36 = .ok (.getfield 9, 3) := by decide +kernel
theorem dX2_weigh_39 : decode cX2_weigh 39 = .ok (.iload_n 3, 1) := by decide +kernel
theorem dX2_weigh_40 : decode cX2_weigh 40 = .ok (.iaload, 1) := by decide +kernel
theorem dX2_weigh_41 : decode cX2_weigh 41 = .ok (.aload_n 0, 1) := by decide +kernel
theorem dX2_weigh_42 : decode cX2_weigh 42 = .ok (.getfield 21, 3) := by decide +kernel
theorem dX2_weigh_45 : decode cX2_weigh 45 = .ok (.getfield 78, 3) := by decide +kernel
theorem dX2_weigh_48 : decode cX2_weigh 48 = .ok (.iload_n 1, 1) := by decide +kernel
theorem dX2_weigh_49 : decode cX2_weigh 49 = .ok (.iaload, 1) := by decide +kernel
theorem dX2_weigh_50 : decode cX2_weigh 50 = .ok (.iload_n 2, 1) := by decide +kernel
theorem dX2_weigh_51 : decode cX2_weigh 51 = .ok (.aload_n 0, 1) := by decide +kernel
theorem dX2_weigh_52 : decode cX2_weigh 52 = .ok (.getfield 29, 3) := by decide +kernel
theorem dX2_weigh_55 : decode cX2_weigh 55 = .ok (.iload_n 3, 1) := by decide +kernel
theorem dX2_weigh_56 : decode cX2_weigh 56 = .ok (.iadd, 1) := by decide +kernel
theorem dX2_weigh_57 : decode cX2_weigh 57 = .ok (.invokevirtual 81, 3) := by decide +kernel
theorem dX2_weigh_60 : decode cX2_weigh 60 = .ok (.iastore, 1) := by decide +kernel
theorem dX2_weigh_61 : decode cX2_weigh 61 = .ok (.iinc 3 1, 3) := by decide +kernel
theorem dX2_weigh_64 : decode cX2_weigh 64 = .ok (.goto (-54), 3) := by decide +kernel
theorem dX2_weigh_67 : decode cX2_weigh 67 = .ok (.return_, 1) := by decide +kernel
theorem dX2_gainBy_0 : decode cX2_gainBy 0 = .ok (.iconst 0, 1) := by decide +kernel
theorem dX2_gainBy_1 : decode cX2_gainBy 1 = .ok (.istore 5, 2) := by decide +kernel
theorem dX2_gainBy_3 : decode cX2_gainBy 3 = .ok (.iconst 0, 1) := by decide +kernel
theorem dX2_gainBy_4 : decode cX2_gainBy 4 = .ok (.istore 6, 2) := by decide +kernel
theorem dX2_gainBy_6 : decode cX2_gainBy 6 = .ok (.iload_n 1, 1) := by decide +kernel
theorem dX2_gainBy_7 : decode cX2_gainBy 7 = .ok (.ifCond .eq 10, 3) := by decide +kernel
theorem dX2_gainBy_10 : decode cX2_gainBy 10 = .ok (.aload_n 0, 1) := by decide +kernel
theorem dX2_gainBy_11 : decode cX2_gainBy 11 = .ok (.getfield 25, 3) := by decide +kernel
theorem dX2_gainBy_14 : decode cX2_gainBy 14 = .ok (.ifnonnull 6, 3) := by decide +kernel
theorem dX2_gainBy_17 : decode cX2_gainBy 17 = .ok (.iload 5, 2) := by decide +kernel
theorem dX2_gainBy_19 : decode cX2_gainBy 19 = .ok (.ireturn, 1) := by decide +kernel
theorem dX2_gainBy_20 : decode cX2_gainBy 20 = .ok (.iconst 0, 1) := by decide +kernel
theorem dX2_gainBy_21 : decode cX2_gainBy 21 = .ok (.istore 7, 2) := by decide +kernel
theorem dX2_gainBy_23 : decode cX2_gainBy 23 = .ok (.iload 7, 2) := by decide +kernel
theorem dX2_gainBy_25 : decode cX2_gainBy 25 = .ok (.aload_n 0, 1) := by decide +kernel
theorem dX2_gainBy_26 : decode cX2_gainBy 26 = .ok (.getfield 25, 3) := by decide +kernel
theorem dX2_gainBy_29 : decode cX2_gainBy 29 = .ok (.getfield 48, 3) := by decide +kernel
theorem dX2_gainBy_32 : decode cX2_gainBy 32 = .ok (.if_icmp .ge 75, 3) := by decide +kernel
theorem dX2_gainBy_35 : decode cX2_gainBy 35 = .ok (.iload 7, 2) := by decide +kernel
theorem dX2_gainBy_37 : decode cX2_gainBy 37 = .ok (.bipush 9, 2) := by decide +kernel
theorem dX2_gainBy_39 : decode cX2_gainBy 39 = .ok (.if_icmp .ge 68, 3) := by decide +kernel
theorem dX2_gainBy_42 : decode cX2_gainBy 42 = .ok (.iload_n 1, 1) := by decide +kernel
theorem dX2_gainBy_43 : decode cX2_gainBy 43 = .ok (.iload 7, 2) := by decide +kernel
theorem dX2_gainBy_45 : decode cX2_gainBy 45 = .ok (.ishr, 1) := by decide +kernel
theorem dX2_gainBy_46 : decode cX2_gainBy 46 = .ok (.iconst 1, 1) := by decide +kernel
theorem dX2_gainBy_47 : decode cX2_gainBy 47 = .ok (.iand, 1) := by decide +kernel
theorem dX2_gainBy_48 : decode cX2_gainBy 48 = .ok (.iconst 1, 1) := by decide +kernel
theorem dX2_gainBy_49 : decode cX2_gainBy 49 = .ok (.if_icmp .ne 52, 3) := by decide +kernel
theorem dX2_gainBy_52 : decode cX2_gainBy 52 = .ok (.iload 5, 2) := by decide +kernel
theorem dX2_gainBy_54 : decode cX2_gainBy 54 = .ok (.iload_n 2, 1) := by decide +kernel
theorem dX2_gainBy_55 : decode cX2_gainBy 55 = .ok (.iload_n 3, 1) := by decide +kernel
theorem dX2_gainBy_56 : decode cX2_gainBy 56 = .ok (.aload_n 0, 1) := by decide +kernel
theorem dX2_gainBy_57 : decode cX2_gainBy 57 = .ok (.getfield 25, 3) := by decide +kernel
theorem dX2_gainBy_60 : decode cX2_gainBy 60 = .ok (.getfield 60, 3) := by decide +kernel
theorem dX2_gainBy_63 : decode cX2_gainBy 63 = .ok (.iload 7, 2) := by decide +kernel
theorem dX2_gainBy_65 : decode cX2_gainBy 65 = .ok (.iaload, 1) := by decide +kernel
theorem dX2_gainBy_66 : decode cX2_gainBy 66 = .ok (.aload_n 0, 1) := by decide +kernel
theorem dX2_gainBy_67 : decode cX2_gainBy 67 = .ok (.getfield 25, 3) := by decide +kernel
theorem dX2_gainBy_70 : decode cX2_gainBy 70 = .ok (.getfield 85, 3) := by decide +kernel
theorem dX2_gainBy_73 : decode cX2_gainBy 73 = .ok (.iload 7, 2) := by decide +kernel
theorem dX2_gainBy_75 : decode cX2_gainBy 75 = .ok (.iaload, 1) := by decide +kernel
theorem dX2_gainBy_76 : decode cX2_gainBy 76 = .ok (.iload 6, 2) := by decide +kernel
theorem dX2_gainBy_78 : decode cX2_gainBy 78 = .ok (.iload 4, 2) := by decide +kernel
theorem dX2_gainBy_80 : decode cX2_gainBy 80 = .ok (.invokestatic 88, 3) := by decide +kernel
theorem dX2_gainBy_83 : decode cX2_gainBy 83 = .ok (.iadd, 1) := by decide +kernel
theorem dX2_gainBy_84 : decode cX2_gainBy 84 = .ok (.istore 5, 2) := by decide +kernel
theorem dX2_gainBy_86 : decode cX2_gainBy 86 = .ok (.iload 6, 2) := by decide +kernel
theorem dX2_gainBy_88 : decode cX2_gainBy 88 = .ok (.aload_n 0, 1) := by decide +kernel
theorem dX2_gainBy_89 : decode cX2_gainBy 89 = .ok (.getfield 25, 3) := by decide +kernel
theorem dX2_gainBy_92 : decode cX2_gainBy 92 = .ok (.getfield 60, 3) := by decide +kernel
theorem dX2_gainBy_95 : decode cX2_gainBy 95 = .ok (.iload 7, 2) := by decide +kernel
theorem dX2_gainBy_97 : decode cX2_gainBy 97 = .ok (.iaload, 1) := by decide +kernel
theorem dX2_gainBy_98 : decode cX2_gainBy 98 = .ok (.ior, 1) := by decide +kernel
theorem dX2_gainBy_99 : decode cX2_gainBy 99 = .ok (.istore 6, 2) := by decide +kernel
theorem dX2_gainBy_101 : decode cX2_gainBy 101 = .ok (.iinc 7 1, 3) := by decide +kernel
theorem dX2_gainBy_104 : decode cX2_gainBy 104 = .ok (.goto (-81), 3) := by decide +kernel
theorem dX2_gainBy_107 : decode cX2_gainBy 107 = .ok (.iload 5, 2) := by decide +kernel
theorem dX2_gainBy_109 : decode cX2_gainBy 109 = .ok (.ireturn, 1) := by decide +kernel
theorem dX2_gainOf_0 : decode cX2_gainOf 0 = .ok (.aload_n 0, 1) := by decide +kernel
theorem dX2_gainOf_1 : decode cX2_gainOf 1 = .ok (.iload_n 1, 1) := by decide +kernel
theorem dX2_gainOf_2 : decode cX2_gainOf 2 = .ok (.invokevirtual 56, 3) := by decide +kernel
theorem dX2_gainOf_5 : decode cX2_gainOf 5 = .ok (.ifCond .eq 24, 3) := by decide +kernel
theorem dX2_gainOf_8 : decode cX2_gainOf 8 = .ok (.iload_n 2, 1) := by decide +kernel
theorem dX2_gainOf_9 : decode cX2_gainOf 9 = .ok (.invokestatic 75, 3) := by decide +kernel
theorem dX2_gainOf_12 : decode cX2_gainOf 12 = .ok (.ifCond .eq 17, 3) := by decide +kernel
theorem dX2_gainOf_15 : decode cX2_gainOf 15 = .ok (.aload_n 0, 1) := by decide +kernel
theorem dX2_gainOf_16 : decode cX2_gainOf 16 = .ok (.getfield 18, 3) := by decide +kernel
theorem dX2_gainOf_19 : decode cX2_gainOf 19 = .ok (.iload_n 1, 1) := by decide +kernel
theorem dX2_gainOf_20 : decode cX2_gainOf 20 = .ok (.bipush 6, 2) := by decide +kernel
theorem dX2_gainOf_22 : decode cX2_gainOf 22 = .ok (.imul, 1) := by decide +kernel
theorem dX2_gainOf_23 : decode cX2_gainOf 23 = .ok (.iload_n 2, 1) := by decide +kernel
theorem dX2_gainOf_24 : decode cX2_gainOf 24 = .ok (.iadd, 1) := by decide +kernel
theorem dX2_gainOf_25 : decode cX2_gainOf 25 = .ok (.iaload, 1) := by decide +kernel
theorem dX2_gainOf_26 : decode cX2_gainOf 26 = .ok (.goto 4, 3) := by decide +kernel
theorem dX2_gainOf_29 : decode cX2_gainOf 29 = .ok (.iconst 0, 1) := by decide +kernel
theorem dX2_gainOf_30 : decode cX2_gainOf 30 = .ok (.ireturn, 1) := by decide +kernel
theorem dX2_gainWithout_0 : decode cX2_gainWithout 0 = .ok (.aload_n 0, 1) := by decide +kernel
theorem dX2_gainWithout_1 : decode cX2_gainWithout 1 = .ok (.iload_n 1, 1) := by decide +kernel
theorem dX2_gainWithout_2 : decode cX2_gainWithout 2 = .ok (.invokevirtual 56, 3) := by decide +kernel
theorem dX2_gainWithout_5 : decode cX2_gainWithout 5 = .ok (.ifCond .eq 10, 3) := by decide +kernel
theorem dX2_gainWithout_8 : decode cX2_gainWithout 8 = .ok (.iload_n 2, 1) := by decide +kernel
theorem dX2_gainWithout_9 : decode cX2_gainWithout 9 = .ok (.invokestatic 75, 3) := by decide +kernel
theorem dX2_gainWithout_12 : decode cX2_gainWithout 12 = .ok (.ifCond .ne 5, 3) := by decide +kernel
theorem dX2_gainWithout_15 : decode cX2_gainWithout 15 = .ok (.iconst 0, 1) := by decide +kernel
theorem dX2_gainWithout_16 : decode cX2_gainWithout 16 = .ok (.ireturn, 1) := by decide +kernel
theorem dX2_gainWithout_17 : decode cX2_gainWithout 17 = .ok (.aload_n 0, 1) := by decide +kernel
theorem dX2_gainWithout_18 : decode cX2_gainWithout 18 = .ok (.aload_n 0, 1) := by decide +kernel
theorem dX2_gainWithout_19 : decode cX2_gainWithout 19 = .ok (.getfield 9, 3) := by decide +kernel
theorem dX2_gainWithout_22 : decode cX2_gainWithout 22 = .ok (.iload_n 1, 1) := by decide +kernel
theorem dX2_gainWithout_23 : decode cX2_gainWithout 23 = .ok (.iaload, 1) := by decide +kernel
theorem dX2_gainWithout_24 : decode cX2_gainWithout 24 = .ok (.iload_n 3, 1) := by decide +kernel
theorem dX2_gainWithout_25 : decode cX2_gainWithout 25 = .ok (.iconst (-1), 1) := by decide +kernel
theorem dX2_gainWithout_26 : decode cX2_gainWithout 26 = .ok (.ixor, 1) := by decide +kernel
theorem dX2_gainWithout_27 : decode cX2_gainWithout 27 = .ok (.iand, 1) := by decide +kernel
theorem dX2_gainWithout_28 : decode cX2_gainWithout 28 = .ok (.aload_n 0, 1) := by decide +kernel
theorem dX2_gainWithout_29 : decode cX2_gainWithout 29 = .ok (.getfield 21, 3) := by decide +kernel
theorem dX2_gainWithout_32 : decode cX2_gainWithout 32 = .ok (.getfield 78, 3) := by decide +kernel
theorem dX2_gainWithout_35 : decode cX2_gainWithout 35 = .ok (.iload_n 2, 1) := by decide +kernel
theorem dX2_gainWithout_36 : decode cX2_gainWithout 36 = .ok (.iaload, 1) := by decide +kernel
theorem dX2_gainWithout_37 : decode cX2_gainWithout 37 = .ok (.aload_n 0, 1) := by decide +kernel
theorem dX2_gainWithout_38 : decode cX2_gainWithout 38 = .ok (.getfield 21, 3) := by decide +kernel
theorem dX2_gainWithout_41 : decode cX2_gainWithout 41 = .ok (.getfield 68, 3) := by decide +kernel
theorem dX2_gainWithout_44 : decode cX2_gainWithout 44 = .ok (.iload_n 2, 1) := by decide +kernel
theorem dX2_gainWithout_45 : decode cX2_gainWithout 45 = .ok (.iaload, 1) := by decide +kernel
theorem dX2_gainWithout_46 : decode cX2_gainWithout 46 = .ok (.aload_n 0, 1) := by decide +kernel
theorem dX2_gainWithout_47 : decode cX2_gainWithout 47 = .ok (.getfield 29, 3) := by decide +kernel
theorem dX2_gainWithout_50 : decode cX2_gainWithout 50 = .ok (.iload_n 1, 1) := by decide +kernel
theorem dX2_gainWithout_51 : decode cX2_gainWithout 51 = .ok (.iadd, 1) := by decide +kernel
theorem dX2_gainWithout_52 : decode cX2_gainWithout 52 = .ok (.invokevirtual 81, 3) := by decide +kernel
theorem dX2_gainWithout_55 : decode cX2_gainWithout 55 = .ok (.ireturn, 1) := by decide +kernel
theorem dX2_gainOfOneMore_0 : decode cX2_gainOfOneMore 0 = .ok (.aload_n 0, 1) := by decide +kernel
theorem dX2_gainOfOneMore_1 : decode cX2_gainOfOneMore 1 = .ok (.iload_n 1, 1) := by decide +kernel
theorem dX2_gainOfOneMore_2 : decode cX2_gainOfOneMore 2 = .ok (.invokevirtual 56, 3) := by decide +kernel
theorem dX2_gainOfOneMore_5 : decode cX2_gainOfOneMore 5 = .ok (.ifCond .eq 10, 3) := by decide +kernel
theorem dX2_gainOfOneMore_8 : decode cX2_gainOfOneMore 8 = .ok (.iload_n 2, 1) := by decide +kernel
theorem dX2_gainOfOneMore_9 : decode cX2_gainOfOneMore 9 = .ok (.invokestatic 75, 3) := by decide +kernel
theorem dX2_gainOfOneMore_12 : decode cX2_gainOfOneMore 12 = .ok (.ifCond .ne 5, 3) := by decide +kernel
theorem dX2_gainOfOneMore_15 : decode cX2_gainOfOneMore 15 = .ok (.iconst 0, 1) := by decide +kernel
theorem dX2_gainOfOneMore_16 : decode cX2_gainOfOneMore 16 = .ok (.ireturn, 1) := by decide +kernel
theorem dX2_gainOfOneMore_17 : decode cX2_gainOfOneMore 17 = .ok (.aload_n 0, 1) := by decide +kernel
theorem dX2_gainOfOneMore_18 : decode cX2_gainOfOneMore 18 = .ok (.getfield 21, 3) := by decide +kernel
theorem dX2_gainOfOneMore_21 : decode cX2_gainOfOneMore 21 = .ok (.getfield 78, 3) := by decide +kernel
theorem dX2_gainOfOneMore_24 : decode cX2_gainOfOneMore 24 = .ok (.iload_n 2, 1) := by decide +kernel
theorem dX2_gainOfOneMore_25 : decode cX2_gainOfOneMore 25 = .ok (.iaload, 1) := by decide +kernel
theorem dX2_gainOfOneMore_26 : decode cX2_gainOfOneMore 26 = .ok (.aload_n 0, 1) := by decide +kernel
theorem dX2_gainOfOneMore_27 : decode cX2_gainOfOneMore 27 = .ok (.getfield 21, 3) := by decide +kernel
theorem dX2_gainOfOneMore_30 : decode cX2_gainOfOneMore 30 = .ok (.getfield 68, 3) := by decide +kernel
theorem dX2_gainOfOneMore_33 : decode cX2_gainOfOneMore 33 = .ok (.iload_n 2, 1) := by decide +kernel
theorem dX2_gainOfOneMore_34 : decode cX2_gainOfOneMore 34 = .ok (.iaload, 1) := by decide +kernel
theorem dX2_gainOfOneMore_35 : decode cX2_gainOfOneMore 35 = .ok (.iload_n 3, 1) := by decide +kernel
theorem dX2_gainOfOneMore_36 : decode cX2_gainOfOneMore 36 = .ok (.iload 4, 2) := by decide +kernel
theorem dX2_gainOfOneMore_38 : decode cX2_gainOfOneMore 38 = .ok (.aload_n 0, 1) := by decide +kernel
theorem dX2_gainOfOneMore_39 : decode cX2_gainOfOneMore 39 = .ok (.getfield 15, 3) := by decide +kernel
theorem dX2_gainOfOneMore_42 : decode cX2_gainOfOneMore 42 = .ok (.iload_n 1, 1) := by decide +kernel
theorem dX2_gainOfOneMore_43 : decode cX2_gainOfOneMore 43 = .ok (.iaload, 1) := by decide +kernel
theorem dX2_gainOfOneMore_44 : decode cX2_gainOfOneMore 44 = .ok (.aload_n 0, 1) := by decide +kernel
theorem dX2_gainOfOneMore_45 : decode cX2_gainOfOneMore 45 = .ok (.getfield 29, 3) := by decide +kernel
theorem dX2_gainOfOneMore_48 : decode cX2_gainOfOneMore 48 = .ok (.iload_n 1, 1) := by decide +kernel
theorem dX2_gainOfOneMore_49 : decode cX2_gainOfOneMore 49 = .ok (.iadd, 1) := by decide +kernel
theorem dX2_gainOfOneMore_50 : decode cX2_gainOfOneMore 50 = .ok (.invokestatic 88, 3) := by decide +kernel
theorem dX2_gainOfOneMore_53 : decode cX2_gainOfOneMore 53 = .ok (.ireturn, 1) := by decide +kernel
theorem dX2_add_0 : decode cX2_add 0 = .ok (.aload_n 0, 1) := by decide +kernel
theorem dX2_add_1 : decode cX2_add 1 = .ok (.iconst 1, 1) := by decide +kernel
theorem dX2_add_2 : decode cX2_add 2 = .ok (.iload_n 1, 1) := by decide +kernel
theorem dX2_add_3 : decode cX2_add 3 = .ok (.iload_n 2, 1) := by decide +kernel
theorem dX2_add_4 : decode cX2_add 4 = .ok (.iload_n 3, 1) := by decide +kernel
theorem dX2_add_5 : decode cX2_add 5 = .ok (.invokevirtual 92, 3) := by decide +kernel
theorem dX2_add_8 : decode cX2_add 8 = .ok (.return_, 1) := by decide +kernel
theorem dX2_takeAway_0 : decode cX2_takeAway 0 = .ok (.aload_n 0, 1) := by decide +kernel
theorem dX2_takeAway_1 : decode cX2_takeAway 1 = .ok (.iconst (-1), 1) := by decide +kernel
theorem dX2_takeAway_2 : decode cX2_takeAway 2 = .ok (.iload_n 1, 1) := by decide +kernel
theorem dX2_takeAway_3 : decode cX2_takeAway 3 = .ok (.iload_n 2, 1) := by decide +kernel
theorem dX2_takeAway_4 : decode cX2_takeAway 4 = .ok (.iload_n 3, 1) := by decide +kernel
theorem dX2_takeAway_5 : decode cX2_takeAway 5 = .ok (.invokevirtual 92, 3) := by decide +kernel
theorem dX2_takeAway_8 : decode cX2_takeAway 8 = .ok (.return_, 1) := by decide +kernel
theorem dX2_addTimes_0 : decode cX2_addTimes 0 = .ok (.aload_n 0, 1) := by decide +kernel
theorem dX2_addTimes_1 : decode cX2_addTimes 1 = .ok (.iload_n 2, 1) := by decide +kernel
theorem dX2_addTimes_2 : decode cX2_addTimes 2 = .ok (.invokevirtual 56, 3) := by decide +kernel
theorem dX2_addTimes_5 : decode cX2_addTimes 5 = .ok (.ifCond .ne 4, 3) := by decide +kernel
theorem dX2_addTimes_8 : decode cX2_addTimes 8 = .ok (.return_, 1) := by decide +kernel
theorem dX2_addTimes_9 : decode cX2_addTimes 9 = .ok (.iconst 0, 1) := by decide +kernel
theorem dX2_addTimes_10 : decode cX2_addTimes 10 = .ok (.istore 5, 2) := by decide +kernel
theorem dX2_addTimes_12 : decode cX2_addTimes 12 = .ok (.iload 5, 2) := by decide +kernel
theorem dX2_addTimes_14 : decode cX2_addTimes 14 = .ok (.aload_n 0, 1) := by decide +kernel
theorem dX2_addTimes_15 : decode cX2_addTimes 15 = .ok (.getfield 21, 3) := by decide +kernel
theorem dX2_addTimes_18 : decode cX2_addTimes 18 = .ok (.getfield 63, 3) := by decide +kernel
theorem dX2_addTimes_21 : decode cX2_addTimes 21 = .ok (.if_icmp .ge 43, 3) := by decide +kernel
theorem dX2_addTimes_24 : decode cX2_addTimes 24 = .ok (.iload 5, 2) := by decide +kernel
theorem dX2_addTimes_26 : decode cX2_addTimes 26 = .ok (.bipush 6, 2) := by decide +kernel
theorem dX2_addTimes_28 : decode cX2_addTimes 28 = .ok (.if_icmp .ge 36, 3) := by decide +kernel
theorem dX2_addTimes_31 : decode cX2_addTimes 31 = .ok (.aload_n 0, 1) := by decide +kernel
theorem dX2_addTimes_32 : decode cX2_addTimes 32 = .ok (.getfield 18, 3) := by decide +kernel
theorem dX2_addTimes_35 : decode cX2_addTimes 35 = .ok (.iload_n 2, 1) := by decide +kernel
theorem dX2_addTimes_36 : decode cX2_addTimes 36 = .ok (.bipush 6, 2) := by decide +kernel
theorem dX2_addTimes_38 : decode cX2_addTimes 38 = .ok (.imul, 1) := by decide +kernel
theorem dX2_addTimes_39 : decode cX2_addTimes 39 = .ok (.iload 5, 2) := by decide +kernel
theorem dX2_addTimes_41 : decode cX2_addTimes 41 = .ok (.iadd, 1) := by decide +kernel
theorem dX2_addTimes_42 : decode cX2_addTimes 42 = .ok (.dup2, 1) := by decide +kernel
theorem dX2_addTimes_43 : decode cX2_addTimes 43 = .ok (.iaload, 1) := by decide +kernel
theorem dX2_addTimes_44 : decode cX2_addTimes 44 = .ok (.iload_n 1, 1) := by decide +kernel
theorem dX2_addTimes_45 : decode cX2_addTimes 45 = .ok (.aload_n 0, 1) := by decide +kernel
theorem dX2_addTimes_46 : decode cX2_addTimes 46 = .ok (.iload_n 2, 1) := by decide +kernel
theorem dX2_addTimes_47 : decode cX2_addTimes 47 = .ok (.iload 5, 2) := by decide +kernel
theorem dX2_addTimes_49 : decode cX2_addTimes 49 = .ok (.iload_n 3, 1) := by decide +kernel
theorem dX2_addTimes_50 : decode cX2_addTimes 50 = .ok (.iload 4, 2) := by decide +kernel
theorem dX2_addTimes_52 : decode cX2_addTimes 52 = .ok (.invokevirtual 96, 3) := by decide +kernel
theorem dX2_addTimes_55 : decode cX2_addTimes 55 = .ok (.imul, 1) := by decide +kernel
theorem dX2_addTimes_56 : decode cX2_addTimes 56 = .ok (.iadd, 1) := by decide +kernel
theorem dX2_addTimes_57 : decode cX2_addTimes 57 = .ok (.iastore, 1) := by decide +kernel
theorem dX2_addTimes_58 : decode cX2_addTimes 58 = .ok (.iinc 5 1, 3) := by decide +kernel
theorem dX2_addTimes_61 : decode cX2_addTimes 61 = .ok (.goto (-49), 3) := by decide +kernel
theorem dX2_addTimes_64 : decode cX2_addTimes 64 = .ok (.return_, 1) := by decide +kernel
theorem dX2_shownAtAll_0 : decode cX2_shownAtAll 0 = .ok (.iconst 0, 1) := by decide +kernel
theorem dX2_shownAtAll_1 : decode cX2_shownAtAll 1 = .ok (.istore_n 1, 1) := by decide +kernel
theorem dX2_shownAtAll_2 : decode cX2_shownAtAll 2 = .ok (.iconst 0, 1) := by decide +kernel
theorem dX2_shownAtAll_3 : decode cX2_shownAtAll 3 = .ok (.istore_n 2, 1) := by decide +kernel
theorem dX2_shownAtAll_4 : decode cX2_shownAtAll 4 = .ok (.iload_n 2, 1) := by decide +kernel
theorem dX2_shownAtAll_5 : decode cX2_shownAtAll 5 = .ok (.aload_n 0, 1) := by decide +kernel
theorem dX2_shownAtAll_6 : decode cX2_shownAtAll 6 = .ok (.getfield 39, 3) := by decide +kernel
theorem dX2_shownAtAll_9 : decode cX2_shownAtAll 9 = .ok (.if_icmp .ge 24, 3) := by decide +kernel
theorem dX2_shownAtAll_12 : decode cX2_shownAtAll 12 = .ok (.iload_n 2, 1) := by decide +kernel
theorem dX2_shownAtAll_13 : decode cX2_shownAtAll 13 = .ok (.bipush 61, 2) := by decide +kernel
theorem dX2_shownAtAll_15 : decode cX2_shownAtAll 15 = .ok (.if_icmp .ge 18, 3) := by decide +kernel
theorem dX2_shownAtAll_18 : decode cX2_shownAtAll 18 = .ok (.iload_n 1, 1) := by decide +kernel
theorem dX2_shownAtAll_19 : decode cX2_shownAtAll 19 = .ok (.aload_n 0, 1) := by decide +kernel
theorem dX2_shownAtAll_20 : decode cX2_shownAtAll 20 = .ok (.getfield 9, 3) := by decide +kernel
theorem dX2_shownAtAll_23 : decode cX2_shownAtAll 23 = .ok (.iload_n 2, 1) := by decide +kernel
theorem dX2_shownAtAll_24 : decode cX2_shownAtAll 24 = .ok (.iaload, 1) := by decide +kernel
theorem dX2_shownAtAll_25 : decode cX2_shownAtAll 25 = .ok (.ior, 1) := by decide +kernel
theorem dX2_shownAtAll_26 : decode cX2_shownAtAll 26 = .ok (.istore_n 1, 1) := by decide +kernel
theorem dX2_shownAtAll_27 : decode cX2_shownAtAll 27 = .ok (.iinc 2 1, 3) := by decide +kernel
theorem dX2_shownAtAll_30 : decode cX2_shownAtAll 30 = .ok (.goto (-26), 3) := by decide +kernel
theorem dX2_shownAtAll_33 : decode cX2_shownAtAll 33 = .ok (.iload_n 1, 1) := by decide +kernel
theorem dX2_shownAtAll_34 : decode cX2_shownAtAll 34 = .ok (.ireturn, 1) := by decide +kernel
theorem dX3_init_0 : decode cX3_init 0 = .ok (.aload_n 0, 1) := by decide +kernel
theorem dX3_init_1 : decode cX3_init 1 = .ok (.invokespecial 3, 3) := by decide +kernel
theorem dX3_init_4 : decode cX3_init 4 = .ok (.aload_n 0, 1) := by decide +kernel
theorem dX3_init_5 : decode cX3_init 5 = .ok (.bipush 6, 2) := by decide +kernel
theorem dX3_init_7 : decode cX3_init 7 = .ok (.newarray .int, 2) := by decide +kernel
theorem dX3_init_9 : decode cX3_init 9 = .ok (.putfield 9, 3) := by decide +kernel
theorem dX3_init_12 : decode cX3_init 12 = .ok (.aload_n 0, 1) := by decide +kernel
theorem dX3_init_13 : decode cX3_init 13 = .ok (.aload_n 1, 1) := by decide +kernel
theorem dX3_init_14 : decode cX3_init 14 = .ok (.putfield 15, 3) := by decide +kernel
theorem dX3_init_17 : decode cX3_init 17 = .ok (.aload_n 0, 1) := by decide +kernel
theorem dX3_init_18 : decode cX3_init 18 = .ok (.aload_n 2, 1) := by decide +kernel
theorem dX3_init_19 : decode cX3_init 19 = .ok (.putfield 19, 3) := by decide +kernel
theorem dX3_init_22 : decode cX3_init 22 = .ok (.return_, 1) := by decide +kernel
theorem dX3_start_0 : decode cX3_start 0 = .ok (.aload_n 0, 1) := by decide +kernel
theorem dX3_start_1 : decode cX3_start 1 = .ok (.invokevirtual 23, 3) := by decide +kernel
theorem dX3_start_4 : decode cX3_start 4 = .ok (.aload_n 0, 1) := by decide +kernel
theorem dX3_start_5 : decode cX3_start 5 = .ok (.aload_n 1, 1) := by decide +kernel
theorem dX3_start_6 : decode cX3_start 6 = .ok (.getfield 26, 3) := by decide +kernel
theorem dX3_start_9 : decode cX3_start 9 = .ok (.putfield 32, 3) := by decide +kernel
theorem dX3_start_12 : decode cX3_start 12 = .ok (.aload_n 0, 1) := by decide +kernel
theorem dX3_start_13 : decode cX3_start 13 = .ok (.aload_n 1, 1) := by decide +kernel
theorem dX3_start_14 : decode cX3_start 14 = .ok (.getfield 35, 3) := by decide +kernel
theorem dX3_start_17 : decode cX3_start 17 = .ok (.putfield 38, 3) := by decide +kernel
theorem dX3_start_20 : decode cX3_start 20 = .ok (.return_, 1) := by decide +kernel
theorem dX3_startFirst_0 : decode cX3_startFirst 0 = .ok (.aload_n 0, 1) := by decide +kernel
theorem dX3_startFirst_1 : decode cX3_startFirst 1 = .ok (.invokevirtual 23, 3) := by decide +kernel
theorem dX3_startFirst_4 : decode cX3_startFirst 4 = .ok (.aload_n 0, 1) := by decide +kernel
theorem dX3_startFirst_5 : decode cX3_startFirst 5 = .ok (.iconst 0, 1) := by decide +kernel
theorem dX3_startFirst_6 : decode cX3_startFirst 6 = .ok (.putfield 32, 3) := by decide +kernel
theorem dX3_startFirst_9 : decode cX3_startFirst 9 = .ok (.aload_n 0, 1) := by decide +kernel
theorem dX3_startFirst_10 : decode cX3_startFirst 10 = .ok (.iconst 0, 1) := by decide +kernel
theorem dX3_startFirst_11 : decode cX3_startFirst 11 = .ok (.putfield 38, 3) := by decide +kernel
theorem dX3_startFirst_14 : decode cX3_startFirst 14 = .ok (.return_, 1) := by decide +kernel
theorem dX3_startLine_0 : decode cX3_startLine 0 = .ok (.aload_n 0, 1) := by decide +kernel
theorem dX3_startLine_1 : decode cX3_startLine 1 = .ok (.iconst 0, 1) := by decide +kernel
theorem dX3_startLine_2 : decode cX3_startLine 2 = .ok (.putfield 32, 3) := by decide +kernel
theorem dX3_startLine_5 : decode cX3_startLine 5 = .ok (.aload_n 0, 1) := by decide +kernel
theorem dX3_startLine_6 : decode cX3_startLine 6 = .ok (.aload_n 0, 1) := by decide +kernel
theorem dX3_startLine_7 : decode cX3_startLine 7 = .ok (.invokevirtual 39, 3) := by decide +kernel
theorem dX3_startLine_10 : decode cX3_startLine 10 = .ok (.aload_n 1, 1) := by decide +kernel
theorem dX3_startLine_11 : decode cX3_startLine 11 = .ok (.getfield 26, 3) := by decide +kernel
theorem dX3_startLine_14 : decode cX3_startLine 14 = .ok (.if_icmp .ne 10, 3) := by decide +kernel
theorem dX3_startLine_17 : decode cX3_startLine 17 = .ok (.aload_n 1, 1) := by decide +kernel
theorem dX3_startLine_18 : decode cX3_startLine 18 = .ok (.getfield 35, 3) := by decide +kernel
theorem dX3_startLine_21 : decode cX3_startLine 21 = .ok (.goto 4, 3) := by decide +kernel
theorem dX3_startLine_24 : decode cX3_startLine 24 = .ok (.iconst 0, 1) := by decide +kernel
theorem dX3_startLine_25 : decode cX3_startLine 25 = .ok (.putfield 38, 3) := by decide +kernel
theorem dX3_startLine_28 : decode cX3_startLine 28 = .ok (.return_, 1) := by decide +kernel
theorem dX3_reigning_0 : decode cX3_reigning 0 = .ok (.aload_n 0, 1) := by decide +kernel
theorem dX3_reigning_1 : decode cX3_reigning 1 = .ok (.getfield 32, 3) := by decide +kernel
theorem dX3_reigning_4 : decode cX3_reigning 4 = .ok (.ifCond .lt 24, 3) := by decide +kernel
theorem dX3_reigning_7 : decode cX3_reigning 7 = .ok (.aload_n 0, 1) := by decide +kernel
theorem dX3_reigning_8 : decode cX3_reigning 8 = .ok (.getfield 32, 3) := by decide +kernel
theorem dX3_reigning_11 : decode cX3_reigning 11 = .ok (.bipush 6, 2) := by decide +kernel
theorem dX3_reigning_13 : decode cX3_reigning 13 = .ok (.if_icmp .ge 15, 3) := by decide +kernel
theorem dX3_reigning_16 : decode cX3_reigning 16 = .ok (.aload_n 0, 1) := by decide +kernel
theorem dX3_reigning_17 : decode cX3_reigning 17 = .ok (.getfield 9, 3) := by decide +kernel
theorem dX3_reigning_20 : decode cX3_reigning 20 = .ok (.aload_n 0, 1) := by decide +kernel
theorem dX3_reigning_21 : decode cX3_reigning 21 = .ok (.getfield 32, 3) := by decide +kernel
theorem dX3_reigning_24 : decode cX3_reigning 24 = .ok (.iaload, 1) := by decide +kernel
theorem dX3_reigning_25 : decode cX3_reigning 25 = .ok (.goto 4, 3) := by decide +kernel
theorem dX3_reigning_28 : decode cX3_reigning 28 = .ok (.iconst 0, 1) := by decide +kernel
theorem dX3_reigning_29 : decode cX3_reigning 29 = .ok (.ireturn, 1) := by decide +kernel
theorem dX3_ringsOn_0 : decode cX3_ringsOn 0 = .ok (.aload_n 0, 1) := by decide +kernel
theorem dX3_ringsOn_1 : decode cX3_ringsOn 1 = .ok (.invokevirtual 39, 3) := by decide +kernel
theorem dX3_ringsOn_4 : decode cX3_ringsOn 4 = .ok (.istore_n 2, 1) := by decide +kernel
theorem dX3_ringsOn_5 : decode cX3_ringsOn 5 = .ok (.aload_n 0, 1) := by decide +kernel
theorem dX3_ringsOn_6 : decode cX3_ringsOn 6 = .ok (.aload_n 0, 1) := by decide +kernel
theorem dX3_ringsOn_7 : decode cX3_ringsOn 7 = .ok (.getfield 15, 3) := by decide +kernel
theorem dX3_ringsOn_10 : decode cX3_ringsOn 10 = .ok (.aload_n 0, 1) := by decide +kernel
theorem dX3_ringsOn_11 : decode cX3_ringsOn 11 = .ok (.getfield 38, 3) := by decide +kernel
theorem dX3_ringsOn_14 : decode cX3_ringsOn 14 = .ok (.invokevirtual 43, 3) := by decide +kernel
theorem dX3_ringsOn_17 : decode cX3_ringsOn 17 = .ok (.aload_n 0, 1) := by decide +kernel
theorem dX3_ringsOn_18 : decode cX3_ringsOn 18 = .ok (.getfield 19, 3) := by decide +kernel
theorem dX3_ringsOn_21 : decode cX3_ringsOn 21 = .ok (.iload_n 1, 1) := by decide +kernel
theorem dX3_ringsOn_22 : decode cX3_ringsOn 22 = .ok (.iload_n 2, 1) := by decide +kernel
theorem dX3_ringsOn_23 : decode cX3_ringsOn 23 = .ok (.invokevirtual 49, 3) := by decide +kernel
theorem dX3_ringsOn_26 : decode cX3_ringsOn 26 = .ok (.iadd, 1) := by decide +kernel
theorem dX3_ringsOn_27 : decode cX3_ringsOn 27 = .ok (.putfield 38, 3) := by decide +kernel
theorem dX3_ringsOn_30 : decode cX3_ringsOn 30 = .ok (.aload_n 0, 1) := by decide +kernel
theorem dX3_ringsOn_31 : decode cX3_ringsOn 31 = .ok (.getfield 38, 3) := by decide +kernel
theorem dX3_ringsOn_34 : decode cX3_ringsOn 34 = .ok (.aload_n 0, 1) := by decide +kernel
theorem dX3_ringsOn_35 : decode cX3_ringsOn 35 = .ok (.getfield 15, 3) := by decide +kernel
theorem dX3_ringsOn_38 : decode cX3_ringsOn 38 = .ok (.iload_n 2, 1) := by decide +kernel
theorem dX3_ringsOn_39 : decode cX3_ringsOn 39 = .ok (.invokevirtual 55, 3) := by decide +kernel
theorem dX3_ringsOn_42 : decode cX3_ringsOn 42 = .ok (.if_icmp .lt 7, 3) := by decide +kernel
theorem dX3_ringsOn_45 : decode cX3_ringsOn 45 = .ok (.iconst 1, 1) := by decide +kernel
theorem dX3_ringsOn_46 : decode cX3_ringsOn 46 = .ok (.goto 4, 3) := by decide +kernel
theorem dX3_ringsOn_49 : decode cX3_ringsOn 49 = .ok (.iconst 0, 1) := by decide +kernel
theorem dX3_ringsOn_50 : decode cX3_ringsOn 50 = .ok (.ireturn, 1) := by decide +kernel
theorem dX3_change_0 : decode cX3_change 0 = .ok (.aload_n 0, 1) := by decide +kernel
theorem dX3_change_1 : decode cX3_change 1 = .ok (.aload_n 0, 1) := by decide +kernel
theorem dX3_change_2 : decode cX3_change 2 = .ok (.getfield 32, 3) := by decide +kernel
theorem dX3_change_5 : decode cX3_change 5 = .ok (.iconst 1, 1) := by decide +kernel
theorem dX3_change_6 : decode cX3_change 6 = .ok (.iadd, 1) := by decide +kernel
theorem dX3_change_7 : decode cX3_change 7 = .ok (.aload_n 0, 1) := by decide +kernel
theorem dX3_change_8 : decode cX3_change 8 = .ok (.getfield 15, 3) := by decide +kernel
theorem dX3_change_11 : decode cX3_change 11 = .ok (.getfield 58, 3) := by decide +kernel
theorem dX3_change_14 : decode cX3_change 14 = .ok (.if_icmp .ge 12, 3) := by decide +kernel
theorem dX3_change_17 : decode cX3_change 17 = .ok (.aload_n 0, 1) := by decide +kernel
theorem dX3_change_18 : decode cX3_change 18 = .ok (.getfield 32, 3) := by decide +kernel
theorem dX3_change_21 : decode cX3_change 21 = .ok (.iconst 1, 1) := by decide +kernel
theorem dX3_change_22 : decode cX3_change 22 = .ok (.iadd, 1) := by decide +kernel
theorem dX3_change_23 : decode cX3_change 23 = .ok (.goto 4, 3) := by decide +kernel
theorem dX3_change_26 : decode cX3_change 26 = .ok (.iconst 0, 1) := by decide +kernel
theorem dX3_change_27 : decode cX3_change 27 = .ok (.putfield 32, 3) := by decide +kernel
theorem dX3_change_30 : decode cX3_change 30 = .ok (.aload_n 0, 1) := by decide +kernel
theorem dX3_change_31 : decode cX3_change 31 = .ok (.iconst 0, 1) := by decide +kernel
theorem dX3_change_32 : decode cX3_change 32 = .ok (.putfield 38, 3) := by decide +kernel
theorem dX3_change_35 : decode cX3_change 35 = .ok (.return_, 1) := by decide +kernel
theorem dX3_live_0 : decode cX3_live 0 = .ok (.aload_n 0, 1) := by decide +kernel
theorem dX3_live_1 : decode cX3_live 1 = .ok (.iload_n 1, 1) := by decide +kernel
theorem dX3_live_2 : decode cX3_live 2 = .ok (.invokevirtual 61, 3) := by decide +kernel
theorem dX3_live_5 : decode cX3_live 5 = .ok (.istore_n 2, 1) := by decide +kernel
theorem dX3_live_6 : decode cX3_live 6 = .ok (.iload_n 2, 1) := by decide +kernel
theorem dX3_live_7 : decode cX3_live 7 = .ok (.ifCond .eq 7, 3) := by decide +kernel
theorem dX3_live_10 : decode cX3_live 10 = .ok (.aload_n 0, 1) := by decide +kernel
theorem dX3_live_11 : decode cX3_live 11 = .ok (.invokevirtual 65, 3) := by decide +kernel
theorem dX3_live_14 : decode cX3_live 14 = .ok (.iload_n 2, 1) := by decide +kernel
theorem dX3_live_15 : decode cX3_live 15 = .ok (.ireturn, 1) := by decide +kernel
theorem dX3_lineUp_0 : decode cX3_lineUp 0 = .ok (.iconst 0, 1) := by decide +kernel
theorem dX3_lineUp_1 : decode cX3_lineUp 1 = .ok (.istore_n 1, 1) := by decide +kernel
theorem dX3_lineUp_2 : decode cX3_lineUp 2 = .ok (.iload_n 1, 1) := by decide +kernel
theorem dX3_lineUp_3 : decode cX3_lineUp 3 = .ok (.bipush 6, 2) := by decide +kernel
theorem dX3_lineUp_5 : decode cX3_lineUp 5 = .ok (.if_icmp .ge 16, 3) := by decide +kernel
theorem dX3_lineUp_8 : decode cX3_lineUp 8 = .ok (.aload_n 0, 1) := by decide +kernel
theorem dX3_lineUp_9 : decode cX3_lineUp 9 = .ok (.getfield 9, 3) := by decide +kernel
theorem dX3_lineUp_12 : decode cX3_lineUp 12 = .ok (.iload_n 1, 1) := by decide +kernel
theorem dX3_lineUp_13 : decode cX3_lineUp 13 = .ok (.iload_n 1, 1) := by decide +kernel
theorem dX3_lineUp_14 : decode cX3_lineUp 14 = .ok (.iastore, 1) := by decide +kernel
theorem dX3_lineUp_15 : decode cX3_lineUp 15 = .ok (.iinc 1 1, 3) := by decide +kernel
theorem dX3_lineUp_18 : decode cX3_lineUp 18 = .ok (.goto (-16), 3) := by decide +kernel
theorem dX3_lineUp_21 : decode cX3_lineUp 21 = .ok (.return_, 1) := by decide +kernel
theorem dX3_copyLine_0 : decode cX3_copyLine 0 = .ok (.iconst 0, 1) := by decide +kernel
theorem dX3_copyLine_1 : decode cX3_copyLine 1 = .ok (.istore_n 2, 1) := by decide +kernel
theorem dX3_copyLine_2 : decode cX3_copyLine 2 = .ok (.iload_n 2, 1) := by decide +kernel
theorem dX3_copyLine_3 : decode cX3_copyLine 3 = .ok (.bipush 6, 2) := by decide +kernel
theorem dX3_copyLine_5 : decode cX3_copyLine 5 = .ok (.if_icmp .ge 24, 3) := by decide +kernel
theorem dX3_copyLine_8 : decode cX3_copyLine 8 = .ok (.iload_n 2, 1) := by decide +kernel
theorem dX3_copyLine_9 : decode cX3_copyLine 9 = .ok (.aload_n 1, 1) := by decide +kernel
theorem dX3_copyLine_10 : decode cX3_copyLine 10 = .ok (.arraylength, 1) := by decide +kernel
theorem dX3_copyLine_11 : decode cX3_copyLine 11 = .ok (.if_icmp .ge 18, 3) := by decide +kernel
theorem dX3_copyLine_14 : decode cX3_copyLine 14 = .ok (.aload_n 1, 1) := by decide +kernel
theorem dX3_copyLine_15 : decode cX3_copyLine 15 = .ok (.iload_n 2, 1) := by decide +kernel
theorem dX3_copyLine_16 : decode cX3_copyLine 16 = .ok (.aload_n 0, 1) := by decide +kernel
theorem dX3_copyLine_17 : decode cX3_copyLine 17 = .ok (.getfield 9, 3) := by decide +kernel
theorem dX3_copyLine_20 : decode cX3_copyLine 20 = .ok (.iload_n 2, 1) := by decide +kernel
theorem dX3_copyLine_21 : decode cX3_copyLine 21 = .ok (.iaload, 1) := by decide +kernel
theorem dX3_copyLine_22 : decode cX3_copyLine 22 = .ok (.iastore, 1) := by decide +kernel
theorem dX3_copyLine_23 : decode cX3_copyLine 23 = .ok (.iinc 2 1, 3) := by decide +kernel
theorem dX3_copyLine_26 : decode cX3_copyLine 26 = .ok (.goto (-24), 3) := by decide +kernel
theorem dX3_copyLine_29 : decode cX3_copyLine 29 = .ok (.return_, 1) := by decide +kernel
theorem dX3_lineUpNext_0 : decode cX3_lineUpNext 0 = .ok (.aload_n 0, 1) := by decide +kernel
theorem dX3_lineUpNext_1 : decode cX3_lineUpNext 1 = .ok (.getfield 15, 3) := by decide +kernel
theorem dX3_lineUpNext_4 : decode cX3_lineUpNext 4 = .ok (.getfield 58, 3) := by decide +kernel
theorem dX3_lineUpNext_7 : decode cX3_lineUpNext 7 = .ok (.bipush 6, 2) := by decide +kernel
theorem dX3_lineUpNext_9 : decode cX3_lineUpNext 9 = .ok (.invokestatic 68, 3) := by decide +kernel
theorem dX3_lineUpNext_12 : decode cX3_lineUpNext 12 = .ok (.iconst 1, 1) := by decide +kernel
theorem dX3_lineUpNext_13 : decode cX3_lineUpNext 13 = .ok (.isub, 1) := by decide +kernel
theorem dX3_lineUpNext_14 : decode cX3_lineUpNext 14 = .ok (.istore_n 2, 1) := by decide +kernel
theorem dX3_lineUpNext_15 : decode cX3_lineUpNext 15 = .ok (.aload_n 0, 1) := by decide +kernel
theorem dX3_lineUpNext_16 : decode cX3_lineUpNext 16 = .ok (.iload_n 1, 1) := by decide +kernel
theorem dX3_lineUpNext_17 : decode cX3_lineUpNext 17 = .ok (.iload_n 2, 1) := by decide +kernel
theorem dX3_lineUpNext_18 : decode cX3_lineUpNext 18 = .ok (.invokevirtual 73, 3) := by decide +kernel
theorem dX3_lineUpNext_21 : decode cX3_lineUpNext 21 = .ok (.iload_n 2, 1) := by decide +kernel
theorem dX3_lineUpNext_22 : decode cX3_lineUpNext 22 = .ok (.iconst 1, 1) := by decide +kernel
theorem dX3_lineUpNext_23 : decode cX3_lineUpNext 23 = .ok (.isub, 1) := by decide +kernel
theorem dX3_lineUpNext_24 : decode cX3_lineUpNext 24 = .ok (.istore_n 3, 1) := by decide +kernel
theorem dX3_lineUpNext_25 : decode cX3_lineUpNext 25 = .ok (.iload_n 3, 1) := by decide +kernel
theorem dX3_lineUpNext_26 : decode cX3_lineUpNext 26 = .ok (.ifCond .lt 26, 3) := by decide +kernel
theorem dX3_lineUpNext_29 : decode cX3_lineUpNext 29 = .ok (.aload_n 0, 1) := by decide +kernel
theorem dX3_lineUpNext_30 : decode cX3_lineUpNext 30 = .ok (.getfield 9, 3) := by decide +kernel
theorem dX3_lineUpNext_33 : decode cX3_lineUpNext 33 = .ok (.iload_n 3, 1) := by decide +kernel
theorem dX3_lineUpNext_34 : decode cX3_lineUpNext 34 = .ok (.iaload, 1) := by decide +kernel
theorem dX3_lineUpNext_35 : decode cX3_lineUpNext 35 = .ok (.aload_n 0, 1) := by decide +kernel
theorem dX3_lineUpNext_36 : decode cX3_lineUpNext 36 = .ok (.getfield 9, 3) := by decide +kernel
theorem dX3_lineUpNext_39 : decode cX3_lineUpNext 39 = .ok (.iload_n 3, 1) := by decide +kernel
theorem dX3_lineUpNext_40 : decode cX3_lineUpNext 40 = .ok (.iconst 1, 1) := by decide +kernel
theorem dX3_lineUpNext_41 : decode cX3_lineUpNext 41 = .ok (.iadd, 1) := by decide +kernel
theorem dX3_lineUpNext_42 : decode cX3_lineUpNext 42 = .ok (.iaload, 1) := by decide +kernel
theorem dX3_lineUpNext_43 : decode cX3_lineUpNext 43 = .ok (.if_icmp .le 9, 3) := by decide +kernel
theorem dX3_lineUpNext_46 : decode cX3_lineUpNext 46 = .ok (.iinc 3 (-1), 3) := by decide +kernel
theorem dX3_lineUpNext_49 : decode cX3_lineUpNext 49 = .ok (.goto (-24), 3) := by decide +kernel
theorem dX3_lineUpNext_52 : decode cX3_lineUpNext 52 = .ok (.iload_n 3, 1) := by decide +kernel
theorem dX3_lineUpNext_53 : decode cX3_lineUpNext 53 = .ok (.ifCond .ge 5, 3) := by decide +kernel
theorem dX3_lineUpNext_56 : decode cX3_lineUpNext 56 = .ok (.iconst 0, 1) := by decide +kernel
theorem dX3_lineUpNext_57 : decode cX3_lineUpNext 57 = .ok (.ireturn, 1) := by decide +kernel
theorem dX3_lineUpNext_58 : decode cX3_lineUpNext 58 = .ok (.iload_n 2, 1) := by decide +kernel
theorem dX3_lineUpNext_59 : decode cX3_lineUpNext 59 = .ok (.istore 4, 2) := by decide +kernel
theorem dX3_lineUpNext_61 : decode cX3_lineUpNext 61 = .ok (.iload 4, 2) := by decide +kernel
theorem dX3_lineUpNext_63 : decode cX3_lineUpNext 63 = .ok (.iload_n 3, 1) := by decide +kernel
theorem dX3_lineUpNext_64 : decode cX3_lineUpNext 64 = .ok (.if_icmp .le 25, 3) := by decide +kernel
theorem dX3_lineUpNext_67 : decode cX3_lineUpNext 67 = .ok (.aload_n 0, 1) := by decide +kernel
theorem dX3_lineUpNext_68 : decode cX3_lineUpNext 68 = .ok (.getfield 9, 3) := by decide +kernel
theorem dX3_lineUpNext_71 : decode cX3_lineUpNext 71 = .ok (.iload 4, 2) := by decide +kernel
theorem dX3_lineUpNext_73 : decode cX3_lineUpNext 73 = .ok (.iaload, 1) := by decide +kernel
theorem dX3_lineUpNext_74 : decode cX3_lineUpNext 74 = .ok (.aload_n 0, 1) := by decide +kernel
theorem dX3_lineUpNext_75 : decode cX3_lineUpNext 75 = .ok (.getfield 9, 3) := by decide +kernel
theorem dX3_lineUpNext_78 : decode cX3_lineUpNext 78 = .ok (.iload_n 3, 1) := by decide +kernel
theorem dX3_lineUpNext_79 : decode cX3_lineUpNext 79 = .ok (.iaload, 1) := by decide +kernel
theorem dX3_lineUpNext_80 : decode cX3_lineUpNext 80 = .ok (.if_icmp .ge 9, 3) := by decide +kernel
theorem dX3_lineUpNext_83 : decode cX3_lineUpNext 83 = .ok (.iinc 4 (-1), 3) := by decide +kernel
theorem dX3_lineUpNext_86 : decode cX3_lineUpNext 86 = .ok (.goto (-25), 3) := by decide +kernel
theorem dX3_lineUpNext_89 : decode cX3_lineUpNext 89 = .ok (.aload_n 0, 1) := by decide +kernel
theorem dX3_lineUpNext_90 : decode cX3_lineUpNext 90 = .ok (.iload_n 3, 1) := by decide +kernel
theorem dX3_lineUpNext_91 : decode cX3_lineUpNext 91 = .ok (.iload 4, 2) := by decide +kernel
theorem dX3_lineUpNext_93 : decode cX3_lineUpNext 93 = .ok (.invokevirtual 77, 3) := by decide +kernel
theorem dX3_lineUpNext_96 : decode cX3_lineUpNext 96 = .ok (.iload_n 3, 1) := by decide +kernel
theorem dX3_lineUpNext_97 : decode cX3_lineUpNext 97 = .ok (.iconst 1, 1) := by decide +kernel
theorem dX3_lineUpNext_98 : decode cX3_lineUpNext 98 = .ok (.iadd, 1) := by decide +kernel
theorem dX3_lineUpNext_99 : decode cX3_lineUpNext 99 = .ok (.istore 5, 2) := by decide +kernel
theorem dX3_lineUpNext_101 : decode cX3_lineUpNext 101 = .ok (.iload_n 2, 1) := by decide +kernel
theorem dX3_lineUpNext_102 : decode cX3_lineUpNext 102 = .ok (.istore 6, 2) := by decide +kernel
theorem dX3_lineUpNext_104 : decode cX3_lineUpNext 104 = .ok (.iload 5, 2) := by decide +kernel
theorem dX3_lineUpNext_106 : decode cX3_lineUpNext 106 = .ok (.iload 6, 2) := by decide +kernel
theorem dX3_lineUpNext_108 : decode cX3_lineUpNext 108 = .ok (.if_icmp .ge 20, 3) := by decide +kernel
theorem dX3_lineUpNext_111 : decode cX3_lineUpNext 111 = .ok (.aload_n 0, 1) := by decide +kernel
theorem dX3_lineUpNext_112 : decode cX3_lineUpNext 112 = .ok (.iload 5, 2) := by decide +kernel
theorem dX3_lineUpNext_114 : decode cX3_lineUpNext 114 = .ok (.iload 6, 2) := by decide +kernel
theorem dX3_lineUpNext_116 : decode cX3_lineUpNext 116 = .ok (.invokevirtual 77, 3) := by decide +kernel
theorem dX3_lineUpNext_119 : decode cX3_lineUpNext 119 = .ok (.iinc 5 1, 3) := by decide +kernel
theorem dX3_lineUpNext_122 : decode cX3_lineUpNext 122 = .ok (.iinc 6 (-1), 3) := by decide +kernel
theorem dX3_lineUpNext_125 : decode cX3_lineUpNext 125 = .ok (.goto (-21), 3) := by decide +kernel
theorem dX3_lineUpNext_128 : decode cX3_lineUpNext 128 = .ok (.iconst 1, 1) := by decide +kernel
theorem dX3_lineUpNext_129 : decode cX3_lineUpNext 129 = .ok (.ireturn, 1) := by decide +kernel
theorem dX3_sortDown_0 : decode cX3_sortDown 0 = .ok (.iload_n 1, 1) := by decide +kernel
theorem dX3_sortDown_1 : decode cX3_sortDown 1 = .ok (.iconst 0, 1) := by decide +kernel
theorem dX3_sortDown_2 : decode cX3_sortDown 2 = .ok (.invokestatic 80, 3) := by decide +kernel
theorem dX3_sortDown_5 : decode cX3_sortDown 5 = .ok (.istore_n 3, 1) := by decide +kernel
theorem dX3_sortDown_6 : decode cX3_sortDown 6 = .ok (.iload_n 3, 1) := by decide +kernel
theorem dX3_sortDown_7 : decode cX3_sortDown 7 = .ok (.iload_n 2, 1) := by decide +kernel
theorem dX3_sortDown_8 : decode cX3_sortDown 8 = .ok (.if_icmp .ge 49, 3) := by decide +kernel
end
section
theorem dX3_sortDown_11 : decode cX3_sortDown 11 = .ok (.iload_n 3, 1) := by decide +kernel
theorem dX3_sortDown_12 : decode cX3_sortDown 12 = .ok (.iconst 1, 1) := by decide +kernel
theorem dX3_sortDown_13 : decode cX3_sortDown 13 = .ok (.iadd, 1) := by decide +kernel
theorem dX3_sortDown_14 : decode cX3_sortDown 14 = .ok (.istore 4, 2) := by decide +kernel
theorem dX3_sortDown_16 : decode cX3_sortDown 16 = .ok (.iload 4, 2) := by decide +kernel
theorem dX3_sortDown_18 : decode cX3_sortDown 18 = .ok (.iload_n 2, 1) := by decide +kernel
theorem dX3_sortDown_19 : decode cX3_sortDown 19 = .ok (.if_icmp .gt 32, 3) := by decide +kernel
theorem dX3_sortDown_22 : decode cX3_sortDown 22 = .ok (.aload_n 0, 1) := by decide +kernel
theorem dX3_sortDown_23 : decode cX3_sortDown 23 = .ok (.getfield 9, 3) := by decide +kernel
theorem dX3_sortDown_26 : decode cX3_sortDown 26 = .ok (.iload 4, 2) := by decide +kernel
theorem dX3_sortDown_28 : decode cX3_sortDown 28 = .ok (.iaload, 1) := by decide +kernel
theorem dX3_sortDown_29 : decode cX3_sortDown 29 = .ok (.aload_n 0, 1) := by decide +kernel
theorem dX3_sortDown_30 : decode cX3_sortDown 30 = .ok (.getfield 9, 3) := by decide +kernel
theorem dX3_sortDown_33 : decode cX3_sortDown 33 = .ok (.iload_n 3, 1) := by decide +kernel
theorem dX3_sortDown_34 : decode cX3_sortDown 34 = .ok (.iaload, 1) := by decide +kernel
theorem dX3_sortDown_35 : decode cX3_sortDown 35 = .ok (.if_icmp .le 10, 3) := by decide +kernel
theorem dX3_sortDown_38 : decode cX3_sortDown 38 = .ok (.aload_n 0, 1) := by decide +kernel
theorem dX3_sortDown_39 : decode cX3_sortDown 39 = .ok (.iload_n 3, 1) := by decide +kernel
theorem dX3_sortDown_40 : decode cX3_sortDown 40 = .ok (.iload 4, 2) := by decide +kernel
theorem dX3_sortDown_42 : decode cX3_sortDown 42 = .ok (.invokevirtual 77, 3) := by decide +kernel
theorem dX3_sortDown_45 : decode cX3_sortDown 45 = .ok (.iinc 4 1, 3) := by decide +kernel
theorem dX3_sortDown_48 : decode cX3_sortDown 48 = .ok (.goto (-32), 3) := by decide +kernel
theorem dX3_sortDown_51 : decode cX3_sortDown 51 = .ok (.iinc 3 1, 3) := by decide +kernel
theorem dX3_sortDown_54 : decode cX3_sortDown 54 = .ok (.goto (-48), 3) := by decide +kernel
theorem dX3_sortDown_57 : decode cX3_sortDown 57 = .ok (.return_, 1) := by decide +kernel
theorem dX3_swap_0 : decode cX3_swap 0 = .ok (.aload_n 0, 1) := by decide +kernel
theorem dX3_swap_1 : decode cX3_swap 1 = .ok (.getfield 9, 3) := by decide +kernel
theorem dX3_swap_4 : decode cX3_swap 4 = .ok (.iload_n 1, 1) := by decide +kernel
theorem dX3_swap_5 : decode cX3_swap 5 = .ok (.iaload, 1) := by decide +kernel
theorem dX3_swap_6 : decode cX3_swap 6 = .ok (.istore_n 3, 1) := by decide +kernel
theorem dX3_swap_7 : decode cX3_swap 7 = .ok (.aload_n 0, 1) := by decide +kernel
theorem dX3_swap_8 : decode cX3_swap 8 = .ok (.getfield 9, 3) := by decide +kernel
theorem dX3_swap_11 : decode cX3_swap 11 = .ok (.iload_n 1, 1) := by decide +kernel
theorem dX3_swap_12 : decode cX3_swap 12 = .ok (.aload_n 0, 1) := by decide +kernel
theorem dX3_swap_13 : decode cX3_swap 13 = .ok (.getfield 9, 3) := by decide +kernel
theorem dX3_swap_16 : decode cX3_swap 16 = .ok (.iload_n 2, 1) := by decide +kernel
theorem dX3_swap_17 : decode cX3_swap 17 = .ok (.iaload, 1) := by decide +kernel
theorem dX3_swap_18 : decode cX3_swap 18 = .ok (.iastore, 1) := by decide +kernel
theorem dX3_swap_19 : decode cX3_swap 19 = .ok (.aload_n 0, 1) := by decide +kernel
theorem dX3_swap_20 : decode cX3_swap 20 = .ok (.getfield 9, 3) := by decide +kernel
theorem dX3_swap_23 : decode cX3_swap 23 = .ok (.iload_n 2, 1) := by decide +kernel
theorem dX3_swap_24 : decode cX3_swap 24 = .ok (.iload_n 3, 1) := by decide +kernel
theorem dX3_swap_25 : decode cX3_swap 25 = .ok (.iastore, 1) := by decide +kernel
theorem dX3_swap_26 : decode cX3_swap 26 = .ok (.return_, 1) := by decide +kernel
theorem dX4_init_0 : decode cX4_init 0 = .ok (.aload_n 0, 1) := by decide +kernel
theorem dX4_init_1 : decode cX4_init 1 = .ok (.invokespecial 3, 3) := by decide +kernel
theorem dX4_init_4 : decode cX4_init 4 = .ok (.aload_n 0, 1) := by decide +kernel
theorem dX4_init_5 : decode cX4_init 5 = .ok (.sipush 200, 3) := by decide +kernel
theorem dX4_init_8 : decode cX4_init 8 = .ok (.newarray .int, 2) := by decide +kernel
theorem dX4_init_10 : decode cX4_init 10 = .ok (.putfield 9, 3) := by decide +kernel
theorem dX4_init_13 : decode cX4_init 13 = .ok (.return_, 1) := by decide +kernel
theorem dX4_append_0 : decode cX4_append 0 = .ok (.aload_n 0, 1) := by decide +kernel
theorem dX4_append_1 : decode cX4_append 1 = .ok (.getfield 15, 3) := by decide +kernel
theorem dX4_append_4 : decode cX4_append 4 = .ok (.sipush 200, 3) := by decide +kernel
theorem dX4_append_7 : decode cX4_append 7 = .ok (.if_icmp .lt 5, 3) := by decide +kernel
theorem dX4_append_10 : decode cX4_append 10 = .ok (.iconst 0, 1) := by decide +kernel
theorem dX4_append_11 : decode cX4_append 11 = .ok (.ireturn, 1) := by decide +kernel
theorem dX4_append_12 : decode cX4_append 12 = .ok (.aload_n 0, 1) := by decide +kernel
theorem dX4_append_13 : decode cX4_append 13 = .ok (.getfield 9, 3) := by decide +kernel
theorem dX4_append_16 : decode cX4_append 16 = .ok (.aload_n 0, 1) := by decide +kernel
theorem dX4_append_17 : decode cX4_append 17 = .ok (.getfield 15, 3) := by decide +kernel
theorem dX4_append_20 : decode cX4_append 20 = .ok (.iload_n 1, 1) := by decide +kernel
theorem dX4_append_21 : decode cX4_append 21 = .ok (.iastore, 1) := by decide +kernel
theorem dX4_append_22 : decode cX4_append 22 = .ok (.aload_n 0, 1) := by decide +kernel
theorem dX4_append_23 : decode cX4_append 23 = .ok (.dup, 1) := by decide +kernel
theorem dX4_append_24 : decode cX4_append 24 = .ok (.getfield 15, 3) := by decide +kernel
theorem dX4_append_27 : decode cX4_append 27 = .ok (.iconst 1, 1) := by decide +kernel
theorem dX4_append_28 : decode cX4_append 28 = .ok (.iadd, 1) := by decide +kernel
theorem dX4_append_29 : decode cX4_append 29 = .ok (.putfield 15, 3) := by decide +kernel
theorem dX4_append_32 : decode cX4_append 32 = .ok (.iconst 1, 1) := by decide +kernel
theorem dX4_append_33 : decode cX4_append 33 = .ok (.ireturn, 1) := by decide +kernel
theorem dX4_clear_0 : decode cX4_clear 0 = .ok (.aload_n 0, 1) := by decide +kernel
theorem dX4_clear_1 : decode cX4_clear 1 = .ok (.iconst 0, 1) := by decide +kernel
theorem dX4_clear_2 : decode cX4_clear 2 = .ok (.putfield 15, 3) := by decide +kernel
theorem dX4_clear_5 : decode cX4_clear 5 = .ok (.return_, 1) := by decide +kernel
theorem dX4_letterAt_0 : decode cX4_letterAt 0 = .ok (.iload_n 1, 1) := by decide +kernel
theorem dX4_letterAt_1 : decode cX4_letterAt 1 = .ok (.ifCond .lt 27, 3) := by decide +kernel
theorem dX4_letterAt_4 : decode cX4_letterAt 4 = .ok (.iload_n 1, 1) := by decide +kernel
theorem dX4_letterAt_5 : decode cX4_letterAt 5 = .ok (.aload_n 0, 1) := by decide +kernel
theorem dX4_letterAt_6 : decode cX4_letterAt 6 = .ok (.getfield 15, 3) := by decide +kernel
theorem dX4_letterAt_9 : decode cX4_letterAt 9 = .ok (.if_icmp .ge 19, 3) := by decide +kernel
theorem dX4_letterAt_12 : decode cX4_letterAt 12 = .ok (.iload_n 1, 1) := by decide +kernel
theorem dX4_letterAt_13 : decode cX4_letterAt 13 = .ok (.sipush 200, 3) := by decide +kernel
theorem dX4_letterAt_16 : decode cX4_letterAt 16 = .ok (.if_icmp .ge 12, 3) := by decide +kernel
theorem dX4_letterAt_19 : decode cX4_letterAt 19 = .ok (.aload_n 0, 1) := by decide +kernel
theorem dX4_letterAt_20 : decode cX4_letterAt 20 = .ok (.getfield 9, 3) := by decide +kernel
theorem dX4_letterAt_23 : decode cX4_letterAt 23 = .ok (.iload_n 1, 1) := by decide +kernel
theorem dX4_letterAt_24 : decode cX4_letterAt 24 = .ok (.iaload, 1) := by decide +kernel
theorem dX4_letterAt_25 : decode cX4_letterAt 25 = .ok (.goto 4, 3) := by decide +kernel
theorem dX4_letterAt_28 : decode cX4_letterAt 28 = .ok (.iconst (-1), 1) := by decide +kernel
theorem dX4_letterAt_29 : decode cX4_letterAt 29 = .ok (.ireturn, 1) := by decide +kernel
theorem dX4_isFigure_0 : decode cX4_isFigure 0 = .ok (.aload_n 0, 1) := by decide +kernel
theorem dX4_isFigure_1 : decode cX4_isFigure 1 = .ok (.iload_n 1, 1) := by decide +kernel
theorem dX4_isFigure_2 : decode cX4_isFigure 2 = .ok (.invokevirtual 19, 3) := by decide +kernel
theorem dX4_isFigure_5 : decode cX4_isFigure 5 = .ok (.istore_n 2, 1) := by decide +kernel
theorem dX4_isFigure_6 : decode cX4_isFigure 6 = .ok (.iload_n 2, 1) := by decide +kernel
theorem dX4_isFigure_7 : decode cX4_isFigure 7 = .ok (.bipush 48, 2) := by decide +kernel
theorem dX4_isFigure_9 : decode cX4_isFigure 9 = .ok (.if_icmp .lt 13, 3) := by decide +kernel
theorem dX4_isFigure_12 : decode cX4_isFigure 12 = .ok (.iload_n 2, 1) := by decide +kernel
theorem dX4_isFigure_13 : decode cX4_isFigure 13 = .ok (.bipush 57, 2) := by decide +kernel
theorem dX4_isFigure_15 : decode cX4_isFigure 15 = .ok (.if_icmp .gt 7, 3) := by decide +kernel
theorem dX4_isFigure_18 : decode cX4_isFigure 18 = .ok (.iconst 1, 1) := by decide +kernel
theorem dX4_isFigure_19 : decode cX4_isFigure 19 = .ok (.goto 4, 3) := by decide +kernel
theorem dX4_isFigure_22 : decode cX4_isFigure 22 = .ok (.iconst 0, 1) := by decide +kernel
theorem dX4_isFigure_23 : decode cX4_isFigure 23 = .ok (.ireturn, 1) := by decide +kernel
theorem dX4_figuresAt_0 : decode cX4_figuresAt 0 = .ok (.iconst 0, 1) := by decide +kernel
theorem dX4_figuresAt_1 : decode cX4_figuresAt 1 = .ok (.istore_n 2, 1) := by decide +kernel
theorem dX4_figuresAt_2 : decode cX4_figuresAt 2 = .ok (.iload_n 2, 1) := by decide +kernel
theorem dX4_figuresAt_3 : decode cX4_figuresAt 3 = .ok (.iconst 3, 1) := by decide +kernel
theorem dX4_figuresAt_4 : decode cX4_figuresAt 4 = .ok (.if_icmp .ge 19, 3) := by decide +kernel
theorem dX4_figuresAt_7 : decode cX4_figuresAt 7 = .ok (.aload_n 0, 1) := by decide +kernel
theorem dX4_figuresAt_8 : decode cX4_figuresAt 8 = .ok (.iload_n 1, 1) := by decide +kernel
theorem dX4_figuresAt_9 : decode cX4_figuresAt 9 = .ok (.iload_n 2, 1) := by decide +kernel
theorem dX4_figuresAt_10 : decode cX4_figuresAt 10 = .ok (.iadd, 1) := by decide +kernel
theorem dX4_figuresAt_11 : decode cX4_figuresAt 11 = .ok (.invokevirtual 23, 3) := by decide +kernel
theorem dX4_figuresAt_14 : decode cX4_figuresAt 14 = .ok (.ifCond .eq 9, 3) := by decide +kernel
theorem dX4_figuresAt_17 : decode cX4_figuresAt 17 = .ok (.iinc 2 1, 3) := by decide +kernel
theorem dX4_figuresAt_20 : decode cX4_figuresAt 20 = .ok (.goto (-18), 3) := by decide +kernel
theorem dX4_figuresAt_23 : decode cX4_figuresAt 23 = .ok (.iload_n 2, 1) := by decide +kernel
theorem dX4_figuresAt_24 : decode cX4_figuresAt 24 = .ok (.ireturn, 1) := by decide +kernel
theorem dX4_numberAt_0 : decode cX4_numberAt 0 = .ok (.iconst 0, 1) := by decide +kernel
theorem dX4_numberAt_1 : decode cX4_numberAt 1 = .ok (.istore_n 3, 1) := by decide +kernel
theorem dX4_numberAt_2 : decode cX4_numberAt 2 = .ok (.iconst 0, 1) := by decide +kernel
theorem dX4_numberAt_3 : decode cX4_numberAt 3 = .ok (.istore 4, 2) := by decide +kernel
theorem dX4_numberAt_5 : decode cX4_numberAt 5 = .ok (.iload 4, 2) := by decide +kernel
theorem dX4_numberAt_7 : decode cX4_numberAt 7 = .ok (.iload_n 2, 1) := by decide +kernel
theorem dX4_numberAt_8 : decode cX4_numberAt 8 = .ok (.if_icmp .ge 26, 3) := by decide +kernel
theorem dX4_numberAt_11 : decode cX4_numberAt 11 = .ok (.bipush 10, 2) := by decide +kernel
theorem dX4_numberAt_13 : decode cX4_numberAt 13 = .ok (.iload_n 3, 1) := by decide +kernel
theorem dX4_numberAt_14 : decode cX4_numberAt 14 = .ok (.imul, 1) := by decide +kernel
theorem dX4_numberAt_15 : decode cX4_numberAt 15 = .ok (.aload_n 0, 1) := by decide +kernel
theorem dX4_numberAt_16 : decode cX4_numberAt 16 = .ok (.iload_n 1, 1) := by decide +kernel
theorem dX4_numberAt_17 : decode cX4_numberAt 17 = .ok (.iload 4, 2) := by decide +kernel
theorem dX4_numberAt_19 : decode cX4_numberAt 19 = .ok (.iadd, 1) := by decide +kernel
theorem dX4_numberAt_20 : decode cX4_numberAt 20 = .ok (.invokevirtual 19, 3) := by decide +kernel
theorem dX4_numberAt_23 : decode cX4_numberAt 23 = .ok (.iadd, 1) := by decide +kernel
theorem dX4_numberAt_24 : decode cX4_numberAt 24 = .ok (.bipush 48, 2) := by decide +kernel
theorem dX4_numberAt_26 : decode cX4_numberAt 26 = .ok (.isub, 1) := by decide +kernel
theorem dX4_numberAt_27 : decode cX4_numberAt 27 = .ok (.istore_n 3, 1) := by decide +kernel
theorem dX4_numberAt_28 : decode cX4_numberAt 28 = .ok (.iinc 4 1, 3) := by decide +kernel
theorem dX4_numberAt_31 : decode cX4_numberAt 31 = .ok (.goto (-26), 3) := by decide +kernel
theorem dX4_numberAt_34 : decode cX4_numberAt 34 = .ok (.iload_n 3, 1) := by decide +kernel
theorem dX4_numberAt_35 : decode cX4_numberAt 35 = .ok (.ireturn, 1) := by decide +kernel
theorem dX5_init_0 : decode cX5_init 0 = .ok (.aload_n 0, 1) := by decide +kernel
theorem dX5_init_1 : decode cX5_init 1 = .ok (.invokespecial 1, 3) := by decide +kernel
theorem dX5_init_4 : decode cX5_init 4 = .ok (.aload_n 0, 1) := by decide +kernel
theorem dX5_init_5 : decode cX5_init 5 = .ok (.iload_n 1, 1) := by decide +kernel
theorem dX5_init_6 : decode cX5_init 6 = .ok (.iconst 1, 1) := by decide +kernel
theorem dX5_init_7 : decode cX5_init 7 = .ok (.invokestatic 7, 3) := by decide +kernel
theorem dX5_init_10 : decode cX5_init 10 = .ok (.anewarray 13, 3) := by decide +kernel
theorem dX5_init_13 : decode cX5_init 13 = .ok (.putfield 15, 3) := by decide +kernel
theorem dX5_init_16 : decode cX5_init 16 = .ok (.iconst 0, 1) := by decide +kernel
theorem dX5_init_17 : decode cX5_init 17 = .ok (.istore_n 2, 1) := by decide +kernel
theorem dX5_init_18 : decode cX5_init 18 = .ok (.iload_n 2, 1) := by decide +kernel
theorem dX5_init_19 : decode cX5_init 19 = .ok (.aload_n 0, 1) := by decide +kernel
theorem dX5_init_20 : decode cX5_init 20 = .ok (.getfield 15, 3) := by decide +kernel
theorem dX5_init_23 : decode cX5_init 23 = .ok (.arraylength, 1) := by decide +kernel
theorem dX5_init_24 : decode cX5_init 24 = .ok (.if_icmp .ge 22, 3) := by decide +kernel
theorem dX5_init_27 : decode cX5_init 27 = .ok (.aload_n 0, 1) := by decide +kernel
theorem dX5_init_28 : decode cX5_init 28 = .ok (.getfield 15, 3) := by decide +kernel
theorem dX5_init_31 : decode cX5_init 31 = .ok (.iload_n 2, 1) := by decide +kernel
theorem dX5_init_32 : decode cX5_init 32 = .ok (.new 13, 3) := by decide +kernel
theorem dX5_init_35 : decode cX5_init 35 = .ok (.dup, 1) := by decide +kernel
theorem dX5_init_36 : decode cX5_init 36 = .ok (.invokespecial 21, 3) := by decide +kernel
theorem dX5_init_39 : decode cX5_init 39 = .ok (.aastore, 1) := by decide +kernel
theorem dX5_init_40 : decode cX5_init 40 = .ok (.iinc 2 1, 3) := by decide +kernel
theorem dX5_init_43 : decode cX5_init 43 = .ok (.goto (-25), 3) := by decide +kernel
theorem dX5_init_46 : decode cX5_init 46 = .ok (.return_, 1) := by decide +kernel
theorem dX5_clear_0 : decode cX5_clear 0 = .ok (.aload_n 0, 1) := by decide +kernel
theorem dX5_clear_1 : decode cX5_clear 1 = .ok (.iconst 0, 1) := by decide +kernel
theorem dX5_clear_2 : decode cX5_clear 2 = .ok (.putfield 22, 3) := by decide +kernel
theorem dX5_clear_5 : decode cX5_clear 5 = .ok (.aload_n 0, 1) := by decide +kernel
theorem dX5_clear_6 : decode cX5_clear 6 = .ok (.iconst 0, 1) := by decide +kernel
theorem dX5_clear_7 : decode cX5_clear 7 = .ok (.putfield 26, 3) := by decide +kernel
theorem dX5_clear_10 : decode cX5_clear 10 = .ok (.return_, 1) := by decide +kernel
theorem dX5_placeBehind_0 : decode cX5_placeBehind 0 = .ok (.aload_n 0, 1) := by decide +kernel
theorem dX5_placeBehind_1 : decode cX5_placeBehind 1 = .ok (.getfield 22, 3) := by decide +kernel
theorem dX5_placeBehind_4 : decode cX5_placeBehind 4 = .ok (.iload_n 1, 1) := by decide +kernel
theorem dX5_placeBehind_5 : decode cX5_placeBehind 5 = .ok (.iadd, 1) := by decide +kernel
theorem dX5_placeBehind_6 : decode cX5_placeBehind 6 = .ok (.istore_n 2, 1) := by decide +kernel
theorem dX5_placeBehind_7 : decode cX5_placeBehind 7 = .ok (.iload_n 2, 1) := by decide +kernel
theorem dX5_placeBehind_8 : decode cX5_placeBehind 8 = .ok (.aload_n 0, 1) := by decide +kernel
theorem dX5_placeBehind_9 : decode cX5_placeBehind 9 = .ok (.getfield 15, 3) := by decide +kernel
theorem dX5_placeBehind_12 : decode cX5_placeBehind 12 = .ok (.arraylength, 1) := by decide +kernel
theorem dX5_placeBehind_13 : decode cX5_placeBehind 13 = .ok (.if_icmp .lt 11, 3) := by decide +kernel
theorem dX5_placeBehind_16 : decode cX5_placeBehind 16 = .ok (.iload_n 2, 1) := by decide +kernel
theorem dX5_placeBehind_17 : decode cX5_placeBehind 17 = .ok (.aload_n 0, 1) := by decide +kernel
theorem dX5_placeBehind_18 : decode cX5_placeBehind 18 = .ok (.getfield 15, 3) := by decide +kernel
theorem dX5_placeBehind_21 : decode cX5_placeBehind 21 = .ok (.arraylength, 1) := by decide +kernel
theorem dX5_placeBehind_22 : decode cX5_placeBehind 22 = .ok (.isub, 1) := by decide +kernel
theorem dX5_placeBehind_23 : decode cX5_placeBehind 23 = .ok (.istore_n 2, 1) := by decide +kernel
theorem dX5_placeBehind_24 : decode cX5_placeBehind 24 = .ok (.iload_n 2, 1) := by decide +kernel
theorem dX5_placeBehind_25 : decode cX5_placeBehind 25 = .ok (.ifCond .lt 21, 3) := by decide +kernel
theorem dX5_placeBehind_28 : decode cX5_placeBehind 28 = .ok (.iload_n 2, 1) := by decide +kernel
theorem dX5_placeBehind_29 : decode cX5_placeBehind 29 = .ok (.aload_n 0, 1) := by decide +kernel
theorem dX5_placeBehind_30 : decode cX5_placeBehind 30 = .ok (.getfield 15, 3) := by decide +kernel
theorem dX5_placeBehind_33 : decode cX5_placeBehind 33 = .ok (.arraylength, 1) := by decide +kernel
theorem dX5_placeBehind_34 : decode cX5_placeBehind 34 = .ok (.if_icmp .ge 12, 3) := by decide +kernel
theorem dX5_placeBehind_37 : decode cX5_placeBehind 37 = .ok (.aload_n 0, 1) := by decide +kernel
theorem dX5_placeBehind_38 : decode cX5_placeBehind 38 = .ok (.getfield 15, 3) := by decide +kernel
theorem dX5_placeBehind_41 : decode cX5_placeBehind 41 = .ok (.iload_n 2, 1) := by decide +kernel
theorem dX5_placeBehind_42 : decode cX5_placeBehind 42 = .ok (.aaload, 1) := by decide +kernel
theorem dX5_placeBehind_43 : decode cX5_placeBehind 43 = .ok (.goto 4, 3) := by decide +kernel
theorem dX5_placeBehind_46 : decode cX5_placeBehind 46 = .ok (.aconst_null, 1) := by decide +kernel
theorem dX5_placeBehind_47 : decode cX5_placeBehind 47 = .ok (.areturn, 1) := by decide +kernel
theorem dX5_put_0 : decode cX5_put 0 = .ok (.aload_n 0, 1) := by decide +kernel
theorem dX5_put_1 : decode cX5_put 1 = .ok (.getfield 26, 3) := by decide +kernel
theorem dX5_put_4 : decode cX5_put 4 = .ok (.aload_n 0, 1) := by decide +kernel
theorem dX5_put_5 : decode cX5_put 5 = .ok (.getfield 15, 3) := by decide +kernel
theorem dX5_put_8 : decode cX5_put 8 = .ok (.arraylength, 1) := by decide +kernel
theorem dX5_put_9 : decode cX5_put 9 = .ok (.if_icmp .lt 41, 3) := by decide +kernel
theorem dX5_put_12 : decode cX5_put 12 = .ok (.aload_n 0, 1) := by decide +kernel
theorem dX5_put_13 : decode cX5_put 13 = .ok (.aload_n 0, 1) := by decide +kernel
theorem dX5_put_14 : decode cX5_put 14 = .ok (.getfield 22, 3) := by decide +kernel
theorem dX5_put_17 : decode cX5_put 17 = .ok (.iconst 1, 1) := by decide +kernel
theorem dX5_put_18 : decode cX5_put 18 = .ok (.iadd, 1) := by decide +kernel
theorem dX5_put_19 : decode cX5_put 19 = .ok (.aload_n 0, 1) := by decide +kernel
theorem dX5_put_20 : decode cX5_put 20 = .ok (.getfield 15, 3) := by decide +kernel
theorem dX5_put_23 : decode cX5_put 23 = .ok (.arraylength, 1) := by decide +kernel
theorem dX5_put_24 : decode cX5_put 24 = .ok (.if_icmp .ge 12, 3) := by decide +kernel
theorem dX5_put_27 : decode cX5_put 27 = .ok (.aload_n 0, 1) := by decide +kernel
theorem dX5_put_28 : decode cX5_put 28 = .ok (.getfield 22, 3) := by decide +kernel
theorem dX5_put_31 : decode cX5_put 31 = .ok (.iconst 1, 1) := by decide +kernel
theorem dX5_put_32 : decode cX5_put 32 = .ok (.iadd, 1) := by decide +kernel
theorem dX5_put_33 : decode cX5_put 33 = .ok (.goto 4, 3) := by decide +kernel
theorem dX5_put_36 : decode cX5_put 36 = .ok (.iconst 0, 1) := by decide +kernel
theorem dX5_put_37 : decode cX5_put 37 = .ok (.putfield 22, 3) := by decide +kernel
theorem dX5_put_40 : decode cX5_put 40 = .ok (.aload_n 0, 1) := by decide +kernel
theorem dX5_put_41 : decode cX5_put 41 = .ok (.dup, 1) := by decide +kernel
theorem dX5_put_42 : decode cX5_put 42 = .ok (.getfield 26, 3) := by decide +kernel
theorem dX5_put_45 : decode cX5_put 45 = .ok (.iconst 1, 1) := by decide +kernel
theorem dX5_put_46 : decode cX5_put 46 = .ok (.isub, 1) := by decide +kernel
theorem dX5_put_47 : decode cX5_put 47 = .ok (.putfield 26, 3) := by decide +kernel
theorem dX5_put_50 : decode cX5_put 50 = .ok (.aload_n 0, 1) := by decide +kernel
theorem dX5_put_51 : decode cX5_put 51 = .ok (.aload_n 0, 1) := by decide +kernel
theorem dX5_put_52 : decode cX5_put 52 = .ok (.getfield 26, 3) := by decide +kernel
theorem dX5_put_55 : decode cX5_put 55 = .ok (.invokevirtual 29, 3) := by decide +kernel
theorem dX5_put_58 : decode cX5_put 58 = .ok (.astore_n 2, 1) := by decide +kernel
theorem dX5_put_59 : decode cX5_put 59 = .ok (.aload_n 2, 1) := by decide +kernel
theorem dX5_put_60 : decode cX5_put 60 = .ok (.ifnull 18, 3) := by decide +kernel
theorem dX5_put_63 : decode cX5_put 63 = .ok (.aload_n 2, 1) := by decide +kernel
theorem dX5_put_64 : decode cX5_put 64 = .ok (.aload_n 1, 1) := by decide +kernel
theorem dX5_put_65 : decode cX5_put 65 = .ok (.invokevirtual 33, 3) := by decide +kernel
theorem dX5_put_68 : decode cX5_put 68 = .ok (.aload_n 0, 1) := by decide +kernel
theorem dX5_put_69 : decode cX5_put 69 = .ok (.dup, 1) := by decide +kernel
theorem dX5_put_70 : decode cX5_put 70 = .ok (.getfield 26, 3) := by decide +kernel
theorem dX5_put_73 : decode cX5_put 73 = .ok (.iconst 1, 1) := by decide +kernel
theorem dX5_put_74 : decode cX5_put 74 = .ok (.iadd, 1) := by decide +kernel
theorem dX5_put_75 : decode cX5_put 75 = .ok (.putfield 26, 3) := by decide +kernel
theorem dX5_put_78 : decode cX5_put 78 = .ok (.return_, 1) := by decide +kernel
theorem dX5_takeInto_0 : decode cX5_takeInto 0 = .ok (.aload_n 0, 1) := by decide +kernel
theorem dX5_takeInto_1 : decode cX5_takeInto 1 = .ok (.getfield 26, 3) := by decide +kernel
theorem dX5_takeInto_4 : decode cX5_takeInto 4 = .ok (.ifCond .le 16, 3) := by decide +kernel
theorem dX5_takeInto_7 : decode cX5_takeInto 7 = .ok (.aload_n 0, 1) := by decide +kernel
theorem dX5_takeInto_8 : decode cX5_takeInto 8 = .ok (.aload_n 0, 1) := by decide +kernel
theorem dX5_takeInto_9 : decode cX5_takeInto 9 = .ok (.getfield 26, 3) := by decide +kernel
theorem dX5_takeInto_12 : decode cX5_takeInto 12 = .ok (.iconst 1, 1) := by decide +kernel
theorem dX5_takeInto_13 : decode cX5_takeInto 13 = .ok (.isub, 1) := by decide +kernel
theorem dX5_takeInto_14 : decode cX5_takeInto 14 = .ok (.invokevirtual 29, 3) := by decide +kernel
theorem dX5_takeInto_17 : decode cX5_takeInto 17 = .ok (.goto 4, 3) := by decide +kernel
theorem dX5_takeInto_20 : decode cX5_takeInto 20 = .ok (.aconst_null, 1) := by decide +kernel
theorem dX5_takeInto_21 : decode cX5_takeInto 21 = .ok (.astore_n 2, 1) := by decide +kernel
theorem dX5_takeInto_22 : decode cX5_takeInto 22 = .ok (.aload_n 2, 1) := by decide +kernel
theorem dX5_takeInto_23 : decode cX5_takeInto 23 = .ok (.ifnonnull 5, 3) := by decide +kernel
theorem dX5_takeInto_26 : decode cX5_takeInto 26 = .ok (.iconst 0, 1) := by decide +kernel
theorem dX5_takeInto_27 : decode cX5_takeInto 27 = .ok (.ireturn, 1) := by decide +kernel
theorem dX5_takeInto_28 : decode cX5_takeInto 28 = .ok (.aload_n 1, 1) := by decide +kernel
theorem dX5_takeInto_29 : decode cX5_takeInto 29 = .ok (.aload_n 2, 1) := by decide +kernel
theorem dX5_takeInto_30 : decode cX5_takeInto 30 = .ok (.invokevirtual 33, 3) := by decide +kernel
theorem dX5_takeInto_33 : decode cX5_takeInto 33 = .ok (.aload_n 0, 1) := by decide +kernel
theorem dX5_takeInto_34 : decode cX5_takeInto 34 = .ok (.dup, 1) := by decide +kernel
theorem dX5_takeInto_35 : decode cX5_takeInto 35 = .ok (.getfield 26, 3) := by decide +kernel
theorem dX5_takeInto_38 : decode cX5_takeInto 38 = .ok (.iconst 1, 1) := by decide +kernel
theorem dX5_takeInto_39 : decode cX5_takeInto 39 = .ok (.isub, 1) := by decide +kernel
theorem dX5_takeInto_40 : decode cX5_takeInto 40 = .ok (.putfield 26, 3) := by decide +kernel
theorem dX5_takeInto_43 : decode cX5_takeInto 43 = .ok (.iconst 1, 1) := by decide +kernel
theorem dX5_takeInto_44 : decode cX5_takeInto 44 = .ok (.ireturn, 1) := by decide +kernel
theorem dX6_init_0 : decode cX6_init 0 = .ok (.aload_n 0, 1) := by decide +kernel
theorem dX6_init_1 : decode cX6_init 1 = .ok (.invokespecial 3, 3) := by decide +kernel
theorem dX6_init_4 : decode cX6_init 4 = .ok (.aload_n 0, 1) := by decide +kernel
theorem dX6_init_5 : decode cX6_init 5 = .ok (.bipush 8, 2) := by decide +kernel
theorem dX6_init_7 : decode cX6_init 7 = .ok (.newarray .int, 2) := by decide +kernel
theorem dX6_init_9 : decode cX6_init 9 = .ok (.putfield 9, 3) := by decide +kernel
theorem dX6_init_12 : decode cX6_init 12 = .ok (.aload_n 0, 1) := by decide +kernel
theorem dX6_init_13 : decode cX6_init 13 = .ok (.bipush 8, 2) := by decide +kernel
theorem dX6_init_15 : decode cX6_init 15 = .ok (.newarray .int, 2) := by decide +kernel
theorem dX6_init_17 : decode cX6_init 17 = .ok (.putfield 15, 3) := by decide +kernel
theorem dX6_init_20 : decode cX6_init 20 = .ok (.return_, 1) := by decide +kernel
theorem dX6_clear_0 : decode cX6_clear 0 = .ok (.aload_n 0, 1) := by decide +kernel
theorem dX6_clear_1 : decode cX6_clear 1 = .ok (.iconst 0, 1) := by decide +kernel
theorem dX6_clear_2 : decode cX6_clear 2 = .ok (.putfield 18, 3) := by decide +kernel
theorem dX6_clear_5 : decode cX6_clear 5 = .ok (.return_, 1) := by decide +kernel
theorem dX6_add_0 : decode cX6_add 0 = .ok (.aload_n 0, 1) := by decide +kernel
theorem dX6_add_1 : decode cX6_add 1 = .ok (.getfield 18, 3) := by decide +kernel
theorem dX6_add_4 : decode cX6_add 4 = .ok (.bipush 8, 2) := by decide +kernel
theorem dX6_add_6 : decode cX6_add 6 = .ok (.if_icmp .lt 5, 3) := by decide +kernel
theorem dX6_add_9 : decode cX6_add 9 = .ok (.iconst 0, 1) := by decide +kernel
theorem dX6_add_10 : decode cX6_add 10 = .ok (.ireturn, 1) := by decide +kernel
theorem dX6_add_11 : decode cX6_add 11 = .ok (.aload_n 0, 1) := by decide +kernel
theorem dX6_add_12 : decode cX6_add 12 = .ok (.getfield 9, 3) := by decide +kernel
theorem dX6_add_15 : decode cX6_add 15 = .ok (.aload_n 0, 1) := by decide +kernel
theorem dX6_add_16 : decode cX6_add 16 = .ok (.getfield 18, 3) := by decide +kernel
theorem dX6_add_19 : decode cX6_add 19 = .ok (.iload_n 1, 1) := by decide +kernel
theorem dX6_add_20 : decode cX6_add 20 = .ok (.iastore, 1) := by decide +kernel
theorem dX6_add_21 : decode cX6_add 21 = .ok (.aload_n 0, 1) := by decide +kernel
theorem dX6_add_22 : decode cX6_add 22 = .ok (.getfield 15, 3) := by decide +kernel
theorem dX6_add_25 : decode cX6_add 25 = .ok (.aload_n 0, 1) := by decide +kernel
theorem dX6_add_26 : decode cX6_add 26 = .ok (.getfield 18, 3) := by decide +kernel
theorem dX6_add_29 : decode cX6_add 29 = .ok (.iload_n 2, 1) := by decide +kernel
theorem dX6_add_30 : decode cX6_add 30 = .ok (.iastore, 1) := by decide +kernel
theorem dX6_add_31 : decode cX6_add 31 = .ok (.aload_n 0, 1) := by decide +kernel
theorem dX6_add_32 : decode cX6_add 32 = .ok (.dup, 1) := by decide +kernel
theorem dX6_add_33 : decode cX6_add 33 = .ok (.getfield 18, 3) := by decide +kernel
theorem dX6_add_36 : decode cX6_add 36 = .ok (.iconst 1, 1) := by decide +kernel
theorem dX6_add_37 : decode cX6_add 37 = .ok (.iadd, 1) := by decide +kernel
theorem dX6_add_38 : decode cX6_add 38 = .ok (.putfield 18, 3) := by decide +kernel
theorem dX6_add_41 : decode cX6_add 41 = .ok (.iconst 1, 1) := by decide +kernel
theorem dX6_add_42 : decode cX6_add 42 = .ok (.ireturn, 1) := by decide +kernel
theorem dX6_agrees_0 : decode cX6_agrees 0 = .ok (.iconst 0, 1) := by decide +kernel
theorem dX6_agrees_1 : decode cX6_agrees 1 = .ok (.istore_n 3, 1) := by decide +kernel
theorem dX6_agrees_2 : decode cX6_agrees 2 = .ok (.iload_n 3, 1) := by decide +kernel
theorem dX6_agrees_3 : decode cX6_agrees 3 = .ok (.aload_n 0, 1) := by decide +kernel
theorem dX6_agrees_4 : decode cX6_agrees 4 = .ok (.getfield 18, 3) := by decide +kernel
theorem dX6_agrees_7 : decode cX6_agrees 7 = .ok (.if_icmp .ge 37, 3) := by decide +kernel
theorem dX6_agrees_10 : decode cX6_agrees 10 = .ok (.iload_n 3, 1) := by decide +kernel
theorem dX6_agrees_11 : decode cX6_agrees 11 = .ok (.bipush 8, 2) := by decide +kernel
theorem dX6_agrees_13 : decode cX6_agrees 13 = .ok (.if_icmp .ge 31, 3) := by decide +kernel
theorem dX6_agrees_16 : decode cX6_agrees 16 = .ok (.aload_n 0, 1) := by decide +kernel
theorem dX6_agrees_17 : decode cX6_agrees 17 = .ok (.getfield 15, 3) := by decide +kernel
theorem dX6_agrees_20 : decode cX6_agrees 20 = .ok (.iload_n 3, 1) := by decide +kernel
theorem dX6_agrees_21 : decode cX6_agrees 21 = .ok (.iaload, 1) := by decide +kernel
theorem dX6_agrees_22 : decode cX6_agrees 22 = .ok (.iload_n 1, 1) := by decide +kernel
theorem dX6_agrees_23 : decode cX6_agrees 23 = .ok (.if_icmp .ne 15, 3) := by decide +kernel
theorem dX6_agrees_26 : decode cX6_agrees 26 = .ok (.aload_n 0, 1) := by decide +kernel
theorem dX6_agrees_27 : decode cX6_agrees 27 = .ok (.getfield 9, 3) := by decide +kernel
theorem dX6_agrees_30 : decode cX6_agrees 30 = .ok (.iload_n 3, 1) := by decide +kernel
theorem dX6_agrees_31 : decode cX6_agrees 31 = .ok (.iaload, 1) := by decide +kernel
theorem dX6_agrees_32 : decode cX6_agrees 32 = .ok (.iload_n 2, 1) := by decide +kernel
theorem dX6_agrees_33 : decode cX6_agrees 33 = .ok (.if_icmp .eq 5, 3) := by decide +kernel
theorem dX6_agrees_36 : decode cX6_agrees 36 = .ok (.iconst 0, 1) := by decide +kernel
theorem dX6_agrees_37 : decode cX6_agrees 37 = .ok (.ireturn, 1) := by decide +kernel
theorem dX6_agrees_38 : decode cX6_agrees 38 = .ok (.iinc 3 1, 3) := by decide +kernel
theorem dX6_agrees_41 : decode cX6_agrees 41 = .ok (.goto (-39), 3) := by decide +kernel
theorem dX6_agrees_44 : decode cX6_agrees 44 = .ok (.iconst 1, 1) := by decide +kernel
theorem dX6_agrees_45 : decode cX6_agrees 45 = .ok (.ireturn, 1) := by decide +kernel
theorem dX6_lastDay_0 : decode cX6_lastDay 0 = .ok (.iconst (-1), 1) := by decide +kernel
theorem dX6_lastDay_1 : decode cX6_lastDay 1 = .ok (.istore_n 1, 1) := by decide +kernel
theorem dX6_lastDay_2 : decode cX6_lastDay 2 = .ok (.iconst 0, 1) := by decide +kernel
theorem dX6_lastDay_3 : decode cX6_lastDay 3 = .ok (.istore_n 2, 1) := by decide +kernel
theorem dX6_lastDay_4 : decode cX6_lastDay 4 = .ok (.iload_n 2, 1) := by decide +kernel
theorem dX6_lastDay_5 : decode cX6_lastDay 5 = .ok (.aload_n 0, 1) := by decide +kernel
theorem dX6_lastDay_6 : decode cX6_lastDay 6 = .ok (.getfield 18, 3) := by decide +kernel
theorem dX6_lastDay_9 : decode cX6_lastDay 9 = .ok (.if_icmp .ge 26, 3) := by decide +kernel
theorem dX6_lastDay_12 : decode cX6_lastDay 12 = .ok (.iload_n 2, 1) := by decide +kernel
theorem dX6_lastDay_13 : decode cX6_lastDay 13 = .ok (.bipush 8, 2) := by decide +kernel
theorem dX6_lastDay_15 : decode cX6_lastDay 15 = .ok (.if_icmp .ge 20, 3) := by decide +kernel
theorem dX6_lastDay_18 : decode cX6_lastDay 18 = .ok (.iload_n 1, 1) := by decide +kernel
theorem dX6_lastDay_19 : decode cX6_lastDay 19 = .ok (.aload_n 0, 1) := by decide +kernel
theorem dX6_lastDay_20 : decode cX6_lastDay 20 = .ok (.getfield 15, 3) := by decide +kernel
theorem dX6_lastDay_23 : decode cX6_lastDay 23 = .ok (.iload_n 2, 1) := by decide +kernel
theorem dX6_lastDay_24 : decode cX6_lastDay 24 = .ok (.iaload, 1) := by decide +kernel
theorem dX6_lastDay_25 : decode cX6_lastDay 25 = .ok (.invokestatic 22, 3) := by decide +kernel
theorem dX6_lastDay_28 : decode cX6_lastDay 28 = .ok (.istore_n 1, 1) := by decide +kernel
theorem dX6_lastDay_29 : decode cX6_lastDay 29 = .ok (.iinc 2 1, 3) := by decide +kernel
theorem dX6_lastDay_32 : decode cX6_lastDay 32 = .ok (.goto (-28), 3) := by decide +kernel
theorem dX6_lastDay_35 : decode cX6_lastDay 35 = .ok (.iload_n 1, 1) := by decide +kernel
theorem dX6_lastDay_36 : decode cX6_lastDay 36 = .ok (.ireturn, 1) := by decide +kernel
theorem dX7_init_0 : decode cX7_init 0 = .ok (.aload_n 0, 1) := by decide +kernel
theorem dX7_init_1 : decode cX7_init 1 = .ok (.invokespecial 3, 3) := by decide +kernel
theorem dX7_init_4 : decode cX7_init 4 = .ok (.aload_n 0, 1) := by decide +kernel
theorem dX7_init_5 : decode cX7_init 5 = .ok (.bipush 9, 2) := by decide +kernel
theorem dX7_init_7 : decode cX7_init 7 = .ok (.newarray .int, 2) := by decide +kernel
theorem dX7_init_9 : decode cX7_init 9 = .ok (.putfield 9, 3) := by decide +kernel
theorem dX7_init_12 : decode cX7_init 12 = .ok (.aload_n 0, 1) := by decide +kernel
theorem dX7_init_13 : decode cX7_init 13 = .ok (.bipush 9, 2) := by decide +kernel
theorem dX7_init_15 : decode cX7_init 15 = .ok (.newarray .int, 2) := by decide +kernel
theorem dX7_init_17 : decode cX7_init 17 = .ok (.putfield 15, 3) := by decide +kernel
theorem dX7_init_20 : decode cX7_init 20 = .ok (.aload_n 0, 1) := by decide +kernel
theorem dX7_init_21 : decode cX7_init 21 = .ok (.bipush 9, 2) := by decide +kernel
theorem dX7_init_23 : decode cX7_init 23 = .ok (.newarray .int, 2) := by decide +kernel
theorem dX7_init_25 : decode cX7_init 25 = .ok (.putfield 18, 3) := by decide +kernel
theorem dX7_init_28 : decode cX7_init 28 = .ok (.return_, 1) := by decide +kernel
theorem dX7_clear_0 : decode cX7_clear 0 = .ok (.aload_n 0, 1) := by decide +kernel
theorem dX7_clear_1 : decode cX7_clear 1 = .ok (.iconst 0, 1) := by decide +kernel
theorem dX7_clear_2 : decode cX7_clear 2 = .ok (.putfield 21, 3) := by decide +kernel
theorem dX7_clear_5 : decode cX7_clear 5 = .ok (.return_, 1) := by decide +kernel
theorem dX7_add_0 : decode cX7_add 0 = .ok (.aload_n 0, 1) := by decide +kernel
theorem dX7_add_1 : decode cX7_add 1 = .ok (.getfield 21, 3) := by decide +kernel
theorem dX7_add_4 : decode cX7_add 4 = .ok (.bipush 9, 2) := by decide +kernel
theorem dX7_add_6 : decode cX7_add 6 = .ok (.if_icmp .lt 5, 3) := by decide +kernel
theorem dX7_add_9 : decode cX7_add 9 = .ok (.iconst 0, 1) := by decide +kernel
theorem dX7_add_10 : decode cX7_add 10 = .ok (.ireturn, 1) := by decide +kernel
theorem dX7_add_11 : decode cX7_add 11 = .ok (.aload_n 0, 1) := by decide +kernel
theorem dX7_add_12 : decode cX7_add 12 = .ok (.getfield 9, 3) := by decide +kernel
theorem dX7_add_15 : decode cX7_add 15 = .ok (.aload_n 0, 1) := by decide +kernel
theorem dX7_add_16 : decode cX7_add 16 = .ok (.getfield 21, 3) := by decide +kernel
theorem dX7_add_19 : decode cX7_add 19 = .ok (.iload_n 1, 1) := by decide +kernel
theorem dX7_add_20 : decode cX7_add 20 = .ok (.iastore, 1) := by decide +kernel
theorem dX7_add_21 : decode cX7_add 21 = .ok (.aload_n 0, 1) := by decide +kernel
theorem dX7_add_22 : decode cX7_add 22 = .ok (.getfield 15, 3) := by decide +kernel
theorem dX7_add_25 : decode cX7_add 25 = .ok (.aload_n 0, 1) := by decide +kernel
theorem dX7_add_26 : decode cX7_add 26 = .ok (.getfield 21, 3) := by decide +kernel
theorem dX7_add_29 : decode cX7_add 29 = .ok (.iload_n 2, 1) := by decide +kernel
theorem dX7_add_30 : decode cX7_add 30 = .ok (.iastore, 1) := by decide +kernel
theorem dX7_add_31 : decode cX7_add 31 = .ok (.aload_n 0, 1) := by decide +kernel
theorem dX7_add_32 : decode cX7_add 32 = .ok (.getfield 18, 3) := by decide +kernel
theorem dX7_add_35 : decode cX7_add 35 = .ok (.aload_n 0, 1) := by decide +kernel
theorem dX7_add_36 : decode cX7_add 36 = .ok (.getfield 21, 3) := by decide +kernel
theorem dX7_add_39 : decode cX7_add 39 = .ok (.iload_n 3, 1) := by decide +kernel
theorem dX7_add_40 : decode cX7_add 40 = .ok (.iastore, 1) := by decide +kernel
theorem dX7_add_41 : decode cX7_add 41 = .ok (.aload_n 0, 1) := by decide +kernel
theorem dX7_add_42 : decode cX7_add 42 = .ok (.dup, 1) := by decide +kernel
theorem dX7_add_43 : decode cX7_add 43 = .ok (.getfield 21, 3) := by decide +kernel
theorem dX7_add_46 : decode cX7_add 46 = .ok (.iconst 1, 1) := by decide +kernel
theorem dX7_add_47 : decode cX7_add 47 = .ok (.iadd, 1) := by decide +kernel
theorem dX7_add_48 : decode cX7_add 48 = .ok (.putfield 21, 3) := by decide +kernel
theorem dX7_add_51 : decode cX7_add 51 = .ok (.iconst 1, 1) := by decide +kernel
theorem dX7_add_52 : decode cX7_add 52 = .ok (.ireturn, 1) := by decide +kernel
theorem dX7_copyFrom_0 : decode cX7_copyFrom 0 = .ok (.aload_n 0, 1) := by decide +kernel
theorem dX7_copyFrom_1 : decode cX7_copyFrom 1 = .ok (.invokevirtual 25, 3) := by decide +kernel
theorem dX7_copyFrom_4 : decode cX7_copyFrom 4 = .ok (.iconst 0, 1) := by decide +kernel
theorem dX7_copyFrom_5 : decode cX7_copyFrom 5 = .ok (.istore_n 2, 1) := by decide +kernel
theorem dX7_copyFrom_6 : decode cX7_copyFrom 6 = .ok (.iload_n 2, 1) := by decide +kernel
theorem dX7_copyFrom_7 : decode cX7_copyFrom 7 = .ok (.aload_n 1, 1) := by decide +kernel
theorem dX7_copyFrom_8 : decode cX7_copyFrom 8 = .ok (.getfield 21, 3) := by decide +kernel
theorem dX7_copyFrom_11 : decode cX7_copyFrom 11 = .ok (.if_icmp .ge 38, 3) := by decide +kernel
theorem dX7_copyFrom_14 : decode cX7_copyFrom 14 = .ok (.iload_n 2, 1) := by decide +kernel
theorem dX7_copyFrom_15 : decode cX7_copyFrom 15 = .ok (.bipush 9, 2) := by decide +kernel
theorem dX7_copyFrom_17 : decode cX7_copyFrom 17 = .ok (.if_icmp .ge 32, 3) := by decide +kernel
theorem dX7_copyFrom_20 : decode cX7_copyFrom 20 = .ok (.aload_n 0, 1) := by decide +kernel
theorem dX7_copyFrom_21 : decode cX7_copyFrom 21 = .ok (.aload_n 1, 1) := by decide +kernel
theorem dX7_copyFrom_22 : decode cX7_copyFrom 22 = .ok (.getfield 9, 3) := by decide +kernel
theorem dX7_copyFrom_25 : decode cX7_copyFrom 25 = .ok (.iload_n 2, 1) := by decide +kernel
theorem dX7_copyFrom_26 : decode cX7_copyFrom 26 = .ok (.iaload, 1) := by decide +kernel
theorem dX7_copyFrom_27 : decode cX7_copyFrom 27 = .ok (.aload_n 1, 1) := by decide +kernel
theorem dX7_copyFrom_28 : decode cX7_copyFrom 28 = .ok (.getfield 15, 3) := by decide +kernel
theorem dX7_copyFrom_31 : decode cX7_copyFrom 31 = .ok (.iload_n 2, 1) := by decide +kernel
theorem dX7_copyFrom_32 : decode cX7_copyFrom 32 = .ok (.iaload, 1) := by decide +kernel
theorem dX7_copyFrom_33 : decode cX7_copyFrom 33 = .ok (.aload_n 1, 1) := by decide +kernel
theorem dX7_copyFrom_34 : decode cX7_copyFrom 34 = .ok (.getfield 18, 3) := by decide +kernel
theorem dX7_copyFrom_37 : decode cX7_copyFrom 37 = .ok (.iload_n 2, 1) := by decide +kernel
theorem dX7_copyFrom_38 : decode cX7_copyFrom 38 = .ok (.iaload, 1) := by decide +kernel
theorem dX7_copyFrom_39 : decode cX7_copyFrom 39 = .ok (.invokevirtual 28, 3) := by decide +kernel
theorem dX7_copyFrom_42 : decode cX7_copyFrom 42 = .ok (.pop, 1) := by decide +kernel
theorem dX7_copyFrom_43 : decode cX7_copyFrom 43 = .ok (.iinc 2 1, 3) := by decide +kernel
theorem dX7_copyFrom_46 : decode cX7_copyFrom 46 = .ok (.goto (-40), 3) := by decide +kernel
theorem dX7_copyFrom_49 : decode cX7_copyFrom 49 = .ok (.return_, 1) := by decide +kernel
theorem dX8_init_0 : decode cX8_init 0 = .ok (.aload_n 0, 1) := by decide +kernel
theorem dX8_init_1 : decode cX8_init 1 = .ok (.invokespecial 1, 3) := by decide +kernel
theorem dX8_init_4 : decode cX8_init 4 = .ok (.aload_n 0, 1) := by decide +kernel
theorem dX8_init_5 : decode cX8_init 5 = .ok (.new 7, 3) := by decide +kernel
theorem dX8_init_8 : decode cX8_init 8 = .ok (.dup, 1) := by decide +kernel
theorem dX8_init_9 : decode cX8_init 9 = .ok (.invokespecial 9, 3) := by decide +kernel
theorem dX8_init_12 : decode cX8_init 12 = .ok (.putfield 10, 3) := by decide +kernel
theorem dX8_init_15 : decode cX8_init 15 = .ok (.aload_n 0, 1) := by decide +kernel
theorem dX8_init_16 : decode cX8_init 16 = .ok (.new 16, 3) := by decide +kernel
theorem dX8_init_19 : decode cX8_init 19 = .ok (.dup, 1) := by decide +kernel
theorem dX8_init_20 : decode cX8_init 20 = .ok (.invokespecial 18, 3) := by decide +kernel
theorem dX8_init_23 : decode cX8_init 23 = .ok (.putfield 19, 3) := by decide +kernel
theorem dX8_init_26 : decode cX8_init 26 = .ok (.aload_n 0, 1) := by decide +kernel
theorem dX8_init_27 : decode cX8_init 27 = .ok (.new 16, 3) := by decide +kernel
theorem dX8_init_30 : decode cX8_init 30 = .ok (.dup, 1) := by decide +kernel
theorem dX8_init_31 : decode cX8_init 31 = .ok (.invokespecial 18, 3) := by decide +kernel
theorem dX8_init_34 : decode cX8_init 34 = .ok (.putfield 23, 3) := by decide +kernel
theorem dX8_init_37 : decode cX8_init 37 = .ok (.aload_n 0, 1) := by decide +kernel
theorem dX8_init_38 : decode cX8_init 38 = .ok (.new 26, 3) := by decide +kernel
theorem dX8_init_41 : decode cX8_init 41 = .ok (.dup, 1) := by decide +kernel
theorem dX8_init_42 : decode cX8_init 42 = .ok (.invokespecial 28, 3) := by decide +kernel
theorem dX8_init_45 : decode cX8_init 45 = .ok (.putfield 29, 3) := by decide +kernel
theorem dX8_init_48 : decode cX8_init 48 = .ok (.aload_n 0, 1) := by decide +kernel
theorem dX8_init_49 : decode cX8_init 49 = .ok (.new 33, 3) := by decide +kernel
theorem dX8_init_52 : decode cX8_init 52 = .ok (.dup, 1) := by decide +kernel
theorem dX8_init_53 : decode cX8_init 53 = .ok (.bipush 8, 2) := by decide +kernel
theorem dX8_init_55 : decode cX8_init 55 = .ok (.invokespecial 35, 3) := by decide +kernel
theorem dX8_init_58 : decode cX8_init 58 = .ok (.putfield 38, 3) := by decide +kernel
theorem dX8_init_61 : decode cX8_init 61 = .ok (.aload_n 0, 1) := by decide +kernel
theorem dX8_init_62 : decode cX8_init 62 = .ok (.new 33, 3) := by decide +kernel
theorem dX8_init_65 : decode cX8_init 65 = .ok (.dup, 1) := by decide +kernel
theorem dX8_init_66 : decode cX8_init 66 = .ok (.iconst 2, 1) := by decide +kernel
theorem dX8_init_67 : decode cX8_init 67 = .ok (.invokespecial 35, 3) := by decide +kernel
theorem dX8_init_70 : decode cX8_init 70 = .ok (.putfield 42, 3) := by decide +kernel
theorem dX8_init_73 : decode cX8_init 73 = .ok (.aload_n 0, 1) := by decide +kernel
theorem dX8_init_74 : decode cX8_init 74 = .ok (.new 45, 3) := by decide +kernel
theorem dX8_init_77 : decode cX8_init 77 = .ok (.dup, 1) := by decide +kernel
theorem dX8_init_78 : decode cX8_init 78 = .ok (.invokespecial 47, 3) := by decide +kernel
theorem dX8_init_81 : decode cX8_init 81 = .ok (.putfield 48, 3) := by decide +kernel
theorem dX8_init_84 : decode cX8_init 84 = .ok (.aload_n 0, 1) := by decide +kernel
theorem dX8_init_85 : decode cX8_init 85 = .ok (.new 52, 3) := by decide +kernel
theorem dX8_init_88 : decode cX8_init 88 = .ok (.dup, 1) := by decide +kernel
theorem dX8_init_89 : decode cX8_init 89 = .ok (.aload_n 0, 1) := by decide +kernel
theorem dX8_init_90 : decode cX8_init 90 = .ok (.getfield 23, 3) := by decide +kernel
theorem dX8_init_93 : decode cX8_init 93 = .ok (.invokespecial 54, 3) := by decide +kernel
theorem dX8_init_96 : decode cX8_init 96 = .ok (.putfield 57, 3) := by decide +kernel
theorem dX8_init_99 : decode cX8_init 99 = .ok (.aload_n 0, 1) := by decide +kernel
theorem dX8_init_100 : decode cX8_init 100 = .ok (.new 61, 3) := by decide +kernel
theorem dX8_init_103 : decode cX8_init 103 = .ok (.dup, 1) := by decide +kernel
theorem dX8_init_104 : decode cX8_init 104 = .ok (.aload_n 0, 1) := by decide +kernel
theorem dX8_init_105 : decode cX8_init 105 = .ok (.getfield 23, 3) := by decide +kernel
theorem dX8_init_108 : decode cX8_init 108 = .ok (.aload_n 0, 1) := by decide +kernel
theorem dX8_init_109 : decode cX8_init 109 = .ok (.getfield 57, 3) := by decide +kernel
theorem dX8_init_112 : decode cX8_init 112 = .ok (.invokespecial 63, 3) := by decide +kernel
theorem dX8_init_115 : decode cX8_init 115 = .ok (.putfield 66, 3) := by decide +kernel
theorem dX8_init_118 : decode cX8_init 118 = .ok (.aload_n 0, 1) := by decide +kernel
theorem dX8_init_119 : decode cX8_init 119 = .ok (.bipush 6, 2) := by decide +kernel
theorem dX8_init_121 : decode cX8_init 121 = .ok (.newarray .int, 2) := by decide +kernel
theorem dX8_init_123 : decode cX8_init 123 = .ok (.putfield 70, 3) := by decide +kernel
theorem dX8_init_126 : decode cX8_init 126 = .ok (.iconst 0, 1) := by decide +kernel
theorem dX8_init_127 : decode cX8_init 127 = .ok (.istore_n 1, 1) := by decide +kernel
theorem dX8_init_128 : decode cX8_init 128 = .ok (.iload_n 1, 1) := by decide +kernel
theorem dX8_init_129 : decode cX8_init 129 = .ok (.ldc 74, 2) := by decide +kernel
theorem dX8_init_131 : decode cX8_init 131 = .ok (.invokevirtual 76, 3) := by decide +kernel
theorem dX8_init_134 : decode cX8_init 134 = .ok (.if_icmp .ge 23, 3) := by decide +kernel
theorem dX8_init_137 : decode cX8_init 137 = .ok (.aload_n 0, 1) := by decide +kernel
theorem dX8_init_138 : decode cX8_init 138 = .ok (.getfield 10, 3) := by decide +kernel
theorem dX8_init_141 : decode cX8_init 141 = .ok (.ldc 74, 2) := by decide +kernel
theorem dX8_init_143 : decode cX8_init 143 = .ok (.iload_n 1, 1) := by decide +kernel
theorem dX8_init_144 : decode cX8_init 144 = .ok (.invokevirtual 82, 3) := by decide +kernel
theorem dX8_init_147 : decode cX8_init 147 = .ok (.invokevirtual 86, 3) := by decide +kernel
theorem dX8_init_150 : decode cX8_init 150 = .ok (.pop, 1) := by decide +kernel
theorem dX8_init_151 : decode cX8_init 151 = .ok (.iinc 1 1, 3) := by decide +kernel
theorem dX8_init_154 : decode cX8_init 154 = .ok (.goto (-26), 3) := by decide +kernel
theorem dX8_init_157 : decode cX8_init 157 = .ok (.aload_n 0, 1) := by decide +kernel
theorem dX8_init_158 : decode cX8_init 158 = .ok (.getfield 23, 3) := by decide +kernel
theorem dX8_init_161 : decode cX8_init 161 = .ok (.aload_n 0, 1) := by decide +kernel
theorem dX8_init_162 : decode cX8_init 162 = .ok (.getfield 10, 3) := by decide +kernel
theorem dX8_init_165 : decode cX8_init 165 = .ok (.invokevirtual 90, 3) := by decide +kernel
theorem dX8_init_168 : decode cX8_init 168 = .ok (.pop, 1) := by decide +kernel
theorem dX8_init_169 : decode cX8_init 169 = .ok (.aload_n 0, 1) := by decide +kernel
theorem dX8_init_170 : decode cX8_init 170 = .ok (.getfield 29, 3) := by decide +kernel
theorem dX8_init_173 : decode cX8_init 173 = .ok (.aload_n 0, 1) := by decide +kernel
theorem dX8_init_174 : decode cX8_init 174 = .ok (.getfield 23, 3) := by decide +kernel
theorem dX8_init_177 : decode cX8_init 177 = .ok (.invokevirtual 94, 3) := by decide +kernel
theorem dX8_init_180 : decode cX8_init 180 = .ok (.aload_n 0, 1) := by decide +kernel
theorem dX8_init_181 : decode cX8_init 181 = .ok (.getfield 10, 3) := by decide +kernel
theorem dX8_init_184 : decode cX8_init 184 = .ok (.invokevirtual 97, 3) := by decide +kernel
theorem dX8_init_187 : decode cX8_init 187 = .ok (.return_, 1) := by decide +kernel
theorem dX8_write_0 : decode cX8_write 0 = .ok (.iload_n 1, 1) := by decide +kernel
theorem dX8_write_1 : decode cX8_write 1 = .ok (.bipush 32, 2) := by decide +kernel
theorem dX8_write_3 : decode cX8_write 3 = .ok (.if_icmp .lt 9, 3) := by decide +kernel
theorem dX8_write_6 : decode cX8_write 6 = .ok (.iload_n 1, 1) := by decide +kernel
theorem dX8_write_7 : decode cX8_write 7 = .ok (.bipush 126, 2) := by decide +kernel
theorem dX8_write_9 : decode cX8_write 9 = .ok (.if_icmp .le 5, 3) := by decide +kernel
theorem dX8_write_12 : decode cX8_write 12 = .ok (.iconst (-1), 1) := by decide +kernel
theorem dX8_write_13 : decode cX8_write 13 = .ok (.ireturn, 1) := by decide +kernel
theorem dX8_write_14 : decode cX8_write 14 = .ok (.aload_n 0, 1) := by decide +kernel
theorem dX8_write_15 : decode cX8_write 15 = .ok (.getfield 10, 3) := by decide +kernel
theorem dX8_write_18 : decode cX8_write 18 = .ok (.iload_n 1, 1) := by decide +kernel
theorem dX8_write_19 : decode cX8_write 19 = .ok (.invokevirtual 86, 3) := by decide +kernel
theorem dX8_write_22 : decode cX8_write 22 = .ok (.ifCond .eq 13, 3) := by decide +kernel
theorem dX8_write_25 : decode cX8_write 25 = .ok (.aload_n 0, 1) := by decide +kernel
theorem dX8_write_26 : decode cX8_write 26 = .ok (.getfield 10, 3) := by decide +kernel
theorem dX8_write_29 : decode cX8_write 29 = .ok (.getfield 100, 3) := by decide +kernel
theorem dX8_write_32 : decode cX8_write 32 = .ok (.goto 5, 3) := by decide +kernel
theorem dX8_write_35 : decode cX8_write 35 = .ok (.bipush (-3), 2) := by decide +kernel
theorem dX8_write_37 : decode cX8_write 37 = .ok (.ireturn, 1) := by decide +kernel
theorem dX8_wipe_0 : decode cX8_wipe 0 = .ok (.aload_n 0, 1) := by decide +kernel
theorem dX8_wipe_1 : decode cX8_wipe 1 = .ok (.getfield 10, 3) := by decide +kernel
theorem dX8_wipe_4 : decode cX8_wipe 4 = .ok (.getfield 100, 3) := by decide +kernel
theorem dX8_wipe_7 : decode cX8_wipe 7 = .ok (.istore_n 1, 1) := by decide +kernel
theorem dX8_wipe_8 : decode cX8_wipe 8 = .ok (.aload_n 0, 1) := by decide +kernel
theorem dX8_wipe_9 : decode cX8_wipe 9 = .ok (.getfield 10, 3) := by decide +kernel
theorem dX8_wipe_12 : decode cX8_wipe 12 = .ok (.invokevirtual 97, 3) := by decide +kernel
theorem dX8_wipe_15 : decode cX8_wipe 15 = .ok (.iload_n 1, 1) := by decide +kernel
theorem dX8_wipe_16 : decode cX8_wipe 16 = .ok (.ireturn, 1) := by decide +kernel
theorem dX8_fault_0 : decode cX8_fault 0 = .ok (.aload_n 0, 1) := by decide +kernel
theorem dX8_fault_1 : decode cX8_fault 1 = .ok (.getfield 19, 3) := by decide +kernel
theorem dX8_fault_4 : decode cX8_fault 4 = .ok (.aload_n 0, 1) := by decide +kernel
theorem dX8_fault_5 : decode cX8_fault 5 = .ok (.getfield 10, 3) := by decide +kernel
theorem dX8_fault_8 : decode cX8_fault 8 = .ok (.invokevirtual 90, 3) := by decide +kernel
theorem dX8_fault_11 : decode cX8_fault 11 = .ok (.ireturn, 1) := by decide +kernel
theorem dX8_lay_0 : decode cX8_lay 0 = .ok (.aload_n 0, 1) := by decide +kernel
theorem dX8_lay_1 : decode cX8_lay 1 = .ok (.getfield 19, 3) := by decide +kernel
theorem dX8_lay_4 : decode cX8_lay 4 = .ok (.aload_n 0, 1) := by decide +kernel
theorem dX8_lay_5 : decode cX8_lay 5 = .ok (.getfield 10, 3) := by decide +kernel
theorem dX8_lay_8 : decode cX8_lay 8 = .ok (.invokevirtual 90, 3) := by decide +kernel
theorem dX8_lay_11 : decode cX8_lay 11 = .ok (.bipush (-4), 2) := by decide +kernel
theorem dX8_lay_13 : decode cX8_lay 13 = .ok (.if_icmp .ne 13, 3) := by decide +kernel
theorem dX8_lay_16 : decode cX8_lay 16 = .ok (.aload_n 0, 1) := by decide +kernel
theorem dX8_lay_17 : decode cX8_lay 17 = .ok (.getfield 19, 3) := by decide +kernel
theorem dX8_lay_20 : decode cX8_lay 20 = .ok (.getfield 103, 3) := by decide +kernel
theorem dX8_lay_23 : decode cX8_lay 23 = .ok (.ifCond .ne 6, 3) := by decide +kernel
theorem dX8_lay_26 : decode cX8_lay 26 = .ok (.bipush (-2), 2) := by decide +kernel
theorem dX8_lay_28 : decode cX8_lay 28 = .ok (.ireturn, 1) := by decide +kernel
theorem dX8_lay_29 : decode cX8_lay 29 = .ok (.aload_n 0, 1) := by decide +kernel
theorem dX8_lay_30 : decode cX8_lay 30 = .ok (.getfield 23, 3) := by decide +kernel
theorem dX8_lay_33 : decode cX8_lay 33 = .ok (.aload_n 0, 1) := by decide +kernel
theorem dX8_lay_34 : decode cX8_lay 34 = .ok (.getfield 10, 3) := by decide +kernel
theorem dX8_lay_37 : decode cX8_lay 37 = .ok (.invokevirtual 90, 3) := by decide +kernel
theorem dX8_lay_40 : decode cX8_lay 40 = .ok (.pop, 1) := by decide +kernel
theorem dX8_lay_41 : decode cX8_lay 41 = .ok (.aload_n 0, 1) := by decide +kernel
theorem dX8_lay_42 : decode cX8_lay 42 = .ok (.getfield 29, 3) := by decide +kernel
theorem dX8_lay_45 : decode cX8_lay 45 = .ok (.aload_n 0, 1) := by decide +kernel
theorem dX8_lay_46 : decode cX8_lay 46 = .ok (.getfield 23, 3) := by decide +kernel
theorem dX8_lay_49 : decode cX8_lay 49 = .ok (.invokevirtual 94, 3) := by decide +kernel
theorem dX8_lay_52 : decode cX8_lay 52 = .ok (.aload_n 0, 1) := by decide +kernel
theorem dX8_lay_53 : decode cX8_lay 53 = .ok (.getfield 38, 3) := by decide +kernel
theorem dX8_lay_56 : decode cX8_lay 56 = .ok (.invokevirtual 106, 3) := by decide +kernel
theorem dX8_lay_59 : decode cX8_lay 59 = .ok (.aload_n 0, 1) := by decide +kernel
theorem dX8_lay_60 : decode cX8_lay 60 = .ok (.getfield 42, 3) := by decide +kernel
theorem dX8_lay_63 : decode cX8_lay 63 = .ok (.invokevirtual 106, 3) := by decide +kernel
theorem dX8_lay_66 : decode cX8_lay 66 = .ok (.aload_n 0, 1) := by decide +kernel
theorem dX8_lay_67 : decode cX8_lay 67 = .ok (.getfield 48, 3) := by decide +kernel
theorem dX8_lay_70 : decode cX8_lay 70 = .ok (.invokevirtual 107, 3) := by decide +kernel
theorem dX8_lay_73 : decode cX8_lay 73 = .ok (.aload_n 0, 1) := by decide +kernel
theorem dX8_lay_74 : decode cX8_lay 74 = .ok (.getfield 23, 3) := by decide +kernel
theorem dX8_lay_77 : decode cX8_lay 77 = .ok (.getfield 103, 3) := by decide +kernel
theorem dX8_lay_80 : decode cX8_lay 80 = .ok (.ireturn, 1) := by decide +kernel
theorem dX8_person_0 : decode cX8_person 0 = .ok (.aload_n 0, 1) := by decide +kernel
theorem dX8_person_1 : decode cX8_person 1 = .ok (.iload_n 1, 1) := by decide +kernel
theorem dX8_person_2 : decode cX8_person 2 = .ok (.invokevirtual 108, 3) := by decide +kernel
theorem dX8_person_5 : decode cX8_person 5 = .ok (.ifCond .ne 5, 3) := by decide +kernel
theorem dX8_person_8 : decode cX8_person 8 = .ok (.iconst (-1), 1) := by decide +kernel
theorem dX8_person_9 : decode cX8_person 9 = .ok (.ireturn, 1) := by decide +kernel
theorem dX8_person_10 : decode cX8_person 10 = .ok (.iload_n 2, 1) := by decide +kernel
theorem dX8_person_11 : decode cX8_person 11 = .ok (.tableswitch 79 0 4 #[33, 43, 53, 63, 69], 33) := by decide +kernel
theorem dX8_person_44 : decode cX8_person 44 = .ok (.aload_n 0, 1) := by decide +kernel
theorem dX8_person_45 : decode cX8_person 45 = .ok (.getfield 23, 3) := by decide +kernel
theorem dX8_person_48 : decode cX8_person 48 = .ok (.getfield 111, 3) := by decide +kernel
theorem dX8_person_51 : decode cX8_person 51 = .ok (.iload_n 1, 1) := by decide +kernel
theorem dX8_person_52 : decode cX8_person 52 = .ok (.iaload, 1) := by decide +kernel
theorem dX8_person_53 : decode cX8_person 53 = .ok (.ireturn, 1) := by decide +kernel
theorem dX8_person_54 : decode cX8_person 54 = .ok (.aload_n 0, 1) := by decide +kernel
theorem dX8_person_55 : decode cX8_person 55 = .ok (.getfield 23, 3) := by decide +kernel
theorem dX8_person_58 : decode cX8_person 58 = .ok (.getfield 114, 3) := by decide +kernel
theorem dX8_person_61 : decode cX8_person 61 = .ok (.iload_n 1, 1) := by decide +kernel
theorem dX8_person_62 : decode cX8_person 62 = .ok (.iaload, 1) := by decide +kernel
theorem dX8_person_63 : decode cX8_person 63 = .ok (.ireturn, 1) := by decide +kernel
theorem dX8_person_64 : decode cX8_person 64 = .ok (.aload_n 0, 1) := by decide +kernel
theorem dX8_person_65 : decode cX8_person 65 = .ok (.getfield 23, 3) := by decide +kernel
theorem dX8_person_68 : decode cX8_person 68 = .ok (.getfield 117, 3) := by decide +kernel
theorem dX8_person_71 : decode cX8_person 71 = .ok (.iload_n 1, 1) := by decide +kernel
theorem dX8_person_72 : decode cX8_person 72 = .ok (.iaload, 1) := by decide +kernel
theorem dX8_person_73 : decode cX8_person 73 = .ok (.ireturn, 1) := by decide +kernel
theorem dX8_person_74 : decode cX8_person 74 = .ok (.aload_n 0, 1) := by decide +kernel
theorem dX8_person_75 : decode cX8_person 75 = .ok (.iload_n 1, 1) := by decide +kernel
theorem dX8_person_76 : decode cX8_person 76 = .ok (.invokevirtual 120, 3) := by decide +kernel
theorem dX8_person_79 : decode cX8_person 79 = .ok (.ireturn, 1) := by decide +kernel
theorem dX8_person_80 : decode cX8_person 80 = .ok (.aload_n 0, 1) := by decide +kernel
theorem dX8_person_81 : decode cX8_person 81 = .ok (.getfield 29, 3) := by decide +kernel
theorem dX8_person_84 : decode cX8_person 84 = .ok (.getfield 124, 3) := by decide +kernel
theorem dX8_person_87 : decode cX8_person 87 = .ok (.iload_n 1, 1) := by decide +kernel
theorem dX8_person_88 : decode cX8_person 88 = .ok (.iaload, 1) := by decide +kernel
theorem dX8_person_89 : decode cX8_person 89 = .ok (.ireturn, 1) := by decide +kernel
theorem dX8_person_90 : decode cX8_person 90 = .ok (.iconst (-1), 1) := by decide +kernel
theorem dX8_person_91 : decode cX8_person 91 = .ok (.ireturn, 1) := by decide +kernel
theorem dX8_thing_0 : decode cX8_thing 0 = .ok (.aload_n 0, 1) := by decide +kernel
theorem dX8_thing_1 : decode cX8_thing 1 = .ok (.iload_n 1, 1) := by decide +kernel
theorem dX8_thing_2 : decode cX8_thing 2 = .ok (.invokevirtual 127, 3) := by decide +kernel
theorem dX8_thing_5 : decode cX8_thing 5 = .ok (.ifCond .ne 5, 3) := by decide +kernel
theorem dX8_thing_8 : decode cX8_thing 8 = .ok (.iconst (-1), 1) := by decide +kernel
theorem dX8_thing_9 : decode cX8_thing 9 = .ok (.ireturn, 1) := by decide +kernel
theorem dX8_thing_10 : decode cX8_thing 10 = .ok (.iload_n 2, 1) := by decide +kernel
theorem dX8_thing_11 : decode cX8_thing 11 = .ok (.tableswitch 85 0 3 #[29, 42, 55, 68], 29) := by decide +kernel
theorem dX8_thing_40 : decode cX8_thing 40 = .ok (.aload_n 0, 1) := by decide +kernel
theorem dX8_thing_41 : decode cX8_thing 41 = .ok (.getfield 29, 3) := by decide +kernel
theorem dX8_thing_44 : decode cX8_thing 44 = .ok (.getfield 130, 3) := by decide +kernel
theorem dX8_thing_47 : decode cX8_thing 47 = .ok (.getfield 134, 3) := by decide +kernel
theorem dX8_thing_50 : decode cX8_thing 50 = .ok (.iload_n 1, 1) := by decide +kernel
theorem dX8_thing_51 : decode cX8_thing 51 = .ok (.iaload, 1) := by decide +kernel
theorem dX8_thing_52 : decode cX8_thing 52 = .ok (.ireturn, 1) := by decide +kernel
theorem dX8_thing_53 : decode cX8_thing 53 = .ok (.aload_n 0, 1) := by decide +kernel
theorem dX8_thing_54 : decode cX8_thing 54 = .ok (.getfield 29, 3) := by decide +kernel
theorem dX8_thing_57 : decode cX8_thing 57 = .ok (.getfield 130, 3) := by decide +kernel
theorem dX8_thing_60 : decode cX8_thing 60 = .ok (.getfield 139, 3) := by decide +kernel
theorem dX8_thing_63 : decode cX8_thing 63 = .ok (.iload_n 1, 1) := by decide +kernel
theorem dX8_thing_64 : decode cX8_thing 64 = .ok (.iaload, 1) := by decide +kernel
theorem dX8_thing_65 : decode cX8_thing 65 = .ok (.ireturn, 1) := by decide +kernel
theorem dX8_thing_66 : decode cX8_thing 66 = .ok (.aload_n 0, 1) := by decide +kernel
theorem dX8_thing_67 : decode cX8_thing 67 = .ok (.getfield 29, 3) := by decide +kernel
theorem dX8_thing_70 : decode cX8_thing 70 = .ok (.getfield 130, 3) := by decide +kernel
theorem dX8_thing_73 : decode cX8_thing 73 = .ok (.getfield 142, 3) := by decide +kernel
theorem dX8_thing_76 : decode cX8_thing 76 = .ok (.iload_n 1, 1) := by decide +kernel
theorem dX8_thing_77 : decode cX8_thing 77 = .ok (.iaload, 1) := by decide +kernel
theorem dX8_thing_78 : decode cX8_thing 78 = .ok (.ireturn, 1) := by decide +kernel
theorem dX8_thing_79 : decode cX8_thing 79 = .ok (.aload_n 0, 1) := by decide +kernel
theorem dX8_thing_80 : decode cX8_thing 80 = .ok (.getfield 29, 3) := by decide +kernel
theorem dX8_thing_83 : decode cX8_thing 83 = .ok (.iload_n 1, 1) := by decide +kernel
theorem dX8_thing_84 : decode cX8_thing 84 = .ok (.invokevirtual 145, 3) := by decide +kernel
theorem dX8_thing_87 : decode cX8_thing 87 = .ok (.ifCond .eq 7, 3) := by decide +kernel
theorem dX8_thing_90 : decode cX8_thing 90 = .ok (.iconst 1, 1) := by decide +kernel
theorem dX8_thing_91 : decode cX8_thing 91 = .ok (.goto 4, 3) := by decide +kernel
theorem dX8_thing_94 : decode cX8_thing 94 = .ok (.iconst 0, 1) := by decide +kernel
theorem dX8_thing_95 : decode cX8_thing 95 = .ok (.ireturn, 1) := by decide +kernel
theorem dX8_thing_96 : decode cX8_thing 96 = .ok (.iconst (-1), 1) := by decide +kernel
theorem dX8_thing_97 : decode cX8_thing 97 = .ok (.ireturn, 1) := by decide +kernel
theorem dX8_pass_0 : decode cX8_pass 0 = .ok (.iload_n 1, 1) := by decide +kernel
theorem dX8_pass_1 : decode cX8_pass 1 = .ok (.iconst 1, 1) := by decide +kernel
theorem dX8_pass_2 : decode cX8_pass 2 = .ok (.if_icmp .lt 9, 3) := by decide +kernel
theorem dX8_pass_5 : decode cX8_pass 5 = .ok (.iload_n 1, 1) := by decide +kernel
theorem dX8_pass_6 : decode cX8_pass 6 = .ok (.bipush 20, 2) := by decide +kernel
theorem dX8_pass_8 : decode cX8_pass 8 = .ok (.if_icmp .le 5, 3) := by decide +kernel
theorem dX8_pass_11 : decode cX8_pass 11 = .ok (.iconst (-1), 1) := by decide +kernel
theorem dX8_pass_12 : decode cX8_pass 12 = .ok (.ireturn, 1) := by decide +kernel
theorem dX8_pass_13 : decode cX8_pass 13 = .ok (.aload_n 0, 1) := by decide +kernel
theorem dX8_pass_14 : decode cX8_pass 14 = .ok (.getfield 29, 3) := by decide +kernel
theorem dX8_pass_17 : decode cX8_pass 17 = .ok (.getfield 148, 3) := by decide +kernel
theorem dX8_pass_20 : decode cX8_pass 20 = .ok (.iload_n 1, 1) := by decide +kernel
theorem dX8_pass_21 : decode cX8_pass 21 = .ok (.iadd, 1) := by decide +kernel
theorem dX8_pass_22 : decode cX8_pass 22 = .ok (.sipush 999, 3) := by decide +kernel
theorem dX8_pass_25 : decode cX8_pass 25 = .ok (.if_icmp .le 6, 3) := by decide +kernel
theorem dX8_pass_28 : decode cX8_pass 28 = .ok (.bipush (-2), 2) := by decide +kernel
theorem dX8_pass_30 : decode cX8_pass 30 = .ok (.ireturn, 1) := by decide +kernel
theorem dX8_pass_31 : decode cX8_pass 31 = .ok (.aload_n 0, 1) := by decide +kernel
theorem dX8_pass_32 : decode cX8_pass 32 = .ok (.getfield 38, 3) := by decide +kernel
theorem dX8_pass_35 : decode cX8_pass 35 = .ok (.aload_n 0, 1) := by decide +kernel
theorem dX8_pass_36 : decode cX8_pass 36 = .ok (.getfield 29, 3) := by decide +kernel
theorem dX8_pass_39 : decode cX8_pass 39 = .ok (.invokevirtual 150, 3) := by decide +kernel
theorem dX8_pass_42 : decode cX8_pass 42 = .ok (.aload_n 0, 1) := by decide +kernel
theorem dX8_pass_43 : decode cX8_pass 43 = .ok (.iload_n 1, 1) := by decide +kernel
theorem dX8_pass_44 : decode cX8_pass 44 = .ok (.invokevirtual 154, 3) := by decide +kernel
theorem dX8_pass_47 : decode cX8_pass 47 = .ok (.aload_n 0, 1) := by decide +kernel
theorem dX8_pass_48 : decode cX8_pass 48 = .ok (.getfield 66, 3) := by decide +kernel
theorem dX8_pass_51 : decode cX8_pass 51 = .ok (.aload_n 0, 1) := by decide +kernel
theorem dX8_pass_52 : decode cX8_pass 52 = .ok (.getfield 29, 3) := by decide +kernel
theorem dX8_pass_55 : decode cX8_pass 55 = .ok (.invokevirtual 157, 3) := by decide +kernel
theorem dX8_pass_58 : decode cX8_pass 58 = .ok (.iconst 0, 1) := by decide +kernel
theorem dX8_pass_59 : decode cX8_pass 59 = .ok (.istore_n 2, 1) := by decide +kernel
theorem dX8_pass_60 : decode cX8_pass 60 = .ok (.iconst 0, 1) := by decide +kernel
theorem dX8_pass_61 : decode cX8_pass 61 = .ok (.istore_n 3, 1) := by decide +kernel
theorem dX8_pass_62 : decode cX8_pass 62 = .ok (.iload_n 3, 1) := by decide +kernel
theorem dX8_pass_63 : decode cX8_pass 63 = .ok (.iload_n 1, 1) := by decide +kernel
theorem dX8_pass_64 : decode cX8_pass 64 = .ok (.if_icmp .ge 37, 3) := by decide +kernel
theorem dX8_pass_67 : decode cX8_pass 67 = .ok (.aload_n 0, 1) := by decide +kernel
theorem dX8_pass_68 : decode cX8_pass 68 = .ok (.getfield 29, 3) := by decide +kernel
theorem dX8_pass_71 : decode cX8_pass 71 = .ok (.aload_n 0, 1) := by decide +kernel
theorem dX8_pass_72 : decode cX8_pass 72 = .ok (.getfield 66, 3) := by decide +kernel
theorem dX8_pass_75 : decode cX8_pass 75 = .ok (.invokevirtual 160, 3) := by decide +kernel
theorem dX8_pass_78 : decode cX8_pass 78 = .ok (.invokevirtual 163, 3) := by decide +kernel
theorem dX8_pass_81 : decode cX8_pass 81 = .ok (.aload_n 0, 1) := by decide +kernel
theorem dX8_pass_82 : decode cX8_pass 82 = .ok (.getfield 66, 3) := by decide +kernel
theorem dX8_pass_85 : decode cX8_pass 85 = .ok (.iload_n 3, 1) := by decide +kernel
theorem dX8_pass_86 : decode cX8_pass 86 = .ok (.invokevirtual 166, 3) := by decide +kernel
theorem dX8_pass_89 : decode cX8_pass 89 = .ok (.ifCond .eq 6, 3) := by decide +kernel
theorem dX8_pass_92 : decode cX8_pass 92 = .ok (.iinc 2 1, 3) := by decide +kernel
theorem dX8_pass_95 : decode cX8_pass 95 = .ok (.iinc 3 1, 3) := by decide +kernel
theorem dX8_pass_98 : decode cX8_pass 98 = .ok (.goto (-36), 3) := by decide +kernel
theorem dX8_pass_101 : decode cX8_pass 101 = .ok (.aload_n 0, 1) := by decide +kernel
theorem dX8_pass_102 : decode cX8_pass 102 = .ok (.getfield 29, 3) := by decide +kernel
theorem dX8_pass_105 : decode cX8_pass 105 = .ok (.dup, 1) := by decide +kernel
theorem dX8_pass_106 : decode cX8_pass 106 = .ok (.getfield 148, 3) := by decide +kernel
theorem dX8_pass_109 : decode cX8_pass 109 = .ok (.iload_n 1, 1) := by decide +kernel
theorem dX8_pass_110 : decode cX8_pass 110 = .ok (.iadd, 1) := by decide +kernel
theorem dX8_pass_111 : decode cX8_pass 111 = .ok (.putfield 148, 3) := by decide +kernel
theorem dX8_pass_114 : decode cX8_pass 114 = .ok (.aload_n 0, 1) := by decide +kernel
theorem dX8_pass_115 : decode cX8_pass 115 = .ok (.getfield 29, 3) := by decide +kernel
theorem dX8_pass_118 : decode cX8_pass 118 = .ok (.aload_n 0, 1) := by decide +kernel
theorem dX8_pass_119 : decode cX8_pass 119 = .ok (.getfield 66, 3) := by decide +kernel
theorem dX8_pass_122 : decode cX8_pass 122 = .ok (.invokevirtual 160, 3) := by decide +kernel
theorem dX8_pass_125 : decode cX8_pass 125 = .ok (.putfield 169, 3) := by decide +kernel
theorem dX8_pass_128 : decode cX8_pass 128 = .ok (.aload_n 0, 1) := by decide +kernel
theorem dX8_pass_129 : decode cX8_pass 129 = .ok (.getfield 29, 3) := by decide +kernel
theorem dX8_pass_132 : decode cX8_pass 132 = .ok (.aload_n 0, 1) := by decide +kernel
theorem dX8_pass_133 : decode cX8_pass 133 = .ok (.getfield 66, 3) := by decide +kernel
theorem dX8_pass_136 : decode cX8_pass 136 = .ok (.getfield 172, 3) := by decide +kernel
theorem dX8_pass_139 : decode cX8_pass 139 = .ok (.putfield 175, 3) := by decide +kernel
theorem dX8_pass_142 : decode cX8_pass 142 = .ok (.iload_n 2, 1) := by decide +kernel
theorem dX8_pass_143 : decode cX8_pass 143 = .ok (.ireturn, 1) := by decide +kernel
theorem dX8_hide_0 : decode cX8_hide 0 = .ok (.aload_n 0, 1) := by decide +kernel
theorem dX8_hide_1 : decode cX8_hide 1 = .ok (.iload_n 1, 1) := by decide +kernel
theorem dX8_hide_2 : decode cX8_hide 2 = .ok (.invokevirtual 127, 3) := by decide +kernel
theorem dX8_hide_5 : decode cX8_hide 5 = .ok (.ifCond .ne 5, 3) := by decide +kernel
theorem dX8_hide_8 : decode cX8_hide 8 = .ok (.iconst (-1), 1) := by decide +kernel
theorem dX8_hide_9 : decode cX8_hide 9 = .ok (.ireturn, 1) := by decide +kernel
theorem dX8_hide_10 : decode cX8_hide 10 = .ok (.aload_n 0, 1) := by decide +kernel
theorem dX8_hide_11 : decode cX8_hide 11 = .ok (.getfield 38, 3) := by decide +kernel
theorem dX8_hide_14 : decode cX8_hide 14 = .ok (.aload_n 0, 1) := by decide +kernel
theorem dX8_hide_15 : decode cX8_hide 15 = .ok (.getfield 29, 3) := by decide +kernel
theorem dX8_hide_18 : decode cX8_hide 18 = .ok (.invokevirtual 150, 3) := by decide +kernel
theorem dX8_hide_21 : decode cX8_hide 21 = .ok (.aload_n 0, 1) := by decide +kernel
theorem dX8_hide_22 : decode cX8_hide 22 = .ok (.getfield 29, 3) := by decide +kernel
theorem dX8_hide_25 : decode cX8_hide 25 = .ok (.dup, 1) := by decide +kernel
theorem dX8_hide_26 : decode cX8_hide 26 = .ok (.getfield 176, 3) := by decide +kernel
theorem dX8_hide_29 : decode cX8_hide 29 = .ok (.iconst 1, 1) := by decide +kernel
theorem dX8_hide_30 : decode cX8_hide 30 = .ok (.iload_n 1, 1) := by decide +kernel
theorem dX8_hide_31 : decode cX8_hide 31 = .ok (.ishl, 1) := by decide +kernel
theorem dX8_hide_32 : decode cX8_hide 32 = .ok (.ixor, 1) := by decide +kernel
theorem dX8_hide_33 : decode cX8_hide 33 = .ok (.putfield 176, 3) := by decide +kernel
theorem dX8_hide_36 : decode cX8_hide 36 = .ok (.aload_n 0, 1) := by decide +kernel
theorem dX8_hide_37 : decode cX8_hide 37 = .ok (.getfield 29, 3) := by decide +kernel
theorem dX8_hide_40 : decode cX8_hide 40 = .ok (.iload_n 1, 1) := by decide +kernel
theorem dX8_hide_41 : decode cX8_hide 41 = .ok (.invokevirtual 145, 3) := by decide +kernel
theorem dX8_hide_44 : decode cX8_hide 44 = .ok (.ifCond .eq 7, 3) := by decide +kernel
theorem dX8_hide_47 : decode cX8_hide 47 = .ok (.iconst 1, 1) := by decide +kernel
theorem dX8_hide_48 : decode cX8_hide 48 = .ok (.goto 4, 3) := by decide +kernel
theorem dX8_hide_51 : decode cX8_hide 51 = .ok (.iconst 0, 1) := by decide +kernel
theorem dX8_hide_52 : decode cX8_hide 52 = .ok (.ireturn, 1) := by decide +kernel
theorem dX8_arrange_0 : decode cX8_arrange 0 = .ok (.iload_n 1, 1) := by decide +kernel
theorem dX8_arrange_1 : decode cX8_arrange 1 = .ok (.ifCond .lt 24, 3) := by decide +kernel
theorem dX8_arrange_4 : decode cX8_arrange 4 = .ok (.iload_n 1, 1) := by decide +kernel
theorem dX8_arrange_5 : decode cX8_arrange 5 = .ok (.sipush 999, 3) := by decide +kernel
theorem dX8_arrange_8 : decode cX8_arrange 8 = .ok (.if_icmp .gt 17, 3) := by decide +kernel
theorem dX8_arrange_11 : decode cX8_arrange 11 = .ok (.iload_n 2, 1) := by decide +kernel
theorem dX8_arrange_12 : decode cX8_arrange 12 = .ok (.invokestatic 179, 3) := by decide +kernel
theorem dX8_arrange_15 : decode cX8_arrange 15 = .ok (.ifCond .eq 10, 3) := by decide +kernel
theorem dX8_arrange_18 : decode cX8_arrange 18 = .ok (.iload_n 3, 1) := by decide +kernel
theorem dX8_arrange_19 : decode cX8_arrange 19 = .ok (.invokestatic 182, 3) := by decide +kernel
theorem dX8_arrange_22 : decode cX8_arrange 22 = .ok (.ifCond .ne 5, 3) := by decide +kernel
theorem dX8_arrange_25 : decode cX8_arrange 25 = .ok (.iconst (-1), 1) := by decide +kernel
theorem dX8_arrange_26 : decode cX8_arrange 26 = .ok (.ireturn, 1) := by decide +kernel
theorem dX8_arrange_27 : decode cX8_arrange 27 = .ok (.iload_n 1, 1) := by decide +kernel
theorem dX8_arrange_28 : decode cX8_arrange 28 = .ok (.aload_n 0, 1) := by decide +kernel
theorem dX8_arrange_29 : decode cX8_arrange 29 = .ok (.getfield 29, 3) := by decide +kernel
theorem dX8_arrange_32 : decode cX8_arrange 32 = .ok (.getfield 148, 3) := by decide +kernel
theorem dX8_arrange_35 : decode cX8_arrange 35 = .ok (.if_icmp .ge 6, 3) := by decide +kernel
theorem dX8_arrange_38 : decode cX8_arrange 38 = .ok (.bipush (-2), 2) := by decide +kernel
theorem dX8_arrange_40 : decode cX8_arrange 40 = .ok (.ireturn, 1) := by decide +kernel
theorem dX8_arrange_41 : decode cX8_arrange 41 = .ok (.aload_n 0, 1) := by decide +kernel
theorem dX8_arrange_42 : decode cX8_arrange 42 = .ok (.getfield 29, 3) := by decide +kernel
theorem dX8_arrange_45 : decode cX8_arrange 45 = .ok (.getfield 130, 3) := by decide +kernel
theorem dX8_arrange_48 : decode cX8_arrange 48 = .ok (.getfield 185, 3) := by decide +kernel
theorem dX8_arrange_51 : decode cX8_arrange 51 = .ok (.bipush 9, 2) := by decide +kernel
theorem dX8_arrange_53 : decode cX8_arrange 53 = .ok (.if_icmp .lt 6, 3) := by decide +kernel
theorem dX8_arrange_56 : decode cX8_arrange 56 = .ok (.bipush (-3), 2) := by decide +kernel
theorem dX8_arrange_58 : decode cX8_arrange 58 = .ok (.ireturn, 1) := by decide +kernel
theorem dX8_arrange_59 : decode cX8_arrange 59 = .ok (.aload_n 0, 1) := by decide +kernel
theorem dX8_arrange_60 : decode cX8_arrange 60 = .ok (.getfield 38, 3) := by decide +kernel
theorem dX8_arrange_63 : decode cX8_arrange 63 = .ok (.aload_n 0, 1) := by decide +kernel
theorem dX8_arrange_64 : decode cX8_arrange 64 = .ok (.getfield 29, 3) := by decide +kernel
theorem dX8_arrange_67 : decode cX8_arrange 67 = .ok (.invokevirtual 150, 3) := by decide +kernel
theorem dX8_arrange_70 : decode cX8_arrange 70 = .ok (.aload_n 0, 1) := by decide +kernel
theorem dX8_arrange_71 : decode cX8_arrange 71 = .ok (.getfield 29, 3) := by decide +kernel
theorem dX8_arrange_74 : decode cX8_arrange 74 = .ok (.getfield 130, 3) := by decide +kernel
theorem dX8_arrange_77 : decode cX8_arrange 77 = .ok (.iload_n 1, 1) := by decide +kernel
theorem dX8_arrange_78 : decode cX8_arrange 78 = .ok (.iload_n 2, 1) := by decide +kernel
theorem dX8_arrange_79 : decode cX8_arrange 79 = .ok (.iload_n 3, 1) := by decide +kernel
theorem dX8_arrange_80 : decode cX8_arrange 80 = .ok (.invokevirtual 188, 3) := by decide +kernel
theorem dX8_arrange_83 : decode cX8_arrange 83 = .ok (.pop, 1) := by decide +kernel
theorem dX8_arrange_84 : decode cX8_arrange 84 = .ok (.aload_n 0, 1) := by decide +kernel
theorem dX8_arrange_85 : decode cX8_arrange 85 = .ok (.getfield 29, 3) := by decide +kernel
theorem dX8_arrange_88 : decode cX8_arrange 88 = .ok (.getfield 130, 3) := by decide +kernel
theorem dX8_arrange_91 : decode cX8_arrange 91 = .ok (.getfield 185, 3) := by decide +kernel
theorem dX8_arrange_94 : decode cX8_arrange 94 = .ok (.iconst 1, 1) := by decide +kernel
theorem dX8_arrange_95 : decode cX8_arrange 95 = .ok (.isub, 1) := by decide +kernel
theorem dX8_arrange_96 : decode cX8_arrange 96 = .ok (.ireturn, 1) := by decide +kernel
theorem dX8_undo_0 : decode cX8_undo 0 = .ok (.aload_n 0, 1) := by decide +kernel
theorem dX8_undo_1 : decode cX8_undo 1 = .ok (.getfield 38, 3) := by decide +kernel
theorem dX8_undo_4 : decode cX8_undo 4 = .ok (.aload_n 0, 1) := by decide +kernel
theorem dX8_undo_5 : decode cX8_undo 5 = .ok (.getfield 29, 3) := by decide +kernel
theorem dX8_undo_8 : decode cX8_undo 8 = .ok (.invokevirtual 192, 3) := by decide +kernel
theorem dX8_undo_11 : decode cX8_undo 11 = .ok (.ifCond .eq 13, 3) := by decide +kernel
theorem dX8_undo_14 : decode cX8_undo 14 = .ok (.aload_n 0, 1) := by decide +kernel
theorem dX8_undo_15 : decode cX8_undo 15 = .ok (.getfield 38, 3) := by decide +kernel
theorem dX8_undo_18 : decode cX8_undo 18 = .ok (.getfield 196, 3) := by decide +kernel
theorem dX8_undo_21 : decode cX8_undo 21 = .ok (.goto 5, 3) := by decide +kernel
theorem dX8_undo_24 : decode cX8_undo 24 = .ok (.bipush (-2), 2) := by decide +kernel
theorem dX8_undo_26 : decode cX8_undo 26 = .ok (.ireturn, 1) := by decide +kernel
theorem dX8_king_0 : decode cX8_king 0 = .ok (.iload_n 1, 1) := by decide +kernel
theorem dX8_king_1 : decode cX8_king 1 = .ok (.invokestatic 197, 3) := by decide +kernel
theorem dX8_king_4 : decode cX8_king 4 = .ok (.ifCond .eq 10, 3) := by decide +kernel
theorem dX8_king_7 : decode cX8_king 7 = .ok (.iload_n 2, 1) := by decide +kernel
theorem dX8_king_8 : decode cX8_king 8 = .ok (.invokestatic 200, 3) := by decide +kernel
theorem dX8_king_11 : decode cX8_king 11 = .ok (.ifCond .ne 5, 3) := by decide +kernel
theorem dX8_king_14 : decode cX8_king 14 = .ok (.iconst (-1), 1) := by decide +kernel
theorem dX8_king_15 : decode cX8_king 15 = .ok (.ireturn, 1) := by decide +kernel
theorem dX8_king_16 : decode cX8_king 16 = .ok (.aload_n 0, 1) := by decide +kernel
theorem dX8_king_17 : decode cX8_king 17 = .ok (.iload_n 1, 1) := by decide +kernel
theorem dX8_king_18 : decode cX8_king 18 = .ok (.iconst 1, 1) := by decide +kernel
theorem dX8_king_19 : decode cX8_king 19 = .ok (.iadd, 1) := by decide +kernel
theorem dX8_king_20 : decode cX8_king 20 = .ok (.invokevirtual 154, 3) := by decide +kernel
theorem dX8_king_23 : decode cX8_king 23 = .ok (.aload_n 0, 1) := by decide +kernel
theorem dX8_king_24 : decode cX8_king 24 = .ok (.getfield 66, 3) := by decide +kernel
theorem dX8_king_27 : decode cX8_king 27 = .ok (.aload_n 0, 1) := by decide +kernel
theorem dX8_king_28 : decode cX8_king 28 = .ok (.getfield 29, 3) := by decide +kernel
theorem dX8_king_31 : decode cX8_king 31 = .ok (.invokevirtual 157, 3) := by decide +kernel
theorem dX8_king_34 : decode cX8_king 34 = .ok (.iconst 0, 1) := by decide +kernel
theorem dX8_king_35 : decode cX8_king 35 = .ok (.istore_n 3, 1) := by decide +kernel
theorem dX8_king_36 : decode cX8_king 36 = .ok (.iload_n 3, 1) := by decide +kernel
theorem dX8_king_37 : decode cX8_king 37 = .ok (.iload_n 1, 1) := by decide +kernel
theorem dX8_king_38 : decode cX8_king 38 = .ok (.if_icmp .ge 18, 3) := by decide +kernel
theorem dX8_king_41 : decode cX8_king 41 = .ok (.aload_n 0, 1) := by decide +kernel
theorem dX8_king_42 : decode cX8_king 42 = .ok (.getfield 66, 3) := by decide +kernel
theorem dX8_king_45 : decode cX8_king 45 = .ok (.iload_n 3, 1) := by decide +kernel
theorem dX8_king_46 : decode cX8_king 46 = .ok (.invokevirtual 166, 3) := by decide +kernel
theorem dX8_king_49 : decode cX8_king 49 = .ok (.pop, 1) := by decide +kernel
theorem dX8_king_50 : decode cX8_king 50 = .ok (.iinc 3 1, 3) := by decide +kernel
theorem dX8_king_53 : decode cX8_king 53 = .ok (.goto (-17), 3) := by decide +kernel
theorem dX8_king_56 : decode cX8_king 56 = .ok (.aload_n 0, 1) := by decide +kernel
theorem dX8_king_57 : decode cX8_king 57 = .ok (.getfield 66, 3) := by decide +kernel
theorem dX8_king_60 : decode cX8_king 60 = .ok (.invokevirtual 160, 3) := by decide +kernel
theorem dX8_king_63 : decode cX8_king 63 = .ok (.istore_n 3, 1) := by decide +kernel
theorem dX8_king_64 : decode cX8_king 64 = .ok (.aload_n 0, 1) := by decide +kernel
theorem dX8_king_65 : decode cX8_king 65 = .ok (.getfield 66, 3) := by decide +kernel
theorem dX8_king_68 : decode cX8_king 68 = .ok (.iload_n 1, 1) := by decide +kernel
theorem dX8_king_69 : decode cX8_king 69 = .ok (.invokevirtual 203, 3) := by decide +kernel
theorem dX8_king_72 : decode cX8_king 72 = .ok (.pop, 1) := by decide +kernel
theorem dX8_king_73 : decode cX8_king 73 = .ok (.iload_n 2, 1) := by decide +kernel
theorem dX8_king_74 : decode cX8_king 74 = .ok (.ifCond .ne 7, 3) := by decide +kernel
theorem dX8_king_77 : decode cX8_king 77 = .ok (.iload_n 3, 1) := by decide +kernel
theorem dX8_king_78 : decode cX8_king 78 = .ok (.goto 10, 3) := by decide +kernel
theorem dX8_king_81 : decode cX8_king 81 = .ok (.aload_n 0, 1) := by decide +kernel
theorem dX8_king_82 : decode cX8_king 82 = .ok (.getfield 66, 3) := by decide +kernel
theorem dX8_king_85 : decode cX8_king 85 = .ok (.getfield 172, 3) := by decide +kernel
theorem dX8_king_88 : decode cX8_king 88 = .ok (.ireturn, 1) := by decide +kernel
theorem dX8_bell_0 : decode cX8_bell 0 = .ok (.aload_n 0, 1) := by decide +kernel
theorem dX8_bell_1 : decode cX8_bell 1 = .ok (.bipush 41, 2) := by decide +kernel
theorem dX8_bell_3 : decode cX8_bell 3 = .ok (.invokevirtual 154, 3) := by decide +kernel
theorem dX8_bell_6 : decode cX8_bell 6 = .ok (.aload_n 0, 1) := by decide +kernel
theorem dX8_bell_7 : decode cX8_bell 7 = .ok (.invokevirtual 206, 3) := by decide +kernel
theorem dX8_bell_10 : decode cX8_bell 10 = .ok (.istore_n 1, 1) := by decide +kernel
theorem dX8_bell_11 : decode cX8_bell 11 = .ok (.iload_n 1, 1) := by decide +kernel
theorem dX8_bell_12 : decode cX8_bell 12 = .ok (.bipush 40, 2) := by decide +kernel
theorem dX8_bell_14 : decode cX8_bell 14 = .ok (.if_icmp .le 8, 3) := by decide +kernel
theorem dX8_bell_17 : decode cX8_bell 17 = .ok (.bipush (-4), 2) := by decide +kernel
theorem dX8_bell_19 : decode cX8_bell 19 = .ok (.goto 4, 3) := by decide +kernel
theorem dX8_bell_22 : decode cX8_bell 22 = .ok (.iload_n 1, 1) := by decide +kernel
theorem dX8_bell_23 : decode cX8_bell 23 = .ok (.ireturn, 1) := by decide +kernel
theorem dX8_hides_0 : decode cX8_hides 0 = .ok (.iload_n 1, 1) := by decide +kernel
theorem dX8_hides_1 : decode cX8_hides 1 = .ok (.iconst 1, 1) := by decide +kernel
theorem dX8_hides_2 : decode cX8_hides 2 = .ok (.if_icmp .lt 9, 3) := by decide +kernel
theorem dX8_hides_5 : decode cX8_hides 5 = .ok (.iload_n 1, 1) := by decide +kernel
theorem dX8_hides_6 : decode cX8_hides 6 = .ok (.bipush 40, 2) := by decide +kernel
theorem dX8_hides_8 : decode cX8_hides 8 = .ok (.if_icmp .le 5, 3) := by decide +kernel
theorem dX8_hides_11 : decode cX8_hides 11 = .ok (.iconst (-1), 1) := by decide +kernel
theorem dX8_hides_12 : decode cX8_hides 12 = .ok (.ireturn, 1) := by decide +kernel
theorem dX8_hides_13 : decode cX8_hides 13 = .ok (.aload_n 0, 1) := by decide +kernel
theorem dX8_hides_14 : decode cX8_hides 14 = .ok (.iload_n 1, 1) := by decide +kernel
theorem dX8_hides_15 : decode cX8_hides 15 = .ok (.invokevirtual 154, 3) := by decide +kernel
theorem dX8_hides_18 : decode cX8_hides 18 = .ok (.aload_n 0, 1) := by decide +kernel
theorem dX8_hides_19 : decode cX8_hides 19 = .ok (.getfield 57, 3) := by decide +kernel
theorem dX8_hides_22 : decode cX8_hides 22 = .ok (.invokevirtual 209, 3) := by decide +kernel
theorem dX8_hides_25 : decode cX8_hides 25 = .ok (.istore_n 2, 1) := by decide +kernel
theorem dX8_hides_26 : decode cX8_hides 26 = .ok (.bipush (-4), 2) := by decide +kernel
theorem dX8_hides_28 : decode cX8_hides 28 = .ok (.istore_n 3, 1) := by decide +kernel
theorem dX8_hides_29 : decode cX8_hides 29 = .ok (.bipush 10, 2) := by decide +kernel
theorem dX8_hides_31 : decode cX8_hides 31 = .ok (.istore 4, 2) := by decide +kernel
theorem dX8_hides_33 : decode cX8_hides 33 = .ok (.iconst 0, 1) := by decide +kernel
theorem dX8_hides_34 : decode cX8_hides 34 = .ok (.istore 5, 2) := by decide +kernel
theorem dX8_hides_36 : decode cX8_hides 36 = .ok (.iload 5, 2) := by decide +kernel
theorem dX8_hides_38 : decode cX8_hides 38 = .ok (.iload_n 2, 1) := by decide +kernel
theorem dX8_hides_39 : decode cX8_hides 39 = .ok (.if_icmp .gt 48, 3) := by decide +kernel
theorem dX8_hides_42 : decode cX8_hides 42 = .ok (.iload 5, 2) := by decide +kernel
theorem dX8_hides_44 : decode cX8_hides 44 = .ok (.iload_n 2, 1) := by decide +kernel
theorem dX8_hides_45 : decode cX8_hides 45 = .ok (.iconst (-1), 1) := by decide +kernel
theorem dX8_hides_46 : decode cX8_hides 46 = .ok (.ixor, 1) := by decide +kernel
theorem dX8_hides_47 : decode cX8_hides 47 = .ok (.iand, 1) := by decide +kernel
theorem dX8_hides_48 : decode cX8_hides 48 = .ok (.ifCond .ne 33, 3) := by decide +kernel
theorem dX8_hides_51 : decode cX8_hides 51 = .ok (.iload 5, 2) := by decide +kernel
theorem dX8_hides_53 : decode cX8_hides 53 = .ok (.invokestatic 212, 3) := by decide +kernel
theorem dX8_hides_56 : decode cX8_hides 56 = .ok (.iload 4, 2) := by decide +kernel
theorem dX8_hides_58 : decode cX8_hides 58 = .ok (.if_icmp .ge 23, 3) := by decide +kernel
theorem dX8_hides_61 : decode cX8_hides 61 = .ok (.aload_n 0, 1) := by decide +kernel
theorem dX8_hides_62 : decode cX8_hides 62 = .ok (.iload 5, 2) := by decide +kernel
theorem dX8_hides_64 : decode cX8_hides 64 = .ok (.iload_n 1, 1) := by decide +kernel
theorem dX8_hides_65 : decode cX8_hides 65 = .ok (.invokevirtual 217, 3) := by decide +kernel
theorem dX8_hides_68 : decode cX8_hides 68 = .ok (.ifCond .eq 13, 3) := by decide +kernel
theorem dX8_hides_71 : decode cX8_hides 71 = .ok (.iload 5, 2) := by decide +kernel
theorem dX8_hides_73 : decode cX8_hides 73 = .ok (.istore_n 3, 1) := by decide +kernel
theorem dX8_hides_74 : decode cX8_hides 74 = .ok (.iload 5, 2) := by decide +kernel
theorem dX8_hides_76 : decode cX8_hides 76 = .ok (.invokestatic 212, 3) := by decide +kernel
theorem dX8_hides_79 : decode cX8_hides 79 = .ok (.istore 4, 2) := by decide +kernel
theorem dX8_hides_81 : decode cX8_hides 81 = .ok (.iinc 5 1, 3) := by decide +kernel
theorem dX8_hides_84 : decode cX8_hides 84 = .ok (.goto (-48), 3) := by decide +kernel
theorem dX8_hides_87 : decode cX8_hides 87 = .ok (.iload_n 3, 1) := by decide +kernel
theorem dX8_hides_88 : decode cX8_hides 88 = .ok (.ireturn, 1) := by decide +kernel
theorem dX8_raise_0 : decode cX8_raise 0 = .ok (.aload_n 0, 1) := by decide +kernel
theorem dX8_raise_1 : decode cX8_raise 1 = .ok (.iload_n 1, 1) := by decide +kernel
theorem dX8_raise_2 : decode cX8_raise 2 = .ok (.invokevirtual 108, 3) := by decide +kernel
theorem dX8_raise_5 : decode cX8_raise 5 = .ok (.ifCond .eq 10, 3) := by decide +kernel
theorem dX8_raise_8 : decode cX8_raise 8 = .ok (.iload_n 2, 1) := by decide +kernel
theorem dX8_raise_9 : decode cX8_raise 9 = .ok (.invokestatic 200, 3) := by decide +kernel
theorem dX8_raise_12 : decode cX8_raise 12 = .ok (.ifCond .ne 5, 3) := by decide +kernel
theorem dX8_raise_15 : decode cX8_raise 15 = .ok (.iconst (-1), 1) := by decide +kernel
theorem dX8_raise_16 : decode cX8_raise 16 = .ok (.ireturn, 1) := by decide +kernel
theorem dX8_raise_17 : decode cX8_raise 17 = .ok (.aload_n 0, 1) := by decide +kernel
theorem dX8_raise_18 : decode cX8_raise 18 = .ok (.bipush 40, 2) := by decide +kernel
theorem dX8_raise_20 : decode cX8_raise 20 = .ok (.invokevirtual 154, 3) := by decide +kernel
theorem dX8_raise_23 : decode cX8_raise 23 = .ok (.aload_n 0, 1) := by decide +kernel
theorem dX8_raise_24 : decode cX8_raise 24 = .ok (.iload_n 1, 1) := by decide +kernel
theorem dX8_raise_25 : decode cX8_raise 25 = .ok (.invokevirtual 221, 3) := by decide +kernel
theorem dX8_raise_28 : decode cX8_raise 28 = .ok (.istore_n 3, 1) := by decide +kernel
theorem dX8_raise_29 : decode cX8_raise 29 = .ok (.sipush 1000, 3) := by decide +kernel
theorem dX8_raise_32 : decode cX8_raise 32 = .ok (.istore 4, 2) := by decide +kernel
theorem dX8_raise_34 : decode cX8_raise 34 = .ok (.iconst 0, 1) := by decide +kernel
theorem dX8_raise_35 : decode cX8_raise 35 = .ok (.istore 5, 2) := by decide +kernel
theorem dX8_raise_37 : decode cX8_raise 37 = .ok (.iload 5, 2) := by decide +kernel
theorem dX8_raise_39 : decode cX8_raise 39 = .ok (.bipush 20, 2) := by decide +kernel
theorem dX8_raise_41 : decode cX8_raise 41 = .ok (.if_icmp .ge 80, 3) := by decide +kernel
theorem dX8_raise_44 : decode cX8_raise 44 = .ok (.iconst 0, 1) := by decide +kernel
theorem dX8_raise_45 : decode cX8_raise 45 = .ok (.istore 6, 2) := by decide +kernel
theorem dX8_raise_47 : decode cX8_raise 47 = .ok (.iload 6, 2) := by decide +kernel
theorem dX8_raise_49 : decode cX8_raise 49 = .ok (.iconst 5, 1) := by decide +kernel
theorem dX8_raise_50 : decode cX8_raise 50 = .ok (.if_icmp .ge 65, 3) := by decide +kernel
theorem dX8_raise_53 : decode cX8_raise 53 = .ok (.aload_n 0, 1) := by decide +kernel
theorem dX8_raise_54 : decode cX8_raise 54 = .ok (.getfield 57, 3) := by decide +kernel
theorem dX8_raise_57 : decode cX8_raise 57 = .ok (.iload 5, 2) := by decide +kernel
theorem dX8_raise_59 : decode cX8_raise 59 = .ok (.iconst 1, 1) := by decide +kernel
theorem dX8_raise_60 : decode cX8_raise 60 = .ok (.iload 6, 2) := by decide +kernel
theorem dX8_raise_62 : decode cX8_raise 62 = .ok (.ishl, 1) := by decide +kernel
theorem dX8_raise_63 : decode cX8_raise 63 = .ok (.bipush 9, 2) := by decide +kernel
theorem dX8_raise_65 : decode cX8_raise 65 = .ok (.invokevirtual 224, 3) := by decide +kernel
theorem dX8_raise_68 : decode cX8_raise 68 = .ok (.aload_n 0, 1) := by decide +kernel
theorem dX8_raise_69 : decode cX8_raise 69 = .ok (.iload_n 1, 1) := by decide +kernel
theorem dX8_raise_70 : decode cX8_raise 70 = .ok (.invokevirtual 221, 3) := by decide +kernel
theorem dX8_raise_73 : decode cX8_raise 73 = .ok (.istore 7, 2) := by decide +kernel
theorem dX8_raise_75 : decode cX8_raise 75 = .ok (.aload_n 0, 1) := by decide +kernel
theorem dX8_raise_76 : decode cX8_raise 76 = .ok (.getfield 57, 3) := by decide +kernel
theorem dX8_raise_79 : decode cX8_raise 79 = .ok (.iload 5, 2) := by decide +kernel
theorem dX8_raise_81 : decode cX8_raise 81 = .ok (.iconst 1, 1) := by decide +kernel
theorem dX8_raise_82 : decode cX8_raise 82 = .ok (.iload 6, 2) := by decide +kernel
theorem dX8_raise_84 : decode cX8_raise 84 = .ok (.ishl, 1) := by decide +kernel
end
section
theorem dX8_raise_85 : decode cX8_raise 85 = .ok (.bipush 9, 2) := by decide +kernel
theorem dX8_raise_87 : decode cX8_raise 87 = .ok (.invokevirtual 227, 3) := by decide +kernel
theorem dX8_raise_90 : decode cX8_raise 90 = .ok (.iload 7, 2) := by decide +kernel
theorem dX8_raise_92 : decode cX8_raise 92 = .ok (.iload_n 3, 1) := by decide +kernel
theorem dX8_raise_93 : decode cX8_raise 93 = .ok (.if_icmp .ge 16, 3) := by decide +kernel
theorem dX8_raise_96 : decode cX8_raise 96 = .ok (.iload 7, 2) := by decide +kernel
theorem dX8_raise_98 : decode cX8_raise 98 = .ok (.istore_n 3, 1) := by decide +kernel
theorem dX8_raise_99 : decode cX8_raise 99 = .ok (.bipush 10, 2) := by decide +kernel
theorem dX8_raise_101 : decode cX8_raise 101 = .ok (.iload 5, 2) := by decide +kernel
theorem dX8_raise_103 : decode cX8_raise 103 = .ok (.imul, 1) := by decide +kernel
theorem dX8_raise_104 : decode cX8_raise 104 = .ok (.iload 6, 2) := by decide +kernel
theorem dX8_raise_106 : decode cX8_raise 106 = .ok (.iadd, 1) := by decide +kernel
theorem dX8_raise_107 : decode cX8_raise 107 = .ok (.istore 4, 2) := by decide +kernel
theorem dX8_raise_109 : decode cX8_raise 109 = .ok (.iinc 6 1, 3) := by decide +kernel
theorem dX8_raise_112 : decode cX8_raise 112 = .ok (.goto (-65), 3) := by decide +kernel
theorem dX8_raise_115 : decode cX8_raise 115 = .ok (.iinc 5 1, 3) := by decide +kernel
theorem dX8_raise_118 : decode cX8_raise 118 = .ok (.goto (-81), 3) := by decide +kernel
theorem dX8_raise_121 : decode cX8_raise 121 = .ok (.iload_n 3, 1) := by decide +kernel
theorem dX8_raise_122 : decode cX8_raise 122 = .ok (.bipush 40, 2) := by decide +kernel
theorem dX8_raise_124 : decode cX8_raise 124 = .ok (.if_icmp .le 6, 3) := by decide +kernel
theorem dX8_raise_127 : decode cX8_raise 127 = .ok (.bipush (-4), 2) := by decide +kernel
theorem dX8_raise_129 : decode cX8_raise 129 = .ok (.ireturn, 1) := by decide +kernel
theorem dX8_raise_130 : decode cX8_raise 130 = .ok (.iload_n 2, 1) := by decide +kernel
theorem dX8_raise_131 : decode cX8_raise 131 = .ok (.ifCond .ne 8, 3) := by decide +kernel
theorem dX8_raise_134 : decode cX8_raise 134 = .ok (.iload 4, 2) := by decide +kernel
theorem dX8_raise_136 : decode cX8_raise 136 = .ok (.goto 4, 3) := by decide +kernel
theorem dX8_raise_139 : decode cX8_raise 139 = .ok (.iload_n 3, 1) := by decide +kernel
theorem dX8_raise_140 : decode cX8_raise 140 = .ok (.ireturn, 1) := by decide +kernel
theorem dX8_order_0 : decode cX8_order 0 = .ok (.iload_n 1, 1) := by decide +kernel
theorem dX8_order_1 : decode cX8_order 1 = .ok (.iconst 1, 1) := by decide +kernel
theorem dX8_order_2 : decode cX8_order 2 = .ok (.if_icmp .lt 25, 3) := by decide +kernel
theorem dX8_order_5 : decode cX8_order 5 = .ok (.iload_n 1, 1) := by decide +kernel
theorem dX8_order_6 : decode cX8_order 6 = .ok (.bipush 40, 2) := by decide +kernel
theorem dX8_order_8 : decode cX8_order 8 = .ok (.if_icmp .gt 19, 3) := by decide +kernel
theorem dX8_order_11 : decode cX8_order 11 = .ok (.iload_n 2, 1) := by decide +kernel
theorem dX8_order_12 : decode cX8_order 12 = .ok (.iconst (-1), 1) := by decide +kernel
theorem dX8_order_13 : decode cX8_order 13 = .ok (.if_icmp .lt 14, 3) := by decide +kernel
theorem dX8_order_16 : decode cX8_order 16 = .ok (.iload_n 2, 1) := by decide +kernel
theorem dX8_order_17 : decode cX8_order 17 = .ok (.aload_n 0, 1) := by decide +kernel
theorem dX8_order_18 : decode cX8_order 18 = .ok (.getfield 23, 3) := by decide +kernel
theorem dX8_order_21 : decode cX8_order 21 = .ok (.getfield 103, 3) := by decide +kernel
theorem dX8_order_24 : decode cX8_order 24 = .ok (.if_icmp .lt 5, 3) := by decide +kernel
theorem dX8_order_27 : decode cX8_order 27 = .ok (.iconst (-1), 1) := by decide +kernel
theorem dX8_order_28 : decode cX8_order 28 = .ok (.ireturn, 1) := by decide +kernel
theorem dX8_order_29 : decode cX8_order 29 = .ok (.aload_n 0, 1) := by decide +kernel
theorem dX8_order_30 : decode cX8_order 30 = .ok (.iload_n 1, 1) := by decide +kernel
theorem dX8_order_31 : decode cX8_order 31 = .ok (.invokevirtual 154, 3) := by decide +kernel
theorem dX8_order_34 : decode cX8_order 34 = .ok (.aload_n 0, 1) := by decide +kernel
theorem dX8_order_35 : decode cX8_order 35 = .ok (.getfield 66, 3) := by decide +kernel
theorem dX8_order_38 : decode cX8_order 38 = .ok (.invokevirtual 230, 3) := by decide +kernel
theorem dX8_order_41 : decode cX8_order 41 = .ok (.iload_n 1, 1) := by decide +kernel
theorem dX8_order_42 : decode cX8_order 42 = .ok (.iconst 1, 1) := by decide +kernel
theorem dX8_order_43 : decode cX8_order 43 = .ok (.iadd, 1) := by decide +kernel
theorem dX8_order_44 : decode cX8_order 44 = .ok (.istore_n 3, 1) := by decide +kernel
theorem dX8_order_45 : decode cX8_order 45 = .ok (.iconst 0, 1) := by decide +kernel
theorem dX8_order_46 : decode cX8_order 46 = .ok (.istore 4, 2) := by decide +kernel
theorem dX8_order_48 : decode cX8_order 48 = .ok (.iload 4, 2) := by decide +kernel
theorem dX8_order_50 : decode cX8_order 50 = .ok (.sipush 720, 3) := by decide +kernel
theorem dX8_order_53 : decode cX8_order 53 = .ok (.if_icmp .ge 58, 3) := by decide +kernel
theorem dX8_order_56 : decode cX8_order 56 = .ok (.iload_n 3, 1) := by decide +kernel
theorem dX8_order_57 : decode cX8_order 57 = .ok (.ifCond .le 54, 3) := by decide +kernel
theorem dX8_order_60 : decode cX8_order 60 = .ok (.aload_n 0, 1) := by decide +kernel
theorem dX8_order_61 : decode cX8_order 61 = .ok (.iload_n 1, 1) := by decide +kernel
theorem dX8_order_62 : decode cX8_order 62 = .ok (.iload_n 3, 1) := by decide +kernel
theorem dX8_order_63 : decode cX8_order 63 = .ok (.invokevirtual 233, 3) := by decide +kernel
theorem dX8_order_66 : decode cX8_order 66 = .ok (.istore 5, 2) := by decide +kernel
theorem dX8_order_68 : decode cX8_order 68 = .ok (.iload 5, 2) := by decide +kernel
theorem dX8_order_70 : decode cX8_order 70 = .ok (.iload_n 3, 1) := by decide +kernel
theorem dX8_order_71 : decode cX8_order 71 = .ok (.if_icmp .ge 17, 3) := by decide +kernel
theorem dX8_order_74 : decode cX8_order 74 = .ok (.iload 5, 2) := by decide +kernel
theorem dX8_order_76 : decode cX8_order 76 = .ok (.istore_n 3, 1) := by decide +kernel
theorem dX8_order_77 : decode cX8_order 77 = .ok (.aload_n 0, 1) := by decide +kernel
theorem dX8_order_78 : decode cX8_order 78 = .ok (.getfield 66, 3) := by decide +kernel
theorem dX8_order_81 : decode cX8_order 81 = .ok (.aload_n 0, 1) := by decide +kernel
theorem dX8_order_82 : decode cX8_order 82 = .ok (.getfield 70, 3) := by decide +kernel
theorem dX8_order_85 : decode cX8_order 85 = .ok (.invokevirtual 237, 3) := by decide +kernel
theorem dX8_order_88 : decode cX8_order 88 = .ok (.aload_n 0, 1) := by decide +kernel
theorem dX8_order_89 : decode cX8_order 89 = .ok (.getfield 66, 3) := by decide +kernel
theorem dX8_order_92 : decode cX8_order 92 = .ok (.iload 5, 2) := by decide +kernel
theorem dX8_order_94 : decode cX8_order 94 = .ok (.iconst 1, 1) := by decide +kernel
theorem dX8_order_95 : decode cX8_order 95 = .ok (.iadd, 1) := by decide +kernel
theorem dX8_order_96 : decode cX8_order 96 = .ok (.invokevirtual 241, 3) := by decide +kernel
theorem dX8_order_99 : decode cX8_order 99 = .ok (.ifCond .ne 6, 3) := by decide +kernel
theorem dX8_order_102 : decode cX8_order 102 = .ok (.goto 9, 3) := by decide +kernel
theorem dX8_order_105 : decode cX8_order 105 = .ok (.iinc 4 1, 3) := by decide +kernel
theorem dX8_order_108 : decode cX8_order 108 = .ok (.goto (-60), 3) := by decide +kernel
theorem dX8_order_111 : decode cX8_order 111 = .ok (.iload_n 2, 1) := by decide +kernel
theorem dX8_order_112 : decode cX8_order 112 = .ok (.ifCond .ge 7, 3) := by decide +kernel
theorem dX8_order_115 : decode cX8_order 115 = .ok (.iload_n 3, 1) := by decide +kernel
theorem dX8_order_116 : decode cX8_order 116 = .ok (.goto 9, 3) := by decide +kernel
theorem dX8_order_119 : decode cX8_order 119 = .ok (.aload_n 0, 1) := by decide +kernel
theorem dX8_order_120 : decode cX8_order 120 = .ok (.getfield 70, 3) := by decide +kernel
theorem dX8_order_123 : decode cX8_order 123 = .ok (.iload_n 2, 1) := by decide +kernel
theorem dX8_order_124 : decode cX8_order 124 = .ok (.iaload, 1) := by decide +kernel
theorem dX8_order_125 : decode cX8_order 125 = .ok (.ireturn, 1) := by decide +kernel
theorem dX8_away_0 : decode cX8_away 0 = .ok (.iload_n 1, 1) := by decide +kernel
theorem dX8_away_1 : decode cX8_away 1 = .ok (.invokestatic 200, 3) := by decide +kernel
theorem dX8_away_4 : decode cX8_away 4 = .ok (.ifCond .ne 5, 3) := by decide +kernel
theorem dX8_away_7 : decode cX8_away 7 = .ok (.iconst (-1), 1) := by decide +kernel
theorem dX8_away_8 : decode cX8_away 8 = .ok (.ireturn, 1) := by decide +kernel
theorem dX8_away_9 : decode cX8_away 9 = .ok (.bipush (-4), 2) := by decide +kernel
theorem dX8_away_11 : decode cX8_away 11 = .ok (.istore_n 2, 1) := by decide +kernel
theorem dX8_away_12 : decode cX8_away 12 = .ok (.bipush (-4), 2) := by decide +kernel
theorem dX8_away_14 : decode cX8_away 14 = .ok (.istore_n 3, 1) := by decide +kernel
theorem dX8_away_15 : decode cX8_away 15 = .ok (.iconst 0, 1) := by decide +kernel
theorem dX8_away_16 : decode cX8_away 16 = .ok (.istore 4, 2) := by decide +kernel
theorem dX8_away_18 : decode cX8_away 18 = .ok (.iload 4, 2) := by decide +kernel
theorem dX8_away_20 : decode cX8_away 20 = .ok (.aload_n 0, 1) := by decide +kernel
theorem dX8_away_21 : decode cX8_away 21 = .ok (.getfield 29, 3) := by decide +kernel
theorem dX8_away_24 : decode cX8_away 24 = .ok (.getfield 130, 3) := by decide +kernel
theorem dX8_away_27 : decode cX8_away 27 = .ok (.getfield 185, 3) := by decide +kernel
theorem dX8_away_30 : decode cX8_away 30 = .ok (.if_icmp .ge 74, 3) := by decide +kernel
theorem dX8_away_33 : decode cX8_away 33 = .ok (.aload_n 0, 1) := by decide +kernel
theorem dX8_away_34 : decode cX8_away 34 = .ok (.getfield 29, 3) := by decide +kernel
theorem dX8_away_37 : decode cX8_away 37 = .ok (.iload 4, 2) := by decide +kernel
theorem dX8_away_39 : decode cX8_away 39 = .ok (.invokevirtual 145, 3) := by decide +kernel
theorem dX8_away_42 : decode cX8_away 42 = .ok (.ifCond .ne 56, 3) := by decide +kernel
theorem dX8_away_45 : decode cX8_away 45 = .ok (.aload_n 0, 1) := by decide +kernel
theorem dX8_away_46 : decode cX8_away 46 = .ok (.getfield 57, 3) := by decide +kernel
theorem dX8_away_49 : decode cX8_away 49 = .ok (.aload_n 0, 1) := by decide +kernel
theorem dX8_away_50 : decode cX8_away 50 = .ok (.getfield 29, 3) := by decide +kernel
theorem dX8_away_53 : decode cX8_away 53 = .ok (.getfield 130, 3) := by decide +kernel
theorem dX8_away_56 : decode cX8_away 56 = .ok (.aload_n 0, 1) := by decide +kernel
theorem dX8_away_57 : decode cX8_away 57 = .ok (.getfield 29, 3) := by decide +kernel
theorem dX8_away_60 : decode cX8_away 60 = .ok (.getfield 176, 3) := by decide +kernel
theorem dX8_away_63 : decode cX8_away 63 = .ok (.iconst 1, 1) := by decide +kernel
theorem dX8_away_64 : decode cX8_away 64 = .ok (.iload 4, 2) := by decide +kernel
theorem dX8_away_66 : decode cX8_away 66 = .ok (.ishl, 1) := by decide +kernel
theorem dX8_away_67 : decode cX8_away 67 = .ok (.ior, 1) := by decide +kernel
theorem dX8_away_68 : decode cX8_away 68 = .ok (.aload_n 0, 1) := by decide +kernel
theorem dX8_away_69 : decode cX8_away 69 = .ok (.getfield 29, 3) := by decide +kernel
theorem dX8_away_72 : decode cX8_away 72 = .ok (.getfield 148, 3) := by decide +kernel
theorem dX8_away_75 : decode cX8_away 75 = .ok (.bipush 41, 2) := by decide +kernel
theorem dX8_away_77 : decode cX8_away 77 = .ok (.invokevirtual 244, 3) := by decide +kernel
theorem dX8_away_80 : decode cX8_away 80 = .ok (.aload_n 0, 1) := by decide +kernel
theorem dX8_away_81 : decode cX8_away 81 = .ok (.invokevirtual 206, 3) := by decide +kernel
theorem dX8_away_84 : decode cX8_away 84 = .ok (.istore 5, 2) := by decide +kernel
theorem dX8_away_86 : decode cX8_away 86 = .ok (.iload 5, 2) := by decide +kernel
theorem dX8_away_88 : decode cX8_away 88 = .ok (.iload_n 3, 1) := by decide +kernel
theorem dX8_away_89 : decode cX8_away 89 = .ok (.if_icmp .le 9, 3) := by decide +kernel
theorem dX8_away_92 : decode cX8_away 92 = .ok (.iload 5, 2) := by decide +kernel
theorem dX8_away_94 : decode cX8_away 94 = .ok (.istore_n 3, 1) := by decide +kernel
theorem dX8_away_95 : decode cX8_away 95 = .ok (.iload 4, 2) := by decide +kernel
theorem dX8_away_97 : decode cX8_away 97 = .ok (.istore_n 2, 1) := by decide +kernel
theorem dX8_away_98 : decode cX8_away 98 = .ok (.iinc 4 1, 3) := by decide +kernel
theorem dX8_away_101 : decode cX8_away 101 = .ok (.goto (-83), 3) := by decide +kernel
theorem dX8_away_104 : decode cX8_away 104 = .ok (.iload_n 1, 1) := by decide +kernel
theorem dX8_away_105 : decode cX8_away 105 = .ok (.ifCond .ne 7, 3) := by decide +kernel
theorem dX8_away_108 : decode cX8_away 108 = .ok (.iload_n 2, 1) := by decide +kernel
theorem dX8_away_109 : decode cX8_away 109 = .ok (.goto 4, 3) := by decide +kernel
theorem dX8_away_112 : decode cX8_away 112 = .ok (.iload_n 3, 1) := by decide +kernel
theorem dX8_away_113 : decode cX8_away 113 = .ok (.ireturn, 1) := by decide +kernel
theorem dX8_seen_0 : decode cX8_seen 0 = .ok (.aload_n 0, 1) := by decide +kernel
theorem dX8_seen_1 : decode cX8_seen 1 = .ok (.iload_n 1, 1) := by decide +kernel
theorem dX8_seen_2 : decode cX8_seen 2 = .ok (.invokevirtual 108, 3) := by decide +kernel
theorem dX8_seen_5 : decode cX8_seen 5 = .ok (.ifCond .eq 13, 3) := by decide +kernel
theorem dX8_seen_8 : decode cX8_seen 8 = .ok (.iload_n 2, 1) := by decide +kernel
theorem dX8_seen_9 : decode cX8_seen 9 = .ok (.ifCond .lt 9, 3) := by decide +kernel
theorem dX8_seen_12 : decode cX8_seen 12 = .ok (.iload_n 2, 1) := by decide +kernel
theorem dX8_seen_13 : decode cX8_seen 13 = .ok (.bipush 60, 2) := by decide +kernel
theorem dX8_seen_15 : decode cX8_seen 15 = .ok (.if_icmp .le 5, 3) := by decide +kernel
theorem dX8_seen_18 : decode cX8_seen 18 = .ok (.iconst (-1), 1) := by decide +kernel
theorem dX8_seen_19 : decode cX8_seen 19 = .ok (.ireturn, 1) := by decide +kernel
theorem dX8_seen_20 : decode cX8_seen 20 = .ok (.aload_n 0, 1) := by decide +kernel
theorem dX8_seen_21 : decode cX8_seen 21 = .ok (.getfield 48, 3) := by decide +kernel
theorem dX8_seen_24 : decode cX8_seen 24 = .ok (.iload_n 1, 1) := by decide +kernel
theorem dX8_seen_25 : decode cX8_seen 25 = .ok (.iload_n 2, 1) := by decide +kernel
theorem dX8_seen_26 : decode cX8_seen 26 = .ok (.invokevirtual 248, 3) := by decide +kernel
theorem dX8_seen_29 : decode cX8_seen 29 = .ok (.ifCond .eq 13, 3) := by decide +kernel
theorem dX8_seen_32 : decode cX8_seen 32 = .ok (.aload_n 0, 1) := by decide +kernel
theorem dX8_seen_33 : decode cX8_seen 33 = .ok (.getfield 48, 3) := by decide +kernel
theorem dX8_seen_36 : decode cX8_seen 36 = .ok (.getfield 250, 3) := by decide +kernel
theorem dX8_seen_39 : decode cX8_seen 39 = .ok (.goto 5, 3) := by decide +kernel
theorem dX8_seen_42 : decode cX8_seen 42 = .ok (.bipush (-3), 2) := by decide +kernel
theorem dX8_seen_44 : decode cX8_seen 44 = .ok (.ireturn, 1) := by decide +kernel
theorem dX8_forget_0 : decode cX8_forget 0 = .ok (.aload_n 0, 1) := by decide +kernel
theorem dX8_forget_1 : decode cX8_forget 1 = .ok (.getfield 48, 3) := by decide +kernel
theorem dX8_forget_4 : decode cX8_forget 4 = .ok (.getfield 250, 3) := by decide +kernel
theorem dX8_forget_7 : decode cX8_forget 7 = .ok (.istore_n 1, 1) := by decide +kernel
theorem dX8_forget_8 : decode cX8_forget 8 = .ok (.aload_n 0, 1) := by decide +kernel
theorem dX8_forget_9 : decode cX8_forget 9 = .ok (.getfield 48, 3) := by decide +kernel
theorem dX8_forget_12 : decode cX8_forget 12 = .ok (.invokevirtual 107, 3) := by decide +kernel
theorem dX8_forget_15 : decode cX8_forget 15 = .ok (.iload_n 1, 1) := by decide +kernel
theorem dX8_forget_16 : decode cX8_forget 16 = .ok (.ireturn, 1) := by decide +kernel
theorem dX8_tastes_0 : decode cX8_tastes 0 = .ok (.aload_n 0, 1) := by decide +kernel
theorem dX8_tastes_1 : decode cX8_tastes 1 = .ok (.iload_n 1, 1) := by decide +kernel
theorem dX8_tastes_2 : decode cX8_tastes 2 = .ok (.invokevirtual 108, 3) := by decide +kernel
theorem dX8_tastes_5 : decode cX8_tastes 5 = .ok (.ifCond .eq 10, 3) := by decide +kernel
theorem dX8_tastes_8 : decode cX8_tastes 8 = .ok (.iload_n 2, 1) := by decide +kernel
theorem dX8_tastes_9 : decode cX8_tastes 9 = .ok (.invokestatic 200, 3) := by decide +kernel
theorem dX8_tastes_12 : decode cX8_tastes 12 = .ok (.ifCond .ne 5, 3) := by decide +kernel
theorem dX8_tastes_15 : decode cX8_tastes 15 = .ok (.iconst (-1), 1) := by decide +kernel
theorem dX8_tastes_16 : decode cX8_tastes 16 = .ok (.ireturn, 1) := by decide +kernel
theorem dX8_tastes_17 : decode cX8_tastes 17 = .ok (.aload_n 0, 1) := by decide +kernel
theorem dX8_tastes_18 : decode cX8_tastes 18 = .ok (.getfield 57, 3) := by decide +kernel
theorem dX8_tastes_21 : decode cX8_tastes 21 = .ok (.aload_n 0, 1) := by decide +kernel
theorem dX8_tastes_22 : decode cX8_tastes 22 = .ok (.getfield 23, 3) := by decide +kernel
theorem dX8_tastes_25 : decode cX8_tastes 25 = .ok (.getfield 251, 3) := by decide +kernel
theorem dX8_tastes_28 : decode cX8_tastes 28 = .ok (.iconst 0, 1) := by decide +kernel
theorem dX8_tastes_29 : decode cX8_tastes 29 = .ok (.iconst 0, 1) := by decide +kernel
theorem dX8_tastes_30 : decode cX8_tastes 30 = .ok (.bipush 61, 2) := by decide +kernel
theorem dX8_tastes_32 : decode cX8_tastes 32 = .ok (.invokevirtual 244, 3) := by decide +kernel
theorem dX8_tastes_35 : decode cX8_tastes 35 = .ok (.iconst 0, 1) := by decide +kernel
theorem dX8_tastes_36 : decode cX8_tastes 36 = .ok (.istore_n 3, 1) := by decide +kernel
theorem dX8_tastes_37 : decode cX8_tastes 37 = .ok (.bipush (-4), 2) := by decide +kernel
theorem dX8_tastes_39 : decode cX8_tastes 39 = .ok (.istore 4, 2) := by decide +kernel
theorem dX8_tastes_41 : decode cX8_tastes 41 = .ok (.iconst 0, 1) := by decide +kernel
theorem dX8_tastes_42 : decode cX8_tastes 42 = .ok (.istore 5, 2) := by decide +kernel
theorem dX8_tastes_44 : decode cX8_tastes 44 = .ok (.iload 5, 2) := by decide +kernel
theorem dX8_tastes_46 : decode cX8_tastes 46 = .ok (.bipush 31, 2) := by decide +kernel
theorem dX8_tastes_48 : decode cX8_tastes 48 = .ok (.if_icmp .gt 45, 3) := by decide +kernel
theorem dX8_tastes_51 : decode cX8_tastes 51 = .ok (.aload_n 0, 1) := by decide +kernel
theorem dX8_tastes_52 : decode cX8_tastes 52 = .ok (.getfield 57, 3) := by decide +kernel
theorem dX8_tastes_55 : decode cX8_tastes 55 = .ok (.iload_n 1, 1) := by decide +kernel
theorem dX8_tastes_56 : decode cX8_tastes 56 = .ok (.iload 5, 2) := by decide +kernel
theorem dX8_tastes_58 : decode cX8_tastes 58 = .ok (.invokevirtual 252, 3) := by decide +kernel
theorem dX8_tastes_61 : decode cX8_tastes 61 = .ok (.aload_n 0, 1) := by decide +kernel
theorem dX8_tastes_62 : decode cX8_tastes 62 = .ok (.invokevirtual 256, 3) := by decide +kernel
theorem dX8_tastes_65 : decode cX8_tastes 65 = .ok (.ifCond .eq 22, 3) := by decide +kernel
theorem dX8_tastes_68 : decode cX8_tastes 68 = .ok (.iinc 3 1, 3) := by decide +kernel
theorem dX8_tastes_71 : decode cX8_tastes 71 = .ok (.iload 4, 2) := by decide +kernel
theorem dX8_tastes_73 : decode cX8_tastes 73 = .ok (.bipush (-4), 2) := by decide +kernel
theorem dX8_tastes_75 : decode cX8_tastes 75 = .ok (.if_icmp .ne 8, 3) := by decide +kernel
theorem dX8_tastes_78 : decode cX8_tastes 78 = .ok (.iload 5, 2) := by decide +kernel
theorem dX8_tastes_80 : decode cX8_tastes 80 = .ok (.goto 5, 3) := by decide +kernel
theorem dX8_tastes_83 : decode cX8_tastes 83 = .ok (.iload 4, 2) := by decide +kernel
theorem dX8_tastes_85 : decode cX8_tastes 85 = .ok (.istore 4, 2) := by decide +kernel
theorem dX8_tastes_87 : decode cX8_tastes 87 = .ok (.iinc 5 1, 3) := by decide +kernel
theorem dX8_tastes_90 : decode cX8_tastes 90 = .ok (.goto (-46), 3) := by decide +kernel
theorem dX8_tastes_93 : decode cX8_tastes 93 = .ok (.iload_n 2, 1) := by decide +kernel
theorem dX8_tastes_94 : decode cX8_tastes 94 = .ok (.ifCond .ne 7, 3) := by decide +kernel
theorem dX8_tastes_97 : decode cX8_tastes 97 = .ok (.iload_n 3, 1) := by decide +kernel
theorem dX8_tastes_98 : decode cX8_tastes 98 = .ok (.goto 5, 3) := by decide +kernel
theorem dX8_tastes_101 : decode cX8_tastes 101 = .ok (.iload 4, 2) := by decide +kernel
theorem dX8_tastes_103 : decode cX8_tastes 103 = .ok (.ireturn, 1) := by decide +kernel
theorem dX8_lasts_0 : decode cX8_lasts 0 = .ok (.iload_n 1, 1) := by decide +kernel
theorem dX8_lasts_1 : decode cX8_lasts 1 = .ok (.ifCond .lt 43, 3) := by decide +kernel
theorem dX8_lasts_4 : decode cX8_lasts 4 = .ok (.iload_n 1, 1) := by decide +kernel
theorem dX8_lasts_5 : decode cX8_lasts 5 = .ok (.bipush 6, 2) := by decide +kernel
theorem dX8_lasts_7 : decode cX8_lasts 7 = .ok (.if_icmp .gt 37, 3) := by decide +kernel
theorem dX8_lasts_10 : decode cX8_lasts 10 = .ok (.iload_n 2, 1) := by decide +kernel
theorem dX8_lasts_11 : decode cX8_lasts 11 = .ok (.invokestatic 179, 3) := by decide +kernel
theorem dX8_lasts_14 : decode cX8_lasts 14 = .ok (.ifCond .eq 30, 3) := by decide +kernel
theorem dX8_lasts_17 : decode cX8_lasts 17 = .ok (.iload_n 3, 1) := by decide +kernel
theorem dX8_lasts_18 : decode cX8_lasts 18 = .ok (.invokestatic 182, 3) := by decide +kernel
theorem dX8_lasts_21 : decode cX8_lasts 21 = .ok (.ifCond .eq 23, 3) := by decide +kernel
theorem dX8_lasts_24 : decode cX8_lasts 24 = .ok (.iload 4, 2) := by decide +kernel
theorem dX8_lasts_26 : decode cX8_lasts 26 = .ok (.ifCond .lt 18, 3) := by decide +kernel
theorem dX8_lasts_29 : decode cX8_lasts 29 = .ok (.iload 4, 2) := by decide +kernel
theorem dX8_lasts_31 : decode cX8_lasts 31 = .ok (.bipush 10, 2) := by decide +kernel
theorem dX8_lasts_33 : decode cX8_lasts 33 = .ok (.if_icmp .gt 11, 3) := by decide +kernel
theorem dX8_lasts_36 : decode cX8_lasts 36 = .ok (.iload 5, 2) := by decide +kernel
theorem dX8_lasts_38 : decode cX8_lasts 38 = .ok (.invokestatic 200, 3) := by decide +kernel
theorem dX8_lasts_41 : decode cX8_lasts 41 = .ok (.ifCond .ne 5, 3) := by decide +kernel
theorem dX8_lasts_44 : decode cX8_lasts 44 = .ok (.iconst (-1), 1) := by decide +kernel
theorem dX8_lasts_45 : decode cX8_lasts 45 = .ok (.ireturn, 1) := by decide +kernel
theorem dX8_lasts_46 : decode cX8_lasts 46 = .ok (.aload_n 0, 1) := by decide +kernel
theorem dX8_lasts_47 : decode cX8_lasts 47 = .ok (.iload_n 1, 1) := by decide +kernel
theorem dX8_lasts_48 : decode cX8_lasts 48 = .ok (.invokevirtual 154, 3) := by decide +kernel
theorem dX8_lasts_51 : decode cX8_lasts 51 = .ok (.iconst 0, 1) := by decide +kernel
theorem dX8_lasts_52 : decode cX8_lasts 52 = .ok (.istore 6, 2) := by decide +kernel
theorem dX8_lasts_54 : decode cX8_lasts 54 = .ok (.iconst 0, 1) := by decide +kernel
theorem dX8_lasts_55 : decode cX8_lasts 55 = .ok (.istore 7, 2) := by decide +kernel
theorem dX8_lasts_57 : decode cX8_lasts 57 = .ok (.iload 7, 2) := by decide +kernel
theorem dX8_lasts_59 : decode cX8_lasts 59 = .ok (.iconst 1, 1) := by decide +kernel
theorem dX8_lasts_60 : decode cX8_lasts 60 = .ok (.iload_n 1, 1) := by decide +kernel
theorem dX8_lasts_61 : decode cX8_lasts 61 = .ok (.ishl, 1) := by decide +kernel
theorem dX8_lasts_62 : decode cX8_lasts 62 = .ok (.if_icmp .ge 53, 3) := by decide +kernel
theorem dX8_lasts_65 : decode cX8_lasts 65 = .ok (.aload_n 0, 1) := by decide +kernel
theorem dX8_lasts_66 : decode cX8_lasts 66 = .ok (.iload_n 2, 1) := by decide +kernel
theorem dX8_lasts_67 : decode cX8_lasts 67 = .ok (.iload_n 3, 1) := by decide +kernel
theorem dX8_lasts_68 : decode cX8_lasts 68 = .ok (.iload 7, 2) := by decide +kernel
theorem dX8_lasts_70 : decode cX8_lasts 70 = .ok (.iload_n 1, 1) := by decide +kernel
theorem dX8_lasts_71 : decode cX8_lasts 71 = .ok (.invokevirtual 260, 3) := by decide +kernel
theorem dX8_lasts_74 : decode cX8_lasts 74 = .ok (.ifCond .eq 35, 3) := by decide +kernel
theorem dX8_lasts_77 : decode cX8_lasts 77 = .ok (.iload 7, 2) := by decide +kernel
theorem dX8_lasts_79 : decode cX8_lasts 79 = .ok (.invokestatic 212, 3) := by decide +kernel
theorem dX8_lasts_82 : decode cX8_lasts 82 = .ok (.istore 8, 2) := by decide +kernel
theorem dX8_lasts_84 : decode cX8_lasts 84 = .ok (.iload 6, 2) := by decide +kernel
theorem dX8_lasts_86 : decode cX8_lasts 86 = .ok (.iload 4, 2) := by decide +kernel
theorem dX8_lasts_88 : decode cX8_lasts 88 = .ok (.iload 8, 2) := by decide +kernel
theorem dX8_lasts_90 : decode cX8_lasts 90 = .ok (.invokestatic 264, 3) := by decide +kernel
theorem dX8_lasts_93 : decode cX8_lasts 93 = .ok (.bipush 10, 2) := by decide +kernel
theorem dX8_lasts_95 : decode cX8_lasts 95 = .ok (.iload 4, 2) := by decide +kernel
theorem dX8_lasts_97 : decode cX8_lasts 97 = .ok (.isub, 1) := by decide +kernel
theorem dX8_lasts_98 : decode cX8_lasts 98 = .ok (.iload_n 1, 1) := by decide +kernel
theorem dX8_lasts_99 : decode cX8_lasts 99 = .ok (.iload 8, 2) := by decide +kernel
theorem dX8_lasts_101 : decode cX8_lasts 101 = .ok (.isub, 1) := by decide +kernel
theorem dX8_lasts_102 : decode cX8_lasts 102 = .ok (.invokestatic 264, 3) := by decide +kernel
theorem dX8_lasts_105 : decode cX8_lasts 105 = .ok (.imul, 1) := by decide +kernel
theorem dX8_lasts_106 : decode cX8_lasts 106 = .ok (.iadd, 1) := by decide +kernel
theorem dX8_lasts_107 : decode cX8_lasts 107 = .ok (.istore 6, 2) := by decide +kernel
theorem dX8_lasts_109 : decode cX8_lasts 109 = .ok (.iinc 7 1, 3) := by decide +kernel
theorem dX8_lasts_112 : decode cX8_lasts 112 = .ok (.goto (-55), 3) := by decide +kernel
theorem dX8_lasts_115 : decode cX8_lasts 115 = .ok (.bipush 10, 2) := by decide +kernel
theorem dX8_lasts_117 : decode cX8_lasts 117 = .ok (.iload_n 1, 1) := by decide +kernel
theorem dX8_lasts_118 : decode cX8_lasts 118 = .ok (.invokestatic 264, 3) := by decide +kernel
theorem dX8_lasts_121 : decode cX8_lasts 121 = .ok (.istore 7, 2) := by decide +kernel
theorem dX8_lasts_123 : decode cX8_lasts 123 = .ok (.iconst 1, 1) := by decide +kernel
theorem dX8_lasts_124 : decode cX8_lasts 124 = .ok (.iload 7, 2) := by decide +kernel
theorem dX8_lasts_126 : decode cX8_lasts 126 = .ok (.iload 6, 2) := by decide +kernel
theorem dX8_lasts_128 : decode cX8_lasts 128 = .ok (.invokestatic 267, 3) := by decide +kernel
theorem dX8_lasts_131 : decode cX8_lasts 131 = .ok (.invokestatic 270, 3) := by decide +kernel
theorem dX8_lasts_134 : decode cX8_lasts 134 = .ok (.istore 8, 2) := by decide +kernel
theorem dX8_lasts_136 : decode cX8_lasts 136 = .ok (.iload 5, 2) := by decide +kernel
theorem dX8_lasts_138 : decode cX8_lasts 138 = .ok (.ifCond .ne 11, 3) := by decide +kernel
theorem dX8_lasts_141 : decode cX8_lasts 141 = .ok (.iload 6, 2) := by decide +kernel
theorem dX8_lasts_143 : decode cX8_lasts 143 = .ok (.iload 8, 2) := by decide +kernel
theorem dX8_lasts_145 : decode cX8_lasts 145 = .ok (.idiv, 1) := by decide +kernel
theorem dX8_lasts_146 : decode cX8_lasts 146 = .ok (.goto 8, 3) := by decide +kernel
theorem dX8_lasts_149 : decode cX8_lasts 149 = .ok (.iload 7, 2) := by decide +kernel
theorem dX8_lasts_151 : decode cX8_lasts 151 = .ok (.iload 8, 2) := by decide +kernel
theorem dX8_lasts_153 : decode cX8_lasts 153 = .ok (.idiv, 1) := by decide +kernel
theorem dX8_lasts_154 : decode cX8_lasts 154 = .ok (.ireturn, 1) := by decide +kernel
theorem dX8_content_0 : decode cX8_content 0 = .ok (.iload_n 1, 1) := by decide +kernel
theorem dX8_content_1 : decode cX8_content 1 = .ok (.invokestatic 197, 3) := by decide +kernel
theorem dX8_content_4 : decode cX8_content 4 = .ok (.ifCond .ne 5, 3) := by decide +kernel
theorem dX8_content_7 : decode cX8_content 7 = .ok (.iconst (-1), 1) := by decide +kernel
theorem dX8_content_8 : decode cX8_content 8 = .ok (.ireturn, 1) := by decide +kernel
theorem dX8_content_9 : decode cX8_content 9 = .ok (.aload_n 0, 1) := by decide +kernel
theorem dX8_content_10 : decode cX8_content 10 = .ok (.iload_n 1, 1) := by decide +kernel
theorem dX8_content_11 : decode cX8_content 11 = .ok (.iconst 1, 1) := by decide +kernel
theorem dX8_content_12 : decode cX8_content 12 = .ok (.iadd, 1) := by decide +kernel
theorem dX8_content_13 : decode cX8_content 13 = .ok (.invokevirtual 154, 3) := by decide +kernel
theorem dX8_content_16 : decode cX8_content 16 = .ok (.iconst 0, 1) := by decide +kernel
theorem dX8_content_17 : decode cX8_content 17 = .ok (.istore_n 2, 1) := by decide +kernel
theorem dX8_content_18 : decode cX8_content 18 = .ok (.iconst 0, 1) := by decide +kernel
theorem dX8_content_19 : decode cX8_content 19 = .ok (.istore_n 3, 1) := by decide +kernel
theorem dX8_content_20 : decode cX8_content 20 = .ok (.iload_n 3, 1) := by decide +kernel
theorem dX8_content_21 : decode cX8_content 21 = .ok (.aload_n 0, 1) := by decide +kernel
theorem dX8_content_22 : decode cX8_content 22 = .ok (.getfield 23, 3) := by decide +kernel
theorem dX8_content_25 : decode cX8_content 25 = .ok (.getfield 103, 3) := by decide +kernel
theorem dX8_content_28 : decode cX8_content 28 = .ok (.if_icmp .ge 35, 3) := by decide +kernel
theorem dX8_content_31 : decode cX8_content 31 = .ok (.aload_n 0, 1) := by decide +kernel
theorem dX8_content_32 : decode cX8_content 32 = .ok (.getfield 57, 3) := by decide +kernel
theorem dX8_content_35 : decode cX8_content 35 = .ok (.iload_n 1, 1) := by decide +kernel
theorem dX8_content_36 : decode cX8_content 36 = .ok (.iload_n 3, 1) := by decide +kernel
theorem dX8_content_37 : decode cX8_content 37 = .ok (.invokevirtual 275, 3) := by decide +kernel
theorem dX8_content_40 : decode cX8_content 40 = .ok (.aload_n 0, 1) := by decide +kernel
theorem dX8_content_41 : decode cX8_content 41 = .ok (.getfield 23, 3) := by decide +kernel
theorem dX8_content_44 : decode cX8_content 44 = .ok (.iload_n 3, 1) := by decide +kernel
theorem dX8_content_45 : decode cX8_content 45 = .ok (.invokevirtual 278, 3) := by decide +kernel
theorem dX8_content_48 : decode cX8_content 48 = .ok (.if_icmp .lt 9, 3) := by decide +kernel
theorem dX8_content_51 : decode cX8_content 51 = .ok (.iload_n 2, 1) := by decide +kernel
theorem dX8_content_52 : decode cX8_content 52 = .ok (.iconst 1, 1) := by decide +kernel
theorem dX8_content_53 : decode cX8_content 53 = .ok (.iload_n 3, 1) := by decide +kernel
theorem dX8_content_54 : decode cX8_content 54 = .ok (.ishl, 1) := by decide +kernel
theorem dX8_content_55 : decode cX8_content 55 = .ok (.ior, 1) := by decide +kernel
theorem dX8_content_56 : decode cX8_content 56 = .ok (.istore_n 2, 1) := by decide +kernel
theorem dX8_content_57 : decode cX8_content 57 = .ok (.iinc 3 1, 3) := by decide +kernel
theorem dX8_content_60 : decode cX8_content 60 = .ok (.goto (-40), 3) := by decide +kernel
theorem dX8_content_63 : decode cX8_content 63 = .ok (.iload_n 2, 1) := by decide +kernel
theorem dX8_content_64 : decode cX8_content 64 = .ok (.ireturn, 1) := by decide +kernel
theorem dX8_dull_0 : decode cX8_dull 0 = .ok (.iload_n 1, 1) := by decide +kernel
theorem dX8_dull_1 : decode cX8_dull 1 = .ok (.invokestatic 200, 3) := by decide +kernel
theorem dX8_dull_4 : decode cX8_dull 4 = .ok (.ifCond .ne 5, 3) := by decide +kernel
theorem dX8_dull_7 : decode cX8_dull 7 = .ok (.iconst (-1), 1) := by decide +kernel
theorem dX8_dull_8 : decode cX8_dull 8 = .ok (.ireturn, 1) := by decide +kernel
theorem dX8_dull_9 : decode cX8_dull 9 = .ok (.aload_n 0, 1) := by decide +kernel
theorem dX8_dull_10 : decode cX8_dull 10 = .ok (.bipush 40, 2) := by decide +kernel
theorem dX8_dull_12 : decode cX8_dull 12 = .ok (.invokevirtual 154, 3) := by decide +kernel
theorem dX8_dull_15 : decode cX8_dull 15 = .ok (.aload_n 0, 1) := by decide +kernel
theorem dX8_dull_16 : decode cX8_dull 16 = .ok (.getfield 66, 3) := by decide +kernel
theorem dX8_dull_19 : decode cX8_dull 19 = .ok (.aload_n 0, 1) := by decide +kernel
theorem dX8_dull_20 : decode cX8_dull 20 = .ok (.getfield 29, 3) := by decide +kernel
theorem dX8_dull_23 : decode cX8_dull 23 = .ok (.invokevirtual 157, 3) := by decide +kernel
theorem dX8_dull_26 : decode cX8_dull 26 = .ok (.iconst 0, 1) := by decide +kernel
theorem dX8_dull_27 : decode cX8_dull 27 = .ok (.istore_n 2, 1) := by decide +kernel
theorem dX8_dull_28 : decode cX8_dull 28 = .ok (.bipush (-4), 2) := by decide +kernel
theorem dX8_dull_30 : decode cX8_dull 30 = .ok (.istore_n 3, 1) := by decide +kernel
theorem dX8_dull_31 : decode cX8_dull 31 = .ok (.iconst 0, 1) := by decide +kernel
theorem dX8_dull_32 : decode cX8_dull 32 = .ok (.istore 4, 2) := by decide +kernel
theorem dX8_dull_34 : decode cX8_dull 34 = .ok (.iconst 0, 1) := by decide +kernel
theorem dX8_dull_35 : decode cX8_dull 35 = .ok (.istore 5, 2) := by decide +kernel
theorem dX8_dull_37 : decode cX8_dull 37 = .ok (.iload 5, 2) := by decide +kernel
theorem dX8_dull_39 : decode cX8_dull 39 = .ok (.bipush 40, 2) := by decide +kernel
theorem dX8_dull_41 : decode cX8_dull 41 = .ok (.if_icmp .ge 48, 3) := by decide +kernel
theorem dX8_dull_44 : decode cX8_dull 44 = .ok (.aload_n 0, 1) := by decide +kernel
theorem dX8_dull_45 : decode cX8_dull 45 = .ok (.getfield 66, 3) := by decide +kernel
theorem dX8_dull_48 : decode cX8_dull 48 = .ok (.iload 5, 2) := by decide +kernel
theorem dX8_dull_50 : decode cX8_dull 50 = .ok (.invokevirtual 166, 3) := by decide +kernel
theorem dX8_dull_53 : decode cX8_dull 53 = .ok (.ifCond .eq 7, 3) := by decide +kernel
theorem dX8_dull_56 : decode cX8_dull 56 = .ok (.iconst 0, 1) := by decide +kernel
theorem dX8_dull_57 : decode cX8_dull 57 = .ok (.goto 7, 3) := by decide +kernel
theorem dX8_dull_60 : decode cX8_dull 60 = .ok (.iload 4, 2) := by decide +kernel
theorem dX8_dull_62 : decode cX8_dull 62 = .ok (.iconst 1, 1) := by decide +kernel
theorem dX8_dull_63 : decode cX8_dull 63 = .ok (.iadd, 1) := by decide +kernel
theorem dX8_dull_64 : decode cX8_dull 64 = .ok (.istore 4, 2) := by decide +kernel
theorem dX8_dull_66 : decode cX8_dull 66 = .ok (.iload 4, 2) := by decide +kernel
theorem dX8_dull_68 : decode cX8_dull 68 = .ok (.iload_n 2, 1) := by decide +kernel
theorem dX8_dull_69 : decode cX8_dull 69 = .ok (.if_icmp .le 14, 3) := by decide +kernel
theorem dX8_dull_72 : decode cX8_dull 72 = .ok (.iload 4, 2) := by decide +kernel
theorem dX8_dull_74 : decode cX8_dull 74 = .ok (.istore_n 2, 1) := by decide +kernel
theorem dX8_dull_75 : decode cX8_dull 75 = .ok (.iload 5, 2) := by decide +kernel
theorem dX8_dull_77 : decode cX8_dull 77 = .ok (.iload 4, 2) := by decide +kernel
theorem dX8_dull_79 : decode cX8_dull 79 = .ok (.isub, 1) := by decide +kernel
theorem dX8_dull_80 : decode cX8_dull 80 = .ok (.iconst 1, 1) := by decide +kernel
theorem dX8_dull_81 : decode cX8_dull 81 = .ok (.iadd, 1) := by decide +kernel
theorem dX8_dull_82 : decode cX8_dull 82 = .ok (.istore_n 3, 1) := by decide +kernel
theorem dX8_dull_83 : decode cX8_dull 83 = .ok (.iinc 5 1, 3) := by decide +kernel
theorem dX8_dull_86 : decode cX8_dull 86 = .ok (.goto (-49), 3) := by decide +kernel
theorem dX8_dull_89 : decode cX8_dull 89 = .ok (.iload_n 1, 1) := by decide +kernel
theorem dX8_dull_90 : decode cX8_dull 90 = .ok (.ifCond .ne 7, 3) := by decide +kernel
theorem dX8_dull_93 : decode cX8_dull 93 = .ok (.iload_n 2, 1) := by decide +kernel
theorem dX8_dull_94 : decode cX8_dull 94 = .ok (.goto 4, 3) := by decide +kernel
theorem dX8_dull_97 : decode cX8_dull 97 = .ok (.iload_n 3, 1) := by decide +kernel
theorem dX8_dull_98 : decode cX8_dull 98 = .ok (.ireturn, 1) := by decide +kernel
theorem dX8_year_0 : decode cX8_year 0 = .ok (.iload_n 1, 1) := by decide +kernel
theorem dX8_year_1 : decode cX8_year 1 = .ok (.ifCond .lt 28, 3) := by decide +kernel
theorem dX8_year_4 : decode cX8_year 4 = .ok (.iload_n 1, 1) := by decide +kernel
theorem dX8_year_5 : decode cX8_year 5 = .ok (.sipush 9999, 3) := by decide +kernel
theorem dX8_year_8 : decode cX8_year 8 = .ok (.if_icmp .gt 21, 3) := by decide +kernel
theorem dX8_year_11 : decode cX8_year 11 = .ok (.iload_n 2, 1) := by decide +kernel
theorem dX8_year_12 : decode cX8_year 12 = .ok (.iconst 1, 1) := by decide +kernel
theorem dX8_year_13 : decode cX8_year 13 = .ok (.if_icmp .lt 16, 3) := by decide +kernel
theorem dX8_year_16 : decode cX8_year 16 = .ok (.iload_n 2, 1) := by decide +kernel
theorem dX8_year_17 : decode cX8_year 17 = .ok (.bipush 60, 2) := by decide +kernel
theorem dX8_year_19 : decode cX8_year 19 = .ok (.if_icmp .gt 10, 3) := by decide +kernel
theorem dX8_year_22 : decode cX8_year 22 = .ok (.iload_n 3, 1) := by decide +kernel
theorem dX8_year_23 : decode cX8_year 23 = .ok (.invokestatic 200, 3) := by decide +kernel
theorem dX8_year_26 : decode cX8_year 26 = .ok (.ifCond .ne 5, 3) := by decide +kernel
theorem dX8_year_29 : decode cX8_year 29 = .ok (.iconst (-1), 1) := by decide +kernel
theorem dX8_year_30 : decode cX8_year 30 = .ok (.ireturn, 1) := by decide +kernel
theorem dX8_year_31 : decode cX8_year 31 = .ok (.aload_n 0, 1) := by decide +kernel
theorem dX8_year_32 : decode cX8_year 32 = .ok (.iload_n 2, 1) := by decide +kernel
theorem dX8_year_33 : decode cX8_year 33 = .ok (.invokevirtual 154, 3) := by decide +kernel
theorem dX8_year_36 : decode cX8_year 36 = .ok (.aload_n 0, 1) := by decide +kernel
theorem dX8_year_37 : decode cX8_year 37 = .ok (.getfield 66, 3) := by decide +kernel
theorem dX8_year_40 : decode cX8_year 40 = .ok (.aload_n 0, 1) := by decide +kernel
theorem dX8_year_41 : decode cX8_year 41 = .ok (.getfield 29, 3) := by decide +kernel
theorem dX8_year_44 : decode cX8_year 44 = .ok (.invokevirtual 157, 3) := by decide +kernel
theorem dX8_year_47 : decode cX8_year 47 = .ok (.iconst 0, 1) := by decide +kernel
theorem dX8_year_48 : decode cX8_year 48 = .ok (.istore 4, 2) := by decide +kernel
theorem dX8_year_50 : decode cX8_year 50 = .ok (.iconst 0, 1) := by decide +kernel
theorem dX8_year_51 : decode cX8_year 51 = .ok (.istore 5, 2) := by decide +kernel
theorem dX8_year_53 : decode cX8_year 53 = .ok (.iload 5, 2) := by decide +kernel
theorem dX8_year_55 : decode cX8_year 55 = .ok (.iload_n 2, 1) := by decide +kernel
theorem dX8_year_56 : decode cX8_year 56 = .ok (.if_icmp .ge 66, 3) := by decide +kernel
theorem dX8_year_59 : decode cX8_year 59 = .ok (.iload_n 1, 1) := by decide +kernel
theorem dX8_year_60 : decode cX8_year 60 = .ok (.iload 5, 2) := by decide +kernel
theorem dX8_year_62 : decode cX8_year 62 = .ok (.invokestatic 281, 3) := by decide +kernel
theorem dX8_year_65 : decode cX8_year 65 = .ok (.istore 6, 2) := by decide +kernel
theorem dX8_year_67 : decode cX8_year 67 = .ok (.iload 6, 2) := by decide +kernel
theorem dX8_year_69 : decode cX8_year 69 = .ok (.iconst 3, 1) := by decide +kernel
theorem dX8_year_70 : decode cX8_year 70 = .ok (.irem, 1) := by decide +kernel
theorem dX8_year_71 : decode cX8_year 71 = .ok (.ifCond .ne 30, 3) := by decide +kernel
theorem dX8_year_74 : decode cX8_year 74 = .ok (.aload_n 0, 1) := by decide +kernel
theorem dX8_year_75 : decode cX8_year 75 = .ok (.getfield 57, 3) := by decide +kernel
theorem dX8_year_78 : decode cX8_year 78 = .ok (.iload 5, 2) := by decide +kernel
theorem dX8_year_80 : decode cX8_year 80 = .ok (.iconst 1, 1) := by decide +kernel
theorem dX8_year_81 : decode cX8_year 81 = .ok (.iload 6, 2) := by decide +kernel
theorem dX8_year_83 : decode cX8_year 83 = .ok (.iconst 4, 1) := by decide +kernel
theorem dX8_year_84 : decode cX8_year 84 = .ok (.idiv, 1) := by decide +kernel
theorem dX8_year_85 : decode cX8_year 85 = .ok (.iconst 5, 1) := by decide +kernel
theorem dX8_year_86 : decode cX8_year 86 = .ok (.irem, 1) := by decide +kernel
theorem dX8_year_87 : decode cX8_year 87 = .ok (.ishl, 1) := by decide +kernel
theorem dX8_year_88 : decode cX8_year 88 = .ok (.iload 6, 2) := by decide +kernel
theorem dX8_year_90 : decode cX8_year 90 = .ok (.bipush 32, 2) := by decide +kernel
theorem dX8_year_92 : decode cX8_year 92 = .ok (.idiv, 1) := by decide +kernel
theorem dX8_year_93 : decode cX8_year 93 = .ok (.bipush 9, 2) := by decide +kernel
theorem dX8_year_95 : decode cX8_year 95 = .ok (.irem, 1) := by decide +kernel
theorem dX8_year_96 : decode cX8_year 96 = .ok (.iconst 1, 1) := by decide +kernel
theorem dX8_year_97 : decode cX8_year 97 = .ok (.iadd, 1) := by decide +kernel
theorem dX8_year_98 : decode cX8_year 98 = .ok (.invokevirtual 224, 3) := by decide +kernel
theorem dX8_year_101 : decode cX8_year 101 = .ok (.aload_n 0, 1) := by decide +kernel
theorem dX8_year_102 : decode cX8_year 102 = .ok (.getfield 66, 3) := by decide +kernel
theorem dX8_year_105 : decode cX8_year 105 = .ok (.iload 5, 2) := by decide +kernel
theorem dX8_year_107 : decode cX8_year 107 = .ok (.invokevirtual 166, 3) := by decide +kernel
theorem dX8_year_110 : decode cX8_year 110 = .ok (.ifCond .eq 6, 3) := by decide +kernel
theorem dX8_year_113 : decode cX8_year 113 = .ok (.iinc 4 1, 3) := by decide +kernel
theorem dX8_year_116 : decode cX8_year 116 = .ok (.iinc 5 1, 3) := by decide +kernel
theorem dX8_year_119 : decode cX8_year 119 = .ok (.goto (-66), 3) := by decide +kernel
theorem dX8_year_122 : decode cX8_year 122 = .ok (.iload_n 3, 1) := by decide +kernel
theorem dX8_year_123 : decode cX8_year 123 = .ok (.ifCond .ne 8, 3) := by decide +kernel
theorem dX8_year_126 : decode cX8_year 126 = .ok (.iload 4, 2) := by decide +kernel
theorem dX8_year_128 : decode cX8_year 128 = .ok (.goto 10, 3) := by decide +kernel
theorem dX8_year_131 : decode cX8_year 131 = .ok (.aload_n 0, 1) := by decide +kernel
theorem dX8_year_132 : decode cX8_year 132 = .ok (.getfield 66, 3) := by decide +kernel
theorem dX8_year_135 : decode cX8_year 135 = .ok (.invokevirtual 160, 3) := by decide +kernel
theorem dX8_year_138 : decode cX8_year 138 = .ok (.ireturn, 1) := by decide +kernel
theorem dX8_keep_0 : decode cX8_keep 0 = .ok (.aload_n 0, 1) := by decide +kernel
theorem dX8_keep_1 : decode cX8_keep 1 = .ok (.getfield 42, 3) := by decide +kernel
theorem dX8_keep_4 : decode cX8_keep 4 = .ok (.getfield 196, 3) := by decide +kernel
theorem dX8_keep_7 : decode cX8_keep 7 = .ok (.iconst 2, 1) := by decide +kernel
theorem dX8_keep_8 : decode cX8_keep 8 = .ok (.if_icmp .lt 6, 3) := by decide +kernel
theorem dX8_keep_11 : decode cX8_keep 11 = .ok (.bipush (-3), 2) := by decide +kernel
theorem dX8_keep_13 : decode cX8_keep 13 = .ok (.ireturn, 1) := by decide +kernel
theorem dX8_keep_14 : decode cX8_keep 14 = .ok (.aload_n 0, 1) := by decide +kernel
theorem dX8_keep_15 : decode cX8_keep 15 = .ok (.getfield 42, 3) := by decide +kernel
theorem dX8_keep_18 : decode cX8_keep 18 = .ok (.aload_n 0, 1) := by decide +kernel
theorem dX8_keep_19 : decode cX8_keep 19 = .ok (.getfield 29, 3) := by decide +kernel
theorem dX8_keep_22 : decode cX8_keep 22 = .ok (.invokevirtual 150, 3) := by decide +kernel
theorem dX8_keep_25 : decode cX8_keep 25 = .ok (.aload_n 0, 1) := by decide +kernel
theorem dX8_keep_26 : decode cX8_keep 26 = .ok (.getfield 42, 3) := by decide +kernel
theorem dX8_keep_29 : decode cX8_keep 29 = .ok (.getfield 196, 3) := by decide +kernel
theorem dX8_keep_32 : decode cX8_keep 32 = .ok (.ireturn, 1) := by decide +kernel
theorem dX8_back_0 : decode cX8_back 0 = .ok (.aload_n 0, 1) := by decide +kernel
theorem dX8_back_1 : decode cX8_back 1 = .ok (.getfield 42, 3) := by decide +kernel
theorem dX8_back_4 : decode cX8_back 4 = .ok (.aload_n 0, 1) := by decide +kernel
theorem dX8_back_5 : decode cX8_back 5 = .ok (.getfield 29, 3) := by decide +kernel
theorem dX8_back_8 : decode cX8_back 8 = .ok (.invokevirtual 192, 3) := by decide +kernel
theorem dX8_back_11 : decode cX8_back 11 = .ok (.ifCond .ne 6, 3) := by decide +kernel
theorem dX8_back_14 : decode cX8_back 14 = .ok (.bipush (-2), 2) := by decide +kernel
theorem dX8_back_16 : decode cX8_back 16 = .ok (.ireturn, 1) := by decide +kernel
theorem dX8_back_17 : decode cX8_back 17 = .ok (.aload_n 0, 1) := by decide +kernel
theorem dX8_back_18 : decode cX8_back 18 = .ok (.getfield 38, 3) := by decide +kernel
theorem dX8_back_21 : decode cX8_back 21 = .ok (.invokevirtual 106, 3) := by decide +kernel
theorem dX8_back_24 : decode cX8_back 24 = .ok (.aload_n 0, 1) := by decide +kernel
theorem dX8_back_25 : decode cX8_back 25 = .ok (.getfield 42, 3) := by decide +kernel
theorem dX8_back_28 : decode cX8_back 28 = .ok (.getfield 196, 3) := by decide +kernel
theorem dX8_back_31 : decode cX8_back 31 = .ok (.ireturn, 1) := by decide +kernel
theorem dX8_count_0 : decode cX8_count 0 = .ok (.iload_n 1, 1) := by decide +kernel
theorem dX8_count_1 : decode cX8_count 1 = .ok (.tableswitch 129 0 8 #[51, 59, 70, 78, 89, 97, 105, 113, 121], 51) := by decide +kernel
theorem dX8_count_52 : decode cX8_count 52 = .ok (.aload_n 0, 1) := by decide +kernel
theorem dX8_count_53 : decode cX8_count 53 = .ok (.getfield 23, 3) := by decide +kernel
theorem dX8_count_56 : decode cX8_count 56 = .ok (.getfield 103, 3) := by decide +kernel
theorem dX8_count_59 : decode cX8_count 59 = .ok (.ireturn, 1) := by decide +kernel
theorem dX8_count_60 : decode cX8_count 60 = .ok (.aload_n 0, 1) := by decide +kernel
theorem dX8_count_61 : decode cX8_count 61 = .ok (.getfield 29, 3) := by decide +kernel
theorem dX8_count_64 : decode cX8_count 64 = .ok (.getfield 130, 3) := by decide +kernel
theorem dX8_count_67 : decode cX8_count 67 = .ok (.getfield 185, 3) := by decide +kernel
theorem dX8_count_70 : decode cX8_count 70 = .ok (.ireturn, 1) := by decide +kernel
theorem dX8_count_71 : decode cX8_count 71 = .ok (.aload_n 0, 1) := by decide +kernel
theorem dX8_count_72 : decode cX8_count 72 = .ok (.getfield 29, 3) := by decide +kernel
theorem dX8_count_75 : decode cX8_count 75 = .ok (.getfield 148, 3) := by decide +kernel
theorem dX8_count_78 : decode cX8_count 78 = .ok (.ireturn, 1) := by decide +kernel
theorem dX8_count_79 : decode cX8_count 79 = .ok (.aload_n 0, 1) := by decide +kernel
theorem dX8_count_80 : decode cX8_count 80 = .ok (.getfield 29, 3) := by decide +kernel
theorem dX8_count_83 : decode cX8_count 83 = .ok (.getfield 176, 3) := by decide +kernel
theorem dX8_count_86 : decode cX8_count 86 = .ok (.invokestatic 212, 3) := by decide +kernel
theorem dX8_count_89 : decode cX8_count 89 = .ok (.ireturn, 1) := by decide +kernel
theorem dX8_count_90 : decode cX8_count 90 = .ok (.aload_n 0, 1) := by decide +kernel
theorem dX8_count_91 : decode cX8_count 91 = .ok (.getfield 48, 3) := by decide +kernel
theorem dX8_count_94 : decode cX8_count 94 = .ok (.getfield 250, 3) := by decide +kernel
theorem dX8_count_97 : decode cX8_count 97 = .ok (.ireturn, 1) := by decide +kernel
theorem dX8_count_98 : decode cX8_count 98 = .ok (.aload_n 0, 1) := by decide +kernel
theorem dX8_count_99 : decode cX8_count 99 = .ok (.getfield 38, 3) := by decide +kernel
theorem dX8_count_102 : decode cX8_count 102 = .ok (.getfield 196, 3) := by decide +kernel
theorem dX8_count_105 : decode cX8_count 105 = .ok (.ireturn, 1) := by decide +kernel
theorem dX8_count_106 : decode cX8_count 106 = .ok (.aload_n 0, 1) := by decide +kernel
theorem dX8_count_107 : decode cX8_count 107 = .ok (.getfield 42, 3) := by decide +kernel
theorem dX8_count_110 : decode cX8_count 110 = .ok (.getfield 196, 3) := by decide +kernel
theorem dX8_count_113 : decode cX8_count 113 = .ok (.ireturn, 1) := by decide +kernel
theorem dX8_count_114 : decode cX8_count 114 = .ok (.aload_n 0, 1) := by decide +kernel
theorem dX8_count_115 : decode cX8_count 115 = .ok (.getfield 10, 3) := by decide +kernel
theorem dX8_count_118 : decode cX8_count 118 = .ok (.getfield 100, 3) := by decide +kernel
theorem dX8_count_121 : decode cX8_count 121 = .ok (.ireturn, 1) := by decide +kernel
theorem dX8_count_122 : decode cX8_count 122 = .ok (.aload_n 0, 1) := by decide +kernel
theorem dX8_count_123 : decode cX8_count 123 = .ok (.getfield 23, 3) := by decide +kernel
theorem dX8_count_126 : decode cX8_count 126 = .ok (.getfield 284, 3) := by decide +kernel
theorem dX8_count_129 : decode cX8_count 129 = .ok (.ireturn, 1) := by decide +kernel
theorem dX8_count_130 : decode cX8_count 130 = .ok (.iconst (-1), 1) := by decide +kernel
theorem dX8_count_131 : decode cX8_count 131 = .ok (.ireturn, 1) := by decide +kernel
theorem dX8_isPerson_0 : decode cX8_isPerson 0 = .ok (.iload_n 1, 1) := by decide +kernel
theorem dX8_isPerson_1 : decode cX8_isPerson 1 = .ok (.ifCond .lt 24, 3) := by decide +kernel
theorem dX8_isPerson_4 : decode cX8_isPerson 4 = .ok (.iload_n 1, 1) := by decide +kernel
theorem dX8_isPerson_5 : decode cX8_isPerson 5 = .ok (.aload_n 0, 1) := by decide +kernel
theorem dX8_isPerson_6 : decode cX8_isPerson 6 = .ok (.getfield 23, 3) := by decide +kernel
theorem dX8_isPerson_9 : decode cX8_isPerson 9 = .ok (.getfield 103, 3) := by decide +kernel
theorem dX8_isPerson_12 : decode cX8_isPerson 12 = .ok (.if_icmp .ge 13, 3) := by decide +kernel
theorem dX8_isPerson_15 : decode cX8_isPerson 15 = .ok (.iload_n 1, 1) := by decide +kernel
theorem dX8_isPerson_16 : decode cX8_isPerson 16 = .ok (.bipush 6, 2) := by decide +kernel
theorem dX8_isPerson_18 : decode cX8_isPerson 18 = .ok (.if_icmp .ge 7, 3) := by decide +kernel
theorem dX8_isPerson_21 : decode cX8_isPerson 21 = .ok (.iconst 1, 1) := by decide +kernel
theorem dX8_isPerson_22 : decode cX8_isPerson 22 = .ok (.goto 4, 3) := by decide +kernel
theorem dX8_isPerson_25 : decode cX8_isPerson 25 = .ok (.iconst 0, 1) := by decide +kernel
theorem dX8_isPerson_26 : decode cX8_isPerson 26 = .ok (.ireturn, 1) := by decide +kernel
theorem dX8_isThing_0 : decode cX8_isThing 0 = .ok (.iload_n 1, 1) := by decide +kernel
theorem dX8_isThing_1 : decode cX8_isThing 1 = .ok (.ifCond .lt 27, 3) := by decide +kernel
theorem dX8_isThing_4 : decode cX8_isThing 4 = .ok (.iload_n 1, 1) := by decide +kernel
theorem dX8_isThing_5 : decode cX8_isThing 5 = .ok (.aload_n 0, 1) := by decide +kernel
theorem dX8_isThing_6 : decode cX8_isThing 6 = .ok (.getfield 29, 3) := by decide +kernel
theorem dX8_isThing_9 : decode cX8_isThing 9 = .ok (.getfield 130, 3) := by decide +kernel
theorem dX8_isThing_12 : decode cX8_isThing 12 = .ok (.getfield 185, 3) := by decide +kernel
theorem dX8_isThing_15 : decode cX8_isThing 15 = .ok (.if_icmp .ge 13, 3) := by decide +kernel
theorem dX8_isThing_18 : decode cX8_isThing 18 = .ok (.iload_n 1, 1) := by decide +kernel
theorem dX8_isThing_19 : decode cX8_isThing 19 = .ok (.bipush 9, 2) := by decide +kernel
theorem dX8_isThing_21 : decode cX8_isThing 21 = .ok (.if_icmp .ge 7, 3) := by decide +kernel
theorem dX8_isThing_24 : decode cX8_isThing 24 = .ok (.iconst 1, 1) := by decide +kernel
theorem dX8_isThing_25 : decode cX8_isThing 25 = .ok (.goto 4, 3) := by decide +kernel
theorem dX8_isThing_28 : decode cX8_isThing 28 = .ok (.iconst 0, 1) := by decide +kernel
theorem dX8_isThing_29 : decode cX8_isThing 29 = .ok (.ireturn, 1) := by decide +kernel
theorem dX8_isTopics_0 : decode cX8_isTopics 0 = .ok (.iload_n 0, 1) := by decide +kernel
theorem dX8_isTopics_1 : decode cX8_isTopics 1 = .ok (.iconst 1, 1) := by decide +kernel
theorem dX8_isTopics_2 : decode cX8_isTopics 2 = .ok (.if_icmp .lt 13, 3) := by decide +kernel
theorem dX8_isTopics_5 : decode cX8_isTopics 5 = .ok (.iload_n 0, 1) := by decide +kernel
theorem dX8_isTopics_6 : decode cX8_isTopics 6 = .ok (.bipush 31, 2) := by decide +kernel
theorem dX8_isTopics_8 : decode cX8_isTopics 8 = .ok (.if_icmp .gt 7, 3) := by decide +kernel
theorem dX8_isTopics_11 : decode cX8_isTopics 11 = .ok (.iconst 1, 1) := by decide +kernel
theorem dX8_isTopics_12 : decode cX8_isTopics 12 = .ok (.goto 4, 3) := by decide +kernel
theorem dX8_isTopics_15 : decode cX8_isTopics 15 = .ok (.iconst 0, 1) := by decide +kernel
theorem dX8_isTopics_16 : decode cX8_isTopics 16 = .ok (.ireturn, 1) := by decide +kernel
theorem dX8_isStrength_0 : decode cX8_isStrength 0 = .ok (.iload_n 0, 1) := by decide +kernel
theorem dX8_isStrength_1 : decode cX8_isStrength 1 = .ok (.iconst 1, 1) := by decide +kernel
theorem dX8_isStrength_2 : decode cX8_isStrength 2 = .ok (.if_icmp .lt 13, 3) := by decide +kernel
theorem dX8_isStrength_5 : decode cX8_isStrength 5 = .ok (.iload_n 0, 1) := by decide +kernel
theorem dX8_isStrength_6 : decode cX8_isStrength 6 = .ok (.bipush 9, 2) := by decide +kernel
theorem dX8_isStrength_8 : decode cX8_isStrength 8 = .ok (.if_icmp .gt 7, 3) := by decide +kernel
theorem dX8_isStrength_11 : decode cX8_isStrength 11 = .ok (.iconst 1, 1) := by decide +kernel
theorem dX8_isStrength_12 : decode cX8_isStrength 12 = .ok (.goto 4, 3) := by decide +kernel
theorem dX8_isStrength_15 : decode cX8_isStrength 15 = .ok (.iconst 0, 1) := by decide +kernel
theorem dX8_isStrength_16 : decode cX8_isStrength 16 = .ok (.ireturn, 1) := by decide +kernel
theorem dX8_isDayFromNow_0 : decode cX8_isDayFromNow 0 = .ok (.iload_n 0, 1) := by decide +kernel
theorem dX8_isDayFromNow_1 : decode cX8_isDayFromNow 1 = .ok (.ifCond .lt 13, 3) := by decide +kernel
theorem dX8_isDayFromNow_4 : decode cX8_isDayFromNow 4 = .ok (.iload_n 0, 1) := by decide +kernel
theorem dX8_isDayFromNow_5 : decode cX8_isDayFromNow 5 = .ok (.bipush 40, 2) := by decide +kernel
theorem dX8_isDayFromNow_7 : decode cX8_isDayFromNow 7 = .ok (.if_icmp .gt 7, 3) := by decide +kernel
theorem dX8_isDayFromNow_10 : decode cX8_isDayFromNow 10 = .ok (.iconst 1, 1) := by decide +kernel
theorem dX8_isDayFromNow_11 : decode cX8_isDayFromNow 11 = .ok (.goto 4, 3) := by decide +kernel
theorem dX8_isDayFromNow_14 : decode cX8_isDayFromNow 14 = .ok (.iconst 0, 1) := by decide +kernel
theorem dX8_isDayFromNow_15 : decode cX8_isDayFromNow 15 = .ok (.ireturn, 1) := by decide +kernel
theorem dX8_isHalf_0 : decode cX8_isHalf 0 = .ok (.iload_n 0, 1) := by decide +kernel
theorem dX8_isHalf_1 : decode cX8_isHalf 1 = .ok (.ifCond .eq 8, 3) := by decide +kernel
theorem dX8_isHalf_4 : decode cX8_isHalf 4 = .ok (.iload_n 0, 1) := by decide +kernel
theorem dX8_isHalf_5 : decode cX8_isHalf 5 = .ok (.iconst 1, 1) := by decide +kernel
theorem dX8_isHalf_6 : decode cX8_isHalf 6 = .ok (.if_icmp .ne 7, 3) := by decide +kernel
theorem dX8_isHalf_9 : decode cX8_isHalf 9 = .ok (.iconst 1, 1) := by decide +kernel
theorem dX8_isHalf_10 : decode cX8_isHalf 10 = .ok (.goto 4, 3) := by decide +kernel
theorem dX8_isHalf_13 : decode cX8_isHalf 13 = .ok (.iconst 0, 1) := by decide +kernel
theorem dX8_isHalf_14 : decode cX8_isHalf 14 = .ok (.ireturn, 1) := by decide +kernel
theorem dX8_lookAhead_0 : decode cX8_lookAhead 0 = .ok (.aload_n 0, 1) := by decide +kernel
theorem dX8_lookAhead_1 : decode cX8_lookAhead 1 = .ok (.getfield 57, 3) := by decide +kernel
theorem dX8_lookAhead_4 : decode cX8_lookAhead 4 = .ok (.aload_n 0, 1) := by decide +kernel
theorem dX8_lookAhead_5 : decode cX8_lookAhead 5 = .ok (.getfield 29, 3) := by decide +kernel
theorem dX8_lookAhead_8 : decode cX8_lookAhead 8 = .ok (.getfield 130, 3) := by decide +kernel
theorem dX8_lookAhead_11 : decode cX8_lookAhead 11 = .ok (.aload_n 0, 1) := by decide +kernel
theorem dX8_lookAhead_12 : decode cX8_lookAhead 12 = .ok (.getfield 29, 3) := by decide +kernel
theorem dX8_lookAhead_15 : decode cX8_lookAhead 15 = .ok (.getfield 176, 3) := by decide +kernel
theorem dX8_lookAhead_18 : decode cX8_lookAhead 18 = .ok (.aload_n 0, 1) := by decide +kernel
theorem dX8_lookAhead_19 : decode cX8_lookAhead 19 = .ok (.getfield 29, 3) := by decide +kernel
theorem dX8_lookAhead_22 : decode cX8_lookAhead 22 = .ok (.getfield 148, 3) := by decide +kernel
theorem dX8_lookAhead_25 : decode cX8_lookAhead 25 = .ok (.iload_n 1, 1) := by decide +kernel
theorem dX8_lookAhead_26 : decode cX8_lookAhead 26 = .ok (.invokevirtual 244, 3) := by decide +kernel
theorem dX8_lookAhead_29 : decode cX8_lookAhead 29 = .ok (.return_, 1) := by decide +kernel
theorem dX8_placeOf_0 : decode cX8_placeOf 0 = .ok (.iload_n 1, 1) := by decide +kernel
theorem dX8_placeOf_1 : decode cX8_placeOf 1 = .ok (.aload_n 0, 1) := by decide +kernel
theorem dX8_placeOf_2 : decode cX8_placeOf 2 = .ok (.getfield 29, 3) := by decide +kernel
theorem dX8_placeOf_5 : decode cX8_placeOf 5 = .ok (.getfield 169, 3) := by decide +kernel
theorem dX8_placeOf_8 : decode cX8_placeOf 8 = .ok (.isub, 1) := by decide +kernel
theorem dX8_placeOf_9 : decode cX8_placeOf 9 = .ok (.istore_n 2, 1) := by decide +kernel
theorem dX8_placeOf_10 : decode cX8_placeOf 10 = .ok (.iload_n 2, 1) := by decide +kernel
theorem dX8_placeOf_11 : decode cX8_placeOf 11 = .ok (.ifCond .ge 15, 3) := by decide +kernel
theorem dX8_placeOf_14 : decode cX8_placeOf 14 = .ok (.iload_n 2, 1) := by decide +kernel
theorem dX8_placeOf_15 : decode cX8_placeOf 15 = .ok (.aload_n 0, 1) := by decide +kernel
theorem dX8_placeOf_16 : decode cX8_placeOf 16 = .ok (.getfield 23, 3) := by decide +kernel
theorem dX8_placeOf_19 : decode cX8_placeOf 19 = .ok (.getfield 103, 3) := by decide +kernel
theorem dX8_placeOf_22 : decode cX8_placeOf 22 = .ok (.iadd, 1) := by decide +kernel
theorem dX8_placeOf_23 : decode cX8_placeOf 23 = .ok (.goto 4, 3) := by decide +kernel
theorem dX8_placeOf_26 : decode cX8_placeOf 26 = .ok (.iload_n 2, 1) := by decide +kernel
theorem dX8_placeOf_27 : decode cX8_placeOf 27 = .ok (.ireturn, 1) := by decide +kernel
theorem dX8_firstBell_0 : decode cX8_firstBell 0 = .ok (.aload_n 0, 1) := by decide +kernel
theorem dX8_firstBell_1 : decode cX8_firstBell 1 = .ok (.getfield 66, 3) := by decide +kernel
theorem dX8_firstBell_4 : decode cX8_firstBell 4 = .ok (.aload_n 0, 1) := by decide +kernel
theorem dX8_firstBell_5 : decode cX8_firstBell 5 = .ok (.getfield 29, 3) := by decide +kernel
theorem dX8_firstBell_8 : decode cX8_firstBell 8 = .ok (.invokevirtual 157, 3) := by decide +kernel
theorem dX8_firstBell_11 : decode cX8_firstBell 11 = .ok (.iconst 0, 1) := by decide +kernel
theorem dX8_firstBell_12 : decode cX8_firstBell 12 = .ok (.istore_n 1, 1) := by decide +kernel
theorem dX8_firstBell_13 : decode cX8_firstBell 13 = .ok (.iload_n 1, 1) := by decide +kernel
theorem dX8_firstBell_14 : decode cX8_firstBell 14 = .ok (.bipush 40, 2) := by decide +kernel
theorem dX8_firstBell_16 : decode cX8_firstBell 16 = .ok (.if_icmp .gt 22, 3) := by decide +kernel
theorem dX8_firstBell_19 : decode cX8_firstBell 19 = .ok (.aload_n 0, 1) := by decide +kernel
theorem dX8_firstBell_20 : decode cX8_firstBell 20 = .ok (.getfield 66, 3) := by decide +kernel
theorem dX8_firstBell_23 : decode cX8_firstBell 23 = .ok (.iload_n 1, 1) := by decide +kernel
theorem dX8_firstBell_24 : decode cX8_firstBell 24 = .ok (.invokevirtual 203, 3) := by decide +kernel
theorem dX8_firstBell_27 : decode cX8_firstBell 27 = .ok (.ifCond .eq 5, 3) := by decide +kernel
theorem dX8_firstBell_30 : decode cX8_firstBell 30 = .ok (.iload_n 1, 1) := by decide +kernel
theorem dX8_firstBell_31 : decode cX8_firstBell 31 = .ok (.ireturn, 1) := by decide +kernel
theorem dX8_firstBell_32 : decode cX8_firstBell 32 = .ok (.iinc 1 1, 3) := by decide +kernel
theorem dX8_firstBell_35 : decode cX8_firstBell 35 = .ok (.goto (-22), 3) := by decide +kernel
theorem dX8_firstBell_38 : decode cX8_firstBell 38 = .ok (.bipush 41, 2) := by decide +kernel
theorem dX8_firstBell_40 : decode cX8_firstBell 40 = .ok (.ireturn, 1) := by decide +kernel
theorem dX8_firstReignOf_0 : decode cX8_firstReignOf 0 = .ok (.aload_n 0, 1) := by decide +kernel
theorem dX8_firstReignOf_1 : decode cX8_firstReignOf 1 = .ok (.getfield 66, 3) := by decide +kernel
theorem dX8_firstReignOf_4 : decode cX8_firstReignOf 4 = .ok (.aload_n 0, 1) := by decide +kernel
theorem dX8_firstReignOf_5 : decode cX8_firstReignOf 5 = .ok (.getfield 29, 3) := by decide +kernel
theorem dX8_firstReignOf_8 : decode cX8_firstReignOf 8 = .ok (.invokevirtual 157, 3) := by decide +kernel
theorem dX8_firstReignOf_11 : decode cX8_firstReignOf 11 = .ok (.iconst 0, 1) := by decide +kernel
theorem dX8_firstReignOf_12 : decode cX8_firstReignOf 12 = .ok (.istore_n 2, 1) := by decide +kernel
theorem dX8_firstReignOf_13 : decode cX8_firstReignOf 13 = .ok (.iload_n 2, 1) := by decide +kernel
theorem dX8_firstReignOf_14 : decode cX8_firstReignOf 14 = .ok (.bipush 40, 2) := by decide +kernel
theorem dX8_firstReignOf_16 : decode cX8_firstReignOf 16 = .ok (.if_icmp .gt 31, 3) := by decide +kernel
theorem dX8_firstReignOf_19 : decode cX8_firstReignOf 19 = .ok (.aload_n 0, 1) := by decide +kernel
theorem dX8_firstReignOf_20 : decode cX8_firstReignOf 20 = .ok (.getfield 66, 3) := by decide +kernel
theorem dX8_firstReignOf_23 : decode cX8_firstReignOf 23 = .ok (.invokevirtual 160, 3) := by decide +kernel
theorem dX8_firstReignOf_26 : decode cX8_firstReignOf 26 = .ok (.iload_n 1, 1) := by decide +kernel
theorem dX8_firstReignOf_27 : decode cX8_firstReignOf 27 = .ok (.if_icmp .ne 5, 3) := by decide +kernel
theorem dX8_firstReignOf_30 : decode cX8_firstReignOf 30 = .ok (.iload_n 2, 1) := by decide +kernel
theorem dX8_firstReignOf_31 : decode cX8_firstReignOf 31 = .ok (.ireturn, 1) := by decide +kernel
theorem dX8_firstReignOf_32 : decode cX8_firstReignOf 32 = .ok (.aload_n 0, 1) := by decide +kernel
theorem dX8_firstReignOf_33 : decode cX8_firstReignOf 33 = .ok (.getfield 66, 3) := by decide +kernel
theorem dX8_firstReignOf_36 : decode cX8_firstReignOf 36 = .ok (.iload_n 2, 1) := by decide +kernel
theorem dX8_firstReignOf_37 : decode cX8_firstReignOf 37 = .ok (.invokevirtual 166, 3) := by decide +kernel
theorem dX8_firstReignOf_40 : decode cX8_firstReignOf 40 = .ok (.pop, 1) := by decide +kernel
theorem dX8_firstReignOf_41 : decode cX8_firstReignOf 41 = .ok (.iinc 2 1, 3) := by decide +kernel
theorem dX8_firstReignOf_44 : decode cX8_firstReignOf 44 = .ok (.goto (-31), 3) := by decide +kernel
theorem dX8_firstReignOf_47 : decode cX8_firstReignOf 47 = .ok (.bipush 41, 2) := by decide +kernel
theorem dX8_firstReignOf_49 : decode cX8_firstReignOf 49 = .ok (.ireturn, 1) := by decide +kernel
theorem dX8_staysWithout_0 : decode cX8_staysWithout 0 = .ok (.aload_n 0, 1) := by decide +kernel
theorem dX8_staysWithout_1 : decode cX8_staysWithout 1 = .ok (.getfield 29, 3) := by decide +kernel
theorem dX8_staysWithout_4 : decode cX8_staysWithout 4 = .ok (.getfield 169, 3) := by decide +kernel
theorem dX8_staysWithout_7 : decode cX8_staysWithout 7 = .ok (.istore_n 3, 1) := by decide +kernel
theorem dX8_staysWithout_8 : decode cX8_staysWithout 8 = .ok (.aload_n 0, 1) := by decide +kernel
theorem dX8_staysWithout_9 : decode cX8_staysWithout 9 = .ok (.getfield 29, 3) := by decide +kernel
theorem dX8_staysWithout_12 : decode cX8_staysWithout 12 = .ok (.getfield 175, 3) := by decide +kernel
theorem dX8_staysWithout_15 : decode cX8_staysWithout 15 = .ok (.istore 4, 2) := by decide +kernel
theorem dX8_staysWithout_17 : decode cX8_staysWithout 17 = .ok (.iconst 0, 1) := by decide +kernel
theorem dX8_staysWithout_18 : decode cX8_staysWithout 18 = .ok (.istore 5, 2) := by decide +kernel
theorem dX8_staysWithout_20 : decode cX8_staysWithout 20 = .ok (.iload 5, 2) := by decide +kernel
theorem dX8_staysWithout_22 : decode cX8_staysWithout 22 = .ok (.iload_n 2, 1) := by decide +kernel
theorem dX8_staysWithout_23 : decode cX8_staysWithout 23 = .ok (.if_icmp .ge 47, 3) := by decide +kernel
theorem dX8_staysWithout_26 : decode cX8_staysWithout 26 = .ok (.aload_n 0, 1) := by decide +kernel
theorem dX8_staysWithout_27 : decode cX8_staysWithout 27 = .ok (.getfield 23, 3) := by decide +kernel
theorem dX8_staysWithout_30 : decode cX8_staysWithout 30 = .ok (.iload 4, 2) := by decide +kernel
theorem dX8_staysWithout_32 : decode cX8_staysWithout 32 = .ok (.invokevirtual 287, 3) := by decide +kernel
theorem dX8_staysWithout_35 : decode cX8_staysWithout 35 = .ok (.aload_n 0, 1) := by decide +kernel
theorem dX8_staysWithout_36 : decode cX8_staysWithout 36 = .ok (.getfield 57, 3) := by decide +kernel
theorem dX8_staysWithout_39 : decode cX8_staysWithout 39 = .ok (.iload 5, 2) := by decide +kernel
theorem dX8_staysWithout_41 : decode cX8_staysWithout 41 = .ok (.iload_n 3, 1) := by decide +kernel
theorem dX8_staysWithout_42 : decode cX8_staysWithout 42 = .ok (.iload_n 1, 1) := by decide +kernel
theorem dX8_staysWithout_43 : decode cX8_staysWithout 43 = .ok (.invokevirtual 290, 3) := by decide +kernel
theorem dX8_staysWithout_46 : decode cX8_staysWithout 46 = .ok (.iadd, 1) := by decide +kernel
theorem dX8_staysWithout_47 : decode cX8_staysWithout 47 = .ok (.istore 4, 2) := by decide +kernel
theorem dX8_staysWithout_49 : decode cX8_staysWithout 49 = .ok (.iload 4, 2) := by decide +kernel
theorem dX8_staysWithout_51 : decode cX8_staysWithout 51 = .ok (.aload_n 0, 1) := by decide +kernel
theorem dX8_staysWithout_52 : decode cX8_staysWithout 52 = .ok (.getfield 23, 3) := by decide +kernel
theorem dX8_staysWithout_55 : decode cX8_staysWithout 55 = .ok (.iload_n 3, 1) := by decide +kernel
theorem dX8_staysWithout_56 : decode cX8_staysWithout 56 = .ok (.invokevirtual 278, 3) := by decide +kernel
theorem dX8_staysWithout_59 : decode cX8_staysWithout 59 = .ok (.if_icmp .lt 5, 3) := by decide +kernel
theorem dX8_staysWithout_62 : decode cX8_staysWithout 62 = .ok (.iconst 0, 1) := by decide +kernel
theorem dX8_staysWithout_63 : decode cX8_staysWithout 63 = .ok (.ireturn, 1) := by decide +kernel
theorem dX8_staysWithout_64 : decode cX8_staysWithout 64 = .ok (.iinc 5 1, 3) := by decide +kernel
theorem dX8_staysWithout_67 : decode cX8_staysWithout 67 = .ok (.goto (-47), 3) := by decide +kernel
theorem dX8_staysWithout_70 : decode cX8_staysWithout 70 = .ok (.iconst 1, 1) := by decide +kernel
theorem dX8_staysWithout_71 : decode cX8_staysWithout 71 = .ok (.ireturn, 1) := by decide +kernel
theorem dX8_staysWith_0 : decode cX8_staysWith 0 = .ok (.aload_n 0, 1) := by decide +kernel
theorem dX8_staysWith_1 : decode cX8_staysWith 1 = .ok (.getfield 29, 3) := by decide +kernel
theorem dX8_staysWith_4 : decode cX8_staysWith 4 = .ok (.getfield 169, 3) := by decide +kernel
theorem dX8_staysWith_7 : decode cX8_staysWith 7 = .ok (.istore 5, 2) := by decide +kernel
theorem dX8_staysWith_9 : decode cX8_staysWith 9 = .ok (.aload_n 0, 1) := by decide +kernel
theorem dX8_staysWith_10 : decode cX8_staysWith 10 = .ok (.getfield 29, 3) := by decide +kernel
theorem dX8_staysWith_13 : decode cX8_staysWith 13 = .ok (.getfield 175, 3) := by decide +kernel
theorem dX8_staysWith_16 : decode cX8_staysWith 16 = .ok (.istore 6, 2) := by decide +kernel
theorem dX8_staysWith_18 : decode cX8_staysWith 18 = .ok (.iconst 0, 1) := by decide +kernel
theorem dX8_staysWith_19 : decode cX8_staysWith 19 = .ok (.istore 7, 2) := by decide +kernel
theorem dX8_staysWith_21 : decode cX8_staysWith 21 = .ok (.iload 7, 2) := by decide +kernel
theorem dX8_staysWith_23 : decode cX8_staysWith 23 = .ok (.iload 4, 2) := by decide +kernel
theorem dX8_staysWith_25 : decode cX8_staysWith 25 = .ok (.if_icmp .ge 76, 3) := by decide +kernel
theorem dX8_staysWith_28 : decode cX8_staysWith 28 = .ok (.aload_n 0, 1) := by decide +kernel
theorem dX8_staysWith_29 : decode cX8_staysWith 29 = .ok (.getfield 23, 3) := by decide +kernel
theorem dX8_staysWith_32 : decode cX8_staysWith 32 = .ok (.iload 6, 2) := by decide +kernel
theorem dX8_staysWith_34 : decode cX8_staysWith 34 = .ok (.invokevirtual 287, 3) := by decide +kernel
theorem dX8_staysWith_37 : decode cX8_staysWith 37 = .ok (.aload_n 0, 1) := by decide +kernel
theorem dX8_staysWith_38 : decode cX8_staysWith 38 = .ok (.getfield 57, 3) := by decide +kernel
theorem dX8_staysWith_41 : decode cX8_staysWith 41 = .ok (.iload 7, 2) := by decide +kernel
theorem dX8_staysWith_43 : decode cX8_staysWith 43 = .ok (.iload 5, 2) := by decide +kernel
theorem dX8_staysWith_45 : decode cX8_staysWith 45 = .ok (.invokevirtual 275, 3) := by decide +kernel
theorem dX8_staysWith_48 : decode cX8_staysWith 48 = .ok (.iadd, 1) := by decide +kernel
theorem dX8_staysWith_49 : decode cX8_staysWith 49 = .ok (.istore 6, 2) := by decide +kernel
theorem dX8_staysWith_51 : decode cX8_staysWith 51 = .ok (.iload_n 3, 1) := by decide +kernel
theorem dX8_staysWith_52 : decode cX8_staysWith 52 = .ok (.iload 7, 2) := by decide +kernel
theorem dX8_staysWith_54 : decode cX8_staysWith 54 = .ok (.ishr, 1) := by decide +kernel
theorem dX8_staysWith_55 : decode cX8_staysWith 55 = .ok (.iconst 1, 1) := by decide +kernel
theorem dX8_staysWith_56 : decode cX8_staysWith 56 = .ok (.iand, 1) := by decide +kernel
theorem dX8_staysWith_57 : decode cX8_staysWith 57 = .ok (.iconst 1, 1) := by decide +kernel
theorem dX8_staysWith_58 : decode cX8_staysWith 58 = .ok (.if_icmp .ne 21, 3) := by decide +kernel
theorem dX8_staysWith_61 : decode cX8_staysWith 61 = .ok (.iload 6, 2) := by decide +kernel
theorem dX8_staysWith_63 : decode cX8_staysWith 63 = .ok (.aload_n 0, 1) := by decide +kernel
theorem dX8_staysWith_64 : decode cX8_staysWith 64 = .ok (.getfield 57, 3) := by decide +kernel
theorem dX8_staysWith_67 : decode cX8_staysWith 67 = .ok (.iload 7, 2) := by decide +kernel
theorem dX8_staysWith_69 : decode cX8_staysWith 69 = .ok (.iload 5, 2) := by decide +kernel
theorem dX8_staysWith_71 : decode cX8_staysWith 71 = .ok (.iload_n 1, 1) := by decide +kernel
theorem dX8_staysWith_72 : decode cX8_staysWith 72 = .ok (.iload_n 2, 1) := by decide +kernel
theorem dX8_staysWith_73 : decode cX8_staysWith 73 = .ok (.invokevirtual 294, 3) := by decide +kernel
theorem dX8_staysWith_76 : decode cX8_staysWith 76 = .ok (.iadd, 1) := by decide +kernel
theorem dX8_staysWith_77 : decode cX8_staysWith 77 = .ok (.istore 6, 2) := by decide +kernel
theorem dX8_staysWith_79 : decode cX8_staysWith 79 = .ok (.iload 6, 2) := by decide +kernel
theorem dX8_staysWith_81 : decode cX8_staysWith 81 = .ok (.aload_n 0, 1) := by decide +kernel
theorem dX8_staysWith_82 : decode cX8_staysWith 82 = .ok (.getfield 23, 3) := by decide +kernel
theorem dX8_staysWith_85 : decode cX8_staysWith 85 = .ok (.iload 5, 2) := by decide +kernel
theorem dX8_staysWith_87 : decode cX8_staysWith 87 = .ok (.invokevirtual 278, 3) := by decide +kernel
theorem dX8_staysWith_90 : decode cX8_staysWith 90 = .ok (.if_icmp .lt 5, 3) := by decide +kernel
theorem dX8_staysWith_93 : decode cX8_staysWith 93 = .ok (.iconst 0, 1) := by decide +kernel
theorem dX8_staysWith_94 : decode cX8_staysWith 94 = .ok (.ireturn, 1) := by decide +kernel
theorem dX8_staysWith_95 : decode cX8_staysWith 95 = .ok (.iinc 7 1, 3) := by decide +kernel
theorem dX8_staysWith_98 : decode cX8_staysWith 98 = .ok (.goto (-77), 3) := by decide +kernel
theorem dX8_staysWith_101 : decode cX8_staysWith 101 = .ok (.iconst 1, 1) := by decide +kernel
theorem dX8_staysWith_102 : decode cX8_staysWith 102 = .ok (.ireturn, 1) := by decide +kernel
theorem dX8_bellsInOrder_0 : decode cX8_bellsInOrder 0 = .ok (.aload_n 0, 1) := by decide +kernel
theorem dX8_bellsInOrder_1 : decode cX8_bellsInOrder 1 = .ok (.getfield 66, 3) := by decide +kernel
theorem dX8_bellsInOrder_4 : decode cX8_bellsInOrder 4 = .ok (.aload_n 0, 1) := by decide +kernel
theorem dX8_bellsInOrder_5 : decode cX8_bellsInOrder 5 = .ok (.getfield 29, 3) := by decide +kernel
theorem dX8_bellsInOrder_8 : decode cX8_bellsInOrder 8 = .ok (.invokevirtual 298, 3) := by decide +kernel
theorem dX8_bellsInOrder_11 : decode cX8_bellsInOrder 11 = .ok (.iconst 0, 1) := by decide +kernel
theorem dX8_bellsInOrder_12 : decode cX8_bellsInOrder 12 = .ok (.istore_n 3, 1) := by decide +kernel
theorem dX8_bellsInOrder_13 : decode cX8_bellsInOrder 13 = .ok (.iconst 0, 1) := by decide +kernel
theorem dX8_bellsInOrder_14 : decode cX8_bellsInOrder 14 = .ok (.istore 4, 2) := by decide +kernel
theorem dX8_bellsInOrder_16 : decode cX8_bellsInOrder 16 = .ok (.iload 4, 2) := by decide +kernel
theorem dX8_bellsInOrder_18 : decode cX8_bellsInOrder 18 = .ok (.iload_n 1, 1) := by decide +kernel
theorem dX8_bellsInOrder_19 : decode cX8_bellsInOrder 19 = .ok (.if_icmp .ge 29, 3) := by decide +kernel
theorem dX8_bellsInOrder_22 : decode cX8_bellsInOrder 22 = .ok (.iload_n 3, 1) := by decide +kernel
theorem dX8_bellsInOrder_23 : decode cX8_bellsInOrder 23 = .ok (.iload_n 2, 1) := by decide +kernel
theorem dX8_bellsInOrder_24 : decode cX8_bellsInOrder 24 = .ok (.if_icmp .ge 24, 3) := by decide +kernel
theorem dX8_bellsInOrder_27 : decode cX8_bellsInOrder 27 = .ok (.aload_n 0, 1) := by decide +kernel
theorem dX8_bellsInOrder_28 : decode cX8_bellsInOrder 28 = .ok (.getfield 66, 3) := by decide +kernel
theorem dX8_bellsInOrder_31 : decode cX8_bellsInOrder 31 = .ok (.iload 4, 2) := by decide +kernel
theorem dX8_bellsInOrder_33 : decode cX8_bellsInOrder 33 = .ok (.invokevirtual 166, 3) := by decide +kernel
theorem dX8_bellsInOrder_36 : decode cX8_bellsInOrder 36 = .ok (.ifCond .eq 6, 3) := by decide +kernel
theorem dX8_bellsInOrder_39 : decode cX8_bellsInOrder 39 = .ok (.iinc 3 1, 3) := by decide +kernel
theorem dX8_bellsInOrder_42 : decode cX8_bellsInOrder 42 = .ok (.iinc 4 1, 3) := by decide +kernel
theorem dX8_bellsInOrder_45 : decode cX8_bellsInOrder 45 = .ok (.goto (-29), 3) := by decide +kernel
theorem dX8_bellsInOrder_48 : decode cX8_bellsInOrder 48 = .ok (.iload_n 3, 1) := by decide +kernel
theorem dX8_bellsInOrder_49 : decode cX8_bellsInOrder 49 = .ok (.ireturn, 1) := by decide +kernel
theorem dX8_wasSo_0 : decode cX8_wasSo 0 = .ok (.aload_n 0, 1) := by decide +kernel
theorem dX8_wasSo_1 : decode cX8_wasSo 1 = .ok (.getfield 66, 3) := by decide +kernel
theorem dX8_wasSo_4 : decode cX8_wasSo 4 = .ok (.invokevirtual 301, 3) := by decide +kernel
theorem dX8_wasSo_7 : decode cX8_wasSo 7 = .ok (.aload_n 0, 1) := by decide +kernel
theorem dX8_wasSo_8 : decode cX8_wasSo 8 = .ok (.getfield 48, 3) := by decide +kernel
theorem dX8_wasSo_11 : decode cX8_wasSo 11 = .ok (.invokevirtual 304, 3) := by decide +kernel
theorem dX8_wasSo_14 : decode cX8_wasSo 14 = .ok (.istore_n 1, 1) := by decide +kernel
theorem dX8_wasSo_15 : decode cX8_wasSo 15 = .ok (.iconst 0, 1) := by decide +kernel
theorem dX8_wasSo_16 : decode cX8_wasSo 16 = .ok (.istore_n 2, 1) := by decide +kernel
theorem dX8_wasSo_17 : decode cX8_wasSo 17 = .ok (.iload_n 2, 1) := by decide +kernel
theorem dX8_wasSo_18 : decode cX8_wasSo 18 = .ok (.iload_n 1, 1) := by decide +kernel
theorem dX8_wasSo_19 : decode cX8_wasSo 19 = .ok (.if_icmp .gt 38, 3) := by decide +kernel
theorem dX8_wasSo_22 : decode cX8_wasSo 22 = .ok (.aload_n 0, 1) := by decide +kernel
theorem dX8_wasSo_23 : decode cX8_wasSo 23 = .ok (.getfield 48, 3) := by decide +kernel
theorem dX8_wasSo_26 : decode cX8_wasSo 26 = .ok (.iload_n 2, 1) := by decide +kernel
theorem dX8_wasSo_27 : decode cX8_wasSo 27 = .ok (.aload_n 0, 1) := by decide +kernel
theorem dX8_wasSo_28 : decode cX8_wasSo 28 = .ok (.getfield 66, 3) := by decide +kernel
theorem dX8_wasSo_31 : decode cX8_wasSo 31 = .ok (.invokevirtual 160, 3) := by decide +kernel
theorem dX8_wasSo_34 : decode cX8_wasSo 34 = .ok (.invokevirtual 307, 3) := by decide +kernel
theorem dX8_wasSo_37 : decode cX8_wasSo 37 = .ok (.ifCond .ne 5, 3) := by decide +kernel
theorem dX8_wasSo_40 : decode cX8_wasSo 40 = .ok (.iconst 0, 1) := by decide +kernel
theorem dX8_wasSo_41 : decode cX8_wasSo 41 = .ok (.ireturn, 1) := by decide +kernel
theorem dX8_wasSo_42 : decode cX8_wasSo 42 = .ok (.aload_n 0, 1) := by decide +kernel
theorem dX8_wasSo_43 : decode cX8_wasSo 43 = .ok (.getfield 66, 3) := by decide +kernel
theorem dX8_wasSo_46 : decode cX8_wasSo 46 = .ok (.iload_n 2, 1) := by decide +kernel
theorem dX8_wasSo_47 : decode cX8_wasSo 47 = .ok (.invokevirtual 166, 3) := by decide +kernel
theorem dX8_wasSo_50 : decode cX8_wasSo 50 = .ok (.pop, 1) := by decide +kernel
theorem dX8_wasSo_51 : decode cX8_wasSo 51 = .ok (.iinc 2 1, 3) := by decide +kernel
theorem dX8_wasSo_54 : decode cX8_wasSo 54 = .ok (.goto (-37), 3) := by decide +kernel
theorem dX8_wasSo_57 : decode cX8_wasSo 57 = .ok (.iconst 1, 1) := by decide +kernel
theorem dX8_wasSo_58 : decode cX8_wasSo 58 = .ok (.ireturn, 1) := by decide +kernel
theorem dX8_draw_0 : decode cX8_draw 0 = .ok (.ldc2_w 310, 3) := by decide +kernel
theorem dX8_draw_3 : decode cX8_draw 3 = .ok (.iload_n 0, 1) := by decide +kernel
theorem dX8_draw_4 : decode cX8_draw 4 = .ok (.i2l, 1) := by decide +kernel
theorem dX8_draw_5 : decode cX8_draw 5 = .ok (.lmul, 1) := by decide +kernel
theorem dX8_draw_6 : decode cX8_draw 6 = .ok (.ldc2_w 312, 3) := by decide +kernel
theorem dX8_draw_9 : decode cX8_draw 9 = .ok (.iload_n 1, 1) := by decide +kernel
theorem dX8_draw_10 : decode cX8_draw 10 = .ok (.i2l, 1) := by decide +kernel
theorem dX8_draw_11 : decode cX8_draw 11 = .ok (.lmul, 1) := by decide +kernel
theorem dX8_draw_12 : decode cX8_draw 12 = .ok (.ladd, 1) := by decide +kernel
theorem dX8_draw_13 : decode cX8_draw 13 = .ok (.lconst 1, 1) := by decide +kernel
theorem dX8_draw_14 : decode cX8_draw 14 = .ok (.ladd, 1) := by decide +kernel
theorem dX8_draw_15 : decode cX8_draw 15 = .ok (.lstore_n 2, 1) := by decide +kernel
theorem dX8_draw_16 : decode cX8_draw 16 = .ok (.lload_n 2, 1) := by decide +kernel
theorem dX8_draw_17 : decode cX8_draw 17 = .ok (.lload_n 2, 1) := by decide +kernel
theorem dX8_draw_18 : decode cX8_draw 18 = .ok (.lmul, 1) := by decide +kernel
theorem dX8_draw_19 : decode cX8_draw 19 = .ok (.ldc2_w 314, 3) := by decide +kernel
theorem dX8_draw_22 : decode cX8_draw 22 = .ok (.lrem, 1) := by decide +kernel
theorem dX8_draw_23 : decode cX8_draw 23 = .ok (.ldc2_w 316, 3) := by decide +kernel
theorem dX8_draw_26 : decode cX8_draw 26 = .ok (.ldiv, 1) := by decide +kernel
theorem dX8_draw_27 : decode cX8_draw 27 = .ok (.l2i, 1) := by decide +kernel
theorem dX8_draw_28 : decode cX8_draw 28 = .ok (.ireturn, 1) := by decide +kernel
theorem dX8_power_0 : decode cX8_power 0 = .ok (.iconst 1, 1) := by decide +kernel
theorem dX8_power_1 : decode cX8_power 1 = .ok (.istore_n 2, 1) := by decide +kernel
theorem dX8_power_2 : decode cX8_power 2 = .ok (.iconst 0, 1) := by decide +kernel
theorem dX8_power_3 : decode cX8_power 3 = .ok (.istore_n 3, 1) := by decide +kernel
theorem dX8_power_4 : decode cX8_power 4 = .ok (.iload_n 3, 1) := by decide +kernel
theorem dX8_power_5 : decode cX8_power 5 = .ok (.iload_n 1, 1) := by decide +kernel
theorem dX8_power_6 : decode cX8_power 6 = .ok (.if_icmp .ge 13, 3) := by decide +kernel
theorem dX8_power_9 : decode cX8_power 9 = .ok (.iload_n 2, 1) := by decide +kernel
theorem dX8_power_10 : decode cX8_power 10 = .ok (.iload_n 0, 1) := by decide +kernel
theorem dX8_power_11 : decode cX8_power 11 = .ok (.imul, 1) := by decide +kernel
theorem dX8_power_12 : decode cX8_power 12 = .ok (.istore_n 2, 1) := by decide +kernel
theorem dX8_power_13 : decode cX8_power 13 = .ok (.iinc 3 1, 3) := by decide +kernel
theorem dX8_power_16 : decode cX8_power 16 = .ok (.goto (-12), 3) := by decide +kernel
theorem dX8_power_19 : decode cX8_power 19 = .ok (.iload_n 2, 1) := by decide +kernel
theorem dX8_power_20 : decode cX8_power 20 = .ok (.ireturn, 1) := by decide +kernel
theorem dX8_greatestDivisor_0 : decode cX8_greatestDivisor 0 = .ok (.iconst 0, 1) := by decide +kernel
theorem dX8_greatestDivisor_1 : decode cX8_greatestDivisor 1 = .ok (.istore_n 2, 1) := by decide +kernel
theorem dX8_greatestDivisor_2 : decode cX8_greatestDivisor 2 = .ok (.iload_n 2, 1) := by decide +kernel
theorem dX8_greatestDivisor_3 : decode cX8_greatestDivisor 3 = .ok (.bipush 64, 2) := by decide +kernel
theorem dX8_greatestDivisor_5 : decode cX8_greatestDivisor 5 = .ok (.if_icmp .ge 21, 3) := by decide +kernel
theorem dX8_greatestDivisor_8 : decode cX8_greatestDivisor 8 = .ok (.iload_n 1, 1) := by decide +kernel
theorem dX8_greatestDivisor_9 : decode cX8_greatestDivisor 9 = .ok (.ifCond .eq 17, 3) := by decide +kernel
theorem dX8_greatestDivisor_12 : decode cX8_greatestDivisor 12 = .ok (.iload_n 0, 1) := by decide +kernel
theorem dX8_greatestDivisor_13 : decode cX8_greatestDivisor 13 = .ok (.iload_n 1, 1) := by decide +kernel
theorem dX8_greatestDivisor_14 : decode cX8_greatestDivisor 14 = .ok (.irem, 1) := by decide +kernel
theorem dX8_greatestDivisor_15 : decode cX8_greatestDivisor 15 = .ok (.istore_n 3, 1) := by decide +kernel
theorem dX8_greatestDivisor_16 : decode cX8_greatestDivisor 16 = .ok (.iload_n 1, 1) := by decide +kernel
theorem dX8_greatestDivisor_17 : decode cX8_greatestDivisor 17 = .ok (.istore_n 0, 1) := by decide +kernel
theorem dX8_greatestDivisor_18 : decode cX8_greatestDivisor 18 = .ok (.iload_n 3, 1) := by decide +kernel
theorem dX8_greatestDivisor_19 : decode cX8_greatestDivisor 19 = .ok (.istore_n 1, 1) := by decide +kernel
theorem dX8_greatestDivisor_20 : decode cX8_greatestDivisor 20 = .ok (.iinc 2 1, 3) := by decide +kernel
theorem dX8_greatestDivisor_23 : decode cX8_greatestDivisor 23 = .ok (.goto (-21), 3) := by decide +kernel
theorem dX8_greatestDivisor_26 : decode cX8_greatestDivisor 26 = .ok (.iload_n 0, 1) := by decide +kernel
theorem dX8_greatestDivisor_27 : decode cX8_greatestDivisor 27 = .ok (.ireturn, 1) := by decide +kernel
theorem dX8_comesBy_0 : decode cX8_comesBy 0 = .ok (.iload_n 3, 1) := by decide +kernel
theorem dX8_comesBy_1 : decode cX8_comesBy 1 = .ok (.iload_n 2, 1) := by decide +kernel
theorem dX8_comesBy_2 : decode cX8_comesBy 2 = .ok (.iload_n 1, 1) := by decide +kernel
theorem dX8_comesBy_3 : decode cX8_comesBy 3 = .ok (.iand, 1) := by decide +kernel
theorem dX8_comesBy_4 : decode cX8_comesBy 4 = .ok (.invokestatic 212, 3) := by decide +kernel
theorem dX8_comesBy_7 : decode cX8_comesBy 7 = .ok (.imul, 1) := by decide +kernel
theorem dX8_comesBy_8 : decode cX8_comesBy 8 = .ok (.istore 6, 2) := by decide +kernel
theorem dX8_comesBy_10 : decode cX8_comesBy 10 = .ok (.iload_n 0, 1) := by decide +kernel
theorem dX8_comesBy_11 : decode cX8_comesBy 11 = .ok (.tableswitch 64 1 3 #[25, 30, 49], 25) := by decide +kernel
theorem dX8_comesBy_36 : decode cX8_comesBy 36 = .ok (.iload 6, 2) := by decide +kernel
theorem dX8_comesBy_38 : decode cX8_comesBy 38 = .ok (.iconst 2, 1) := by decide +kernel
theorem dX8_comesBy_39 : decode cX8_comesBy 39 = .ok (.idiv, 1) := by decide +kernel
theorem dX8_comesBy_40 : decode cX8_comesBy 40 = .ok (.ireturn, 1) := by decide +kernel
theorem dX8_comesBy_41 : decode cX8_comesBy 41 = .ok (.iload_n 2, 1) := by decide +kernel
theorem dX8_comesBy_42 : decode cX8_comesBy 42 = .ok (.iload 4, 2) := by decide +kernel
theorem dX8_comesBy_44 : decode cX8_comesBy 44 = .ok (.iconst (-1), 1) := by decide +kernel
theorem dX8_comesBy_45 : decode cX8_comesBy 45 = .ok (.ixor, 1) := by decide +kernel
theorem dX8_comesBy_46 : decode cX8_comesBy 46 = .ok (.iand, 1) := by decide +kernel
theorem dX8_comesBy_47 : decode cX8_comesBy 47 = .ok (.ifCond .eq 10, 3) := by decide +kernel
theorem dX8_comesBy_50 : decode cX8_comesBy 50 = .ok (.iload 6, 2) := by decide +kernel
theorem dX8_comesBy_52 : decode cX8_comesBy 52 = .ok (.iconst 2, 1) := by decide +kernel
theorem dX8_comesBy_53 : decode cX8_comesBy 53 = .ok (.iadd, 1) := by decide +kernel
theorem dX8_comesBy_54 : decode cX8_comesBy 54 = .ok (.goto 5, 3) := by decide +kernel
theorem dX8_comesBy_57 : decode cX8_comesBy 57 = .ok (.iload 6, 2) := by decide +kernel
theorem dX8_comesBy_59 : decode cX8_comesBy 59 = .ok (.ireturn, 1) := by decide +kernel
theorem dX8_comesBy_60 : decode cX8_comesBy 60 = .ok (.iload 5, 2) := by decide +kernel
theorem dX8_comesBy_62 : decode cX8_comesBy 62 = .ok (.iconst 3, 1) := by decide +kernel
theorem dX8_comesBy_63 : decode cX8_comesBy 63 = .ok (.irem, 1) := by decide +kernel
theorem dX8_comesBy_64 : decode cX8_comesBy 64 = .ok (.iconst 2, 1) := by decide +kernel
theorem dX8_comesBy_65 : decode cX8_comesBy 65 = .ok (.if_icmp .ne 7, 3) := by decide +kernel
theorem dX8_comesBy_68 : decode cX8_comesBy 68 = .ok (.iconst 0, 1) := by decide +kernel
theorem dX8_comesBy_69 : decode cX8_comesBy 69 = .ok (.goto 5, 3) := by decide +kernel
theorem dX8_comesBy_72 : decode cX8_comesBy 72 = .ok (.iload 6, 2) := by decide +kernel
theorem dX8_comesBy_74 : decode cX8_comesBy 74 = .ok (.ireturn, 1) := by decide +kernel
theorem dX8_comesBy_75 : decode cX8_comesBy 75 = .ok (.iload 6, 2) := by decide +kernel
theorem dX8_comesBy_77 : decode cX8_comesBy 77 = .ok (.ireturn, 1) := by decide +kernel
theorem dX9_init_0 : decode cX9_init 0 = .ok (.aload_n 0, 1) := by decide +kernel
theorem dX9_init_1 : decode cX9_init 1 = .ok (.invokespecial 1, 3) := by decide +kernel
theorem dX9_init_4 : decode cX9_init 4 = .ok (.aload_n 0, 1) := by decide +kernel
theorem dX9_init_5 : decode cX9_init 5 = .ok (.bipush 18, 2) := by decide +kernel
theorem dX9_init_7 : decode cX9_init 7 = .ok (.newarray .int, 2) := by decide +kernel
theorem dX9_init_9 : decode cX9_init 9 = .ok (.putfield 7, 3) := by decide +kernel
theorem dX9_init_12 : decode cX9_init 12 = .ok (.aload_n 0, 1) := by decide +kernel
theorem dX9_init_13 : decode cX9_init 13 = .ok (.bipush 46, 2) := by decide +kernel
theorem dX9_init_15 : decode cX9_init 15 = .ok (.newarray .int, 2) := by decide +kernel
theorem dX9_init_17 : decode cX9_init 17 = .ok (.putfield 13, 3) := by decide +kernel
theorem dX9_init_20 : decode cX9_init 20 = .ok (.aload_n 0, 1) := by decide +kernel
theorem dX9_init_21 : decode cX9_init 21 = .ok (.bipush 46, 2) := by decide +kernel
theorem dX9_init_23 : decode cX9_init 23 = .ok (.newarray .int, 2) := by decide +kernel
theorem dX9_init_25 : decode cX9_init 25 = .ok (.putfield 16, 3) := by decide +kernel
theorem dX9_init_28 : decode cX9_init 28 = .ok (.aload_n 0, 1) := by decide +kernel
theorem dX9_init_29 : decode cX9_init 29 = .ok (.sipush 368, 3) := by decide +kernel
theorem dX9_init_32 : decode cX9_init 32 = .ok (.newarray .int, 2) := by decide +kernel
theorem dX9_init_34 : decode cX9_init 34 = .ok (.putfield 19, 3) := by decide +kernel
theorem dX9_init_37 : decode cX9_init 37 = .ok (.aload_n 0, 1) := by decide +kernel
theorem dX9_init_38 : decode cX9_init 38 = .ok (.bipush 92, 2) := by decide +kernel
theorem dX9_init_40 : decode cX9_init 40 = .ok (.newarray .int, 2) := by decide +kernel
theorem dX9_init_42 : decode cX9_init 42 = .ok (.putfield 22, 3) := by decide +kernel
theorem dX9_init_45 : decode cX9_init 45 = .ok (.aload_n 0, 1) := by decide +kernel
theorem dX9_init_46 : decode cX9_init 46 = .ok (.bipush 16, 2) := by decide +kernel
theorem dX9_init_48 : decode cX9_init 48 = .ok (.newarray .int, 2) := by decide +kernel
theorem dX9_init_50 : decode cX9_init 50 = .ok (.putfield 25, 3) := by decide +kernel
theorem dX9_init_53 : decode cX9_init 53 = .ok (.aload_n 0, 1) := by decide +kernel
theorem dX9_init_54 : decode cX9_init 54 = .ok (.sipush 200, 3) := by decide +kernel
theorem dX9_init_57 : decode cX9_init 57 = .ok (.newarray .int, 2) := by decide +kernel
theorem dX9_init_59 : decode cX9_init 59 = .ok (.putfield 28, 3) := by decide +kernel
theorem dX9_init_62 : decode cX9_init 62 = .ok (.aload_n 0, 1) := by decide +kernel
theorem dX9_init_63 : decode cX9_init 63 = .ok (.iconst 3, 1) := by decide +kernel
theorem dX9_init_64 : decode cX9_init 64 = .ok (.newarray .int, 2) := by decide +kernel
theorem dX9_init_66 : decode cX9_init 66 = .ok (.putfield 31, 3) := by decide +kernel
theorem dX9_init_69 : decode cX9_init 69 = .ok (.aload_n 0, 1) := by decide +kernel
theorem dX9_init_70 : decode cX9_init 70 = .ok (.bipush 18, 2) := by decide +kernel
theorem dX9_init_72 : decode cX9_init 72 = .ok (.newarray .int, 2) := by decide +kernel
theorem dX9_init_74 : decode cX9_init 74 = .ok (.putfield 34, 3) := by decide +kernel
theorem dX9_init_77 : decode cX9_init 77 = .ok (.aload_n 0, 1) := by decide +kernel
theorem dX9_init_78 : decode cX9_init 78 = .ok (.bipush 46, 2) := by decide +kernel
theorem dX9_init_80 : decode cX9_init 80 = .ok (.newarray .int, 2) := by decide +kernel
theorem dX9_init_82 : decode cX9_init 82 = .ok (.putfield 37, 3) := by decide +kernel
theorem dX9_init_85 : decode cX9_init 85 = .ok (.aload_n 0, 1) := by decide +kernel
theorem dX9_init_86 : decode cX9_init 86 = .ok (.bipush 46, 2) := by decide +kernel
theorem dX9_init_88 : decode cX9_init 88 = .ok (.newarray .int, 2) := by decide +kernel
theorem dX9_init_90 : decode cX9_init 90 = .ok (.putfield 40, 3) := by decide +kernel
theorem dX9_init_93 : decode cX9_init 93 = .ok (.aload_n 0, 1) := by decide +kernel
theorem dX9_init_94 : decode cX9_init 94 = .ok (.bipush 6, 2) := by decide +kernel
theorem dX9_init_96 : decode cX9_init 96 = .ok (.newarray .int, 2) := by decide +kernel
theorem dX9_init_98 : decode cX9_init 98 = .ok (.putfield 43, 3) := by decide +kernel
theorem dX9_init_101 : decode cX9_init 101 = .ok (.aload_n 0, 1) := by decide +kernel
theorem dX9_init_102 : decode cX9_init 102 = .ok (.bipush 6, 2) := by decide +kernel
theorem dX9_init_104 : decode cX9_init 104 = .ok (.newarray .int, 2) := by decide +kernel
theorem dX9_init_106 : decode cX9_init 106 = .ok (.putfield 46, 3) := by decide +kernel
theorem dX9_init_109 : decode cX9_init 109 = .ok (.aload_n 0, 1) := by decide +kernel
theorem dX9_init_110 : decode cX9_init 110 = .ok (.invokevirtual 49, 3) := by decide +kernel
theorem dX9_init_113 : decode cX9_init 113 = .ok (.aload_n 0, 1) := by decide +kernel
theorem dX9_init_114 : decode cX9_init 114 = .ok (.iconst 0, 1) := by decide +kernel
theorem dX9_init_115 : decode cX9_init 115 = .ok (.iconst 3, 1) := by decide +kernel
theorem dX9_init_116 : decode cX9_init 116 = .ok (.bipush 6, 2) := by decide +kernel
theorem dX9_init_118 : decode cX9_init 118 = .ok (.invokevirtual 52, 3) := by decide +kernel
theorem dX9_init_121 : decode cX9_init 121 = .ok (.aload_n 0, 1) := by decide +kernel
theorem dX9_init_122 : decode cX9_init 122 = .ok (.iconst 1, 1) := by decide +kernel
theorem dX9_init_123 : decode cX9_init 123 = .ok (.iconst 5, 1) := by decide +kernel
theorem dX9_init_124 : decode cX9_init 124 = .ok (.iconst 5, 1) := by decide +kernel
theorem dX9_init_125 : decode cX9_init 125 = .ok (.invokevirtual 52, 3) := by decide +kernel
end
section
theorem dX9_init_128 : decode cX9_init 128 = .ok (.aload_n 0, 1) := by decide +kernel
theorem dX9_init_129 : decode cX9_init 129 = .ok (.iconst 2, 1) := by decide +kernel
theorem dX9_init_130 : decode cX9_init 130 = .ok (.bipush 12, 2) := by decide +kernel
theorem dX9_init_132 : decode cX9_init 132 = .ok (.bipush 9, 2) := by decide +kernel
theorem dX9_init_134 : decode cX9_init 134 = .ok (.invokevirtual 52, 3) := by decide +kernel
theorem dX9_init_137 : decode cX9_init 137 = .ok (.aload_n 0, 1) := by decide +kernel
theorem dX9_init_138 : decode cX9_init 138 = .ok (.iconst 3, 1) := by decide +kernel
theorem dX9_init_139 : decode cX9_init 139 = .ok (.bipush 6, 2) := by decide +kernel
theorem dX9_init_141 : decode cX9_init 141 = .ok (.iconst 4, 1) := by decide +kernel
theorem dX9_init_142 : decode cX9_init 142 = .ok (.invokevirtual 52, 3) := by decide +kernel
theorem dX9_init_145 : decode cX9_init 145 = .ok (.aload_n 0, 1) := by decide +kernel
theorem dX9_init_146 : decode cX9_init 146 = .ok (.getfield 37, 3) := by decide +kernel
theorem dX9_init_149 : decode cX9_init 149 = .ok (.iconst 0, 1) := by decide +kernel
theorem dX9_init_150 : decode cX9_init 150 = .ok (.iconst 1, 1) := by decide +kernel
theorem dX9_init_151 : decode cX9_init 151 = .ok (.iconst 3, 1) := by decide +kernel
theorem dX9_init_152 : decode cX9_init 152 = .ok (.invokestatic 56, 3) := by decide +kernel
theorem dX9_init_155 : decode cX9_init 155 = .ok (.aload_n 0, 1) := by decide +kernel
theorem dX9_init_156 : decode cX9_init 156 = .ok (.getfield 37, 3) := by decide +kernel
theorem dX9_init_159 : decode cX9_init 159 = .ok (.iconst 1, 1) := by decide +kernel
theorem dX9_init_160 : decode cX9_init 160 = .ok (.iconst 2, 1) := by decide +kernel
theorem dX9_init_161 : decode cX9_init 161 = .ok (.iconst 4, 1) := by decide +kernel
theorem dX9_init_162 : decode cX9_init 162 = .ok (.invokestatic 56, 3) := by decide +kernel
theorem dX9_init_165 : decode cX9_init 165 = .ok (.aload_n 0, 1) := by decide +kernel
theorem dX9_init_166 : decode cX9_init 166 = .ok (.getfield 37, 3) := by decide +kernel
theorem dX9_init_169 : decode cX9_init 169 = .ok (.iconst 2, 1) := by decide +kernel
theorem dX9_init_170 : decode cX9_init 170 = .ok (.bipush 7, 2) := by decide +kernel
theorem dX9_init_172 : decode cX9_init 172 = .ok (.iconst 2, 1) := by decide +kernel
theorem dX9_init_173 : decode cX9_init 173 = .ok (.invokestatic 56, 3) := by decide +kernel
theorem dX9_init_176 : decode cX9_init 176 = .ok (.aload_n 0, 1) := by decide +kernel
theorem dX9_init_177 : decode cX9_init 177 = .ok (.getfield 37, 3) := by decide +kernel
theorem dX9_init_180 : decode cX9_init 180 = .ok (.iconst 2, 1) := by decide +kernel
theorem dX9_init_181 : decode cX9_init 181 = .ok (.bipush 8, 2) := by decide +kernel
theorem dX9_init_183 : decode cX9_init 183 = .ok (.iconst 5, 1) := by decide +kernel
theorem dX9_init_184 : decode cX9_init 184 = .ok (.invokestatic 56, 3) := by decide +kernel
theorem dX9_init_187 : decode cX9_init 187 = .ok (.aload_n 0, 1) := by decide +kernel
theorem dX9_init_188 : decode cX9_init 188 = .ok (.getfield 37, 3) := by decide +kernel
theorem dX9_init_191 : decode cX9_init 191 = .ok (.iconst 4, 1) := by decide +kernel
theorem dX9_init_192 : decode cX9_init 192 = .ok (.iconst 4, 1) := by decide +kernel
theorem dX9_init_193 : decode cX9_init 193 = .ok (.bipush 6, 2) := by decide +kernel
theorem dX9_init_195 : decode cX9_init 195 = .ok (.invokestatic 56, 3) := by decide +kernel
theorem dX9_init_198 : decode cX9_init 198 = .ok (.aload_n 0, 1) := by decide +kernel
theorem dX9_init_199 : decode cX9_init 199 = .ok (.getfield 37, 3) := by decide +kernel
theorem dX9_init_202 : decode cX9_init 202 = .ok (.iconst 5, 1) := by decide +kernel
theorem dX9_init_203 : decode cX9_init 203 = .ok (.bipush 16, 2) := by decide +kernel
theorem dX9_init_205 : decode cX9_init 205 = .ok (.bipush 9, 2) := by decide +kernel
theorem dX9_init_207 : decode cX9_init 207 = .ok (.invokestatic 56, 3) := by decide +kernel
theorem dX9_init_210 : decode cX9_init 210 = .ok (.aload_n 0, 1) := by decide +kernel
theorem dX9_init_211 : decode cX9_init 211 = .ok (.getfield 37, 3) := by decide +kernel
theorem dX9_init_214 : decode cX9_init 214 = .ok (.bipush 7, 2) := by decide +kernel
theorem dX9_init_216 : decode cX9_init 216 = .ok (.iconst 3, 1) := by decide +kernel
theorem dX9_init_217 : decode cX9_init 217 = .ok (.iconst 3, 1) := by decide +kernel
theorem dX9_init_218 : decode cX9_init 218 = .ok (.invokestatic 56, 3) := by decide +kernel
theorem dX9_init_221 : decode cX9_init 221 = .ok (.aload_n 0, 1) := by decide +kernel
theorem dX9_init_222 : decode cX9_init 222 = .ok (.invokevirtual 60, 3) := by decide +kernel
theorem dX9_init_225 : decode cX9_init 225 = .ok (.return_, 1) := by decide +kernel
theorem dX9_tellsPerson_0 : decode cX9_tellsPerson 0 = .ok (.aload_n 0, 1) := by decide +kernel
theorem dX9_tellsPerson_1 : decode cX9_tellsPerson 1 = .ok (.getfield 34, 3) := by decide +kernel
theorem dX9_tellsPerson_4 : decode cX9_tellsPerson 4 = .ok (.iconst 3, 1) := by decide +kernel
theorem dX9_tellsPerson_5 : decode cX9_tellsPerson 5 = .ok (.aload_n 0, 1) := by decide +kernel
theorem dX9_tellsPerson_6 : decode cX9_tellsPerson 6 = .ok (.getfield 63, 3) := by decide +kernel
theorem dX9_tellsPerson_9 : decode cX9_tellsPerson 9 = .ok (.imul, 1) := by decide +kernel
theorem dX9_tellsPerson_10 : decode cX9_tellsPerson 10 = .ok (.iload_n 1, 1) := by decide +kernel
theorem dX9_tellsPerson_11 : decode cX9_tellsPerson 11 = .ok (.iastore, 1) := by decide +kernel
theorem dX9_tellsPerson_12 : decode cX9_tellsPerson 12 = .ok (.aload_n 0, 1) := by decide +kernel
theorem dX9_tellsPerson_13 : decode cX9_tellsPerson 13 = .ok (.getfield 34, 3) := by decide +kernel
theorem dX9_tellsPerson_16 : decode cX9_tellsPerson 16 = .ok (.iconst 3, 1) := by decide +kernel
theorem dX9_tellsPerson_17 : decode cX9_tellsPerson 17 = .ok (.aload_n 0, 1) := by decide +kernel
theorem dX9_tellsPerson_18 : decode cX9_tellsPerson 18 = .ok (.getfield 63, 3) := by decide +kernel
theorem dX9_tellsPerson_21 : decode cX9_tellsPerson 21 = .ok (.imul, 1) := by decide +kernel
theorem dX9_tellsPerson_22 : decode cX9_tellsPerson 22 = .ok (.iconst 1, 1) := by decide +kernel
theorem dX9_tellsPerson_23 : decode cX9_tellsPerson 23 = .ok (.iadd, 1) := by decide +kernel
theorem dX9_tellsPerson_24 : decode cX9_tellsPerson 24 = .ok (.iload_n 2, 1) := by decide +kernel
theorem dX9_tellsPerson_25 : decode cX9_tellsPerson 25 = .ok (.iastore, 1) := by decide +kernel
theorem dX9_tellsPerson_26 : decode cX9_tellsPerson 26 = .ok (.aload_n 0, 1) := by decide +kernel
theorem dX9_tellsPerson_27 : decode cX9_tellsPerson 27 = .ok (.getfield 34, 3) := by decide +kernel
theorem dX9_tellsPerson_30 : decode cX9_tellsPerson 30 = .ok (.iconst 3, 1) := by decide +kernel
theorem dX9_tellsPerson_31 : decode cX9_tellsPerson 31 = .ok (.aload_n 0, 1) := by decide +kernel
theorem dX9_tellsPerson_32 : decode cX9_tellsPerson 32 = .ok (.getfield 63, 3) := by decide +kernel
theorem dX9_tellsPerson_35 : decode cX9_tellsPerson 35 = .ok (.imul, 1) := by decide +kernel
theorem dX9_tellsPerson_36 : decode cX9_tellsPerson 36 = .ok (.iconst 2, 1) := by decide +kernel
theorem dX9_tellsPerson_37 : decode cX9_tellsPerson 37 = .ok (.iadd, 1) := by decide +kernel
theorem dX9_tellsPerson_38 : decode cX9_tellsPerson 38 = .ok (.iload_n 3, 1) := by decide +kernel
theorem dX9_tellsPerson_39 : decode cX9_tellsPerson 39 = .ok (.iastore, 1) := by decide +kernel
theorem dX9_tellsPerson_40 : decode cX9_tellsPerson 40 = .ok (.aload_n 0, 1) := by decide +kernel
theorem dX9_tellsPerson_41 : decode cX9_tellsPerson 41 = .ok (.dup, 1) := by decide +kernel
theorem dX9_tellsPerson_42 : decode cX9_tellsPerson 42 = .ok (.getfield 63, 3) := by decide +kernel
theorem dX9_tellsPerson_45 : decode cX9_tellsPerson 45 = .ok (.iconst 1, 1) := by decide +kernel
theorem dX9_tellsPerson_46 : decode cX9_tellsPerson 46 = .ok (.iadd, 1) := by decide +kernel
theorem dX9_tellsPerson_47 : decode cX9_tellsPerson 47 = .ok (.putfield 63, 3) := by decide +kernel
theorem dX9_tellsPerson_50 : decode cX9_tellsPerson 50 = .ok (.return_, 1) := by decide +kernel
theorem dX9_addsThing_0 : decode cX9_addsThing 0 = .ok (.bipush 16, 2) := by decide +kernel
theorem dX9_addsThing_2 : decode cX9_addsThing 2 = .ok (.iconst 3, 1) := by decide +kernel
theorem dX9_addsThing_3 : decode cX9_addsThing 3 = .ok (.aload_n 0, 1) := by decide +kernel
theorem dX9_addsThing_4 : decode cX9_addsThing 4 = .ok (.iconst 2, 1) := by decide +kernel
theorem dX9_addsThing_5 : decode cX9_addsThing 5 = .ok (.iaload, 1) := by decide +kernel
theorem dX9_addsThing_6 : decode cX9_addsThing 6 = .ok (.imul, 1) := by decide +kernel
theorem dX9_addsThing_7 : decode cX9_addsThing 7 = .ok (.iadd, 1) := by decide +kernel
theorem dX9_addsThing_8 : decode cX9_addsThing 8 = .ok (.istore 4, 2) := by decide +kernel
theorem dX9_addsThing_10 : decode cX9_addsThing 10 = .ok (.aload_n 0, 1) := by decide +kernel
theorem dX9_addsThing_11 : decode cX9_addsThing 11 = .ok (.iload 4, 2) := by decide +kernel
theorem dX9_addsThing_13 : decode cX9_addsThing 13 = .ok (.iload_n 1, 1) := by decide +kernel
theorem dX9_addsThing_14 : decode cX9_addsThing 14 = .ok (.iastore, 1) := by decide +kernel
theorem dX9_addsThing_15 : decode cX9_addsThing 15 = .ok (.aload_n 0, 1) := by decide +kernel
theorem dX9_addsThing_16 : decode cX9_addsThing 16 = .ok (.iload 4, 2) := by decide +kernel
theorem dX9_addsThing_18 : decode cX9_addsThing 18 = .ok (.iconst 1, 1) := by decide +kernel
theorem dX9_addsThing_19 : decode cX9_addsThing 19 = .ok (.iadd, 1) := by decide +kernel
theorem dX9_addsThing_20 : decode cX9_addsThing 20 = .ok (.iload_n 2, 1) := by decide +kernel
theorem dX9_addsThing_21 : decode cX9_addsThing 21 = .ok (.iastore, 1) := by decide +kernel
theorem dX9_addsThing_22 : decode cX9_addsThing 22 = .ok (.aload_n 0, 1) := by decide +kernel
theorem dX9_addsThing_23 : decode cX9_addsThing 23 = .ok (.iload 4, 2) := by decide +kernel
theorem dX9_addsThing_25 : decode cX9_addsThing 25 = .ok (.iconst 2, 1) := by decide +kernel
theorem dX9_addsThing_26 : decode cX9_addsThing 26 = .ok (.iadd, 1) := by decide +kernel
theorem dX9_addsThing_27 : decode cX9_addsThing 27 = .ok (.iload_n 3, 1) := by decide +kernel
theorem dX9_addsThing_28 : decode cX9_addsThing 28 = .ok (.iastore, 1) := by decide +kernel
theorem dX9_addsThing_29 : decode cX9_addsThing 29 = .ok (.aload_n 0, 1) := by decide +kernel
theorem dX9_addsThing_30 : decode cX9_addsThing 30 = .ok (.iconst 2, 1) := by decide +kernel
theorem dX9_addsThing_31 : decode cX9_addsThing 31 = .ok (.dup2, 1) := by decide +kernel
theorem dX9_addsThing_32 : decode cX9_addsThing 32 = .ok (.iaload, 1) := by decide +kernel
theorem dX9_addsThing_33 : decode cX9_addsThing 33 = .ok (.iconst 1, 1) := by decide +kernel
theorem dX9_addsThing_34 : decode cX9_addsThing 34 = .ok (.iadd, 1) := by decide +kernel
theorem dX9_addsThing_35 : decode cX9_addsThing 35 = .ok (.iastore, 1) := by decide +kernel
theorem dX9_addsThing_36 : decode cX9_addsThing 36 = .ok (.return_, 1) := by decide +kernel
theorem dX9_in_0 : decode cX9_in 0 = .ok (.iload_n 0, 1) := by decide +kernel
theorem dX9_in_1 : decode cX9_in 1 = .ok (.iload_n 1, 1) := by decide +kernel
theorem dX9_in_2 : decode cX9_in 2 = .ok (.if_icmp .lt 12, 3) := by decide +kernel
theorem dX9_in_5 : decode cX9_in 5 = .ok (.iload_n 0, 1) := by decide +kernel
theorem dX9_in_6 : decode cX9_in 6 = .ok (.iload_n 2, 1) := by decide +kernel
theorem dX9_in_7 : decode cX9_in 7 = .ok (.if_icmp .gt 7, 3) := by decide +kernel
theorem dX9_in_10 : decode cX9_in 10 = .ok (.iconst 1, 1) := by decide +kernel
theorem dX9_in_11 : decode cX9_in 11 = .ok (.goto 4, 3) := by decide +kernel
theorem dX9_in_14 : decode cX9_in 14 = .ok (.iconst 0, 1) := by decide +kernel
theorem dX9_in_15 : decode cX9_in 15 = .ok (.ireturn, 1) := by decide +kernel
theorem dX9_has_0 : decode cX9_has 0 = .ok (.iload_n 0, 1) := by decide +kernel
theorem dX9_has_1 : decode cX9_has 1 = .ok (.iload_n 1, 1) := by decide +kernel
theorem dX9_has_2 : decode cX9_has 2 = .ok (.ishr, 1) := by decide +kernel
theorem dX9_has_3 : decode cX9_has 3 = .ok (.iconst 1, 1) := by decide +kernel
theorem dX9_has_4 : decode cX9_has 4 = .ok (.iand, 1) := by decide +kernel
theorem dX9_has_5 : decode cX9_has 5 = .ok (.iconst 1, 1) := by decide +kernel
theorem dX9_has_6 : decode cX9_has 6 = .ok (.if_icmp .ne 7, 3) := by decide +kernel
theorem dX9_has_9 : decode cX9_has 9 = .ok (.iconst 1, 1) := by decide +kernel
theorem dX9_has_10 : decode cX9_has 10 = .ok (.goto 4, 3) := by decide +kernel
theorem dX9_has_13 : decode cX9_has 13 = .ok (.iconst 0, 1) := by decide +kernel
theorem dX9_has_14 : decode cX9_has 14 = .ok (.ireturn, 1) := by decide +kernel
theorem dX9_bits_0 : decode cX9_bits 0 = .ok (.iconst 0, 1) := by decide +kernel
theorem dX9_bits_1 : decode cX9_bits 1 = .ok (.istore_n 1, 1) := by decide +kernel
theorem dX9_bits_2 : decode cX9_bits 2 = .ok (.iconst 0, 1) := by decide +kernel
theorem dX9_bits_3 : decode cX9_bits 3 = .ok (.istore_n 2, 1) := by decide +kernel
theorem dX9_bits_4 : decode cX9_bits 4 = .ok (.iload_n 2, 1) := by decide +kernel
theorem dX9_bits_5 : decode cX9_bits 5 = .ok (.bipush 9, 2) := by decide +kernel
theorem dX9_bits_7 : decode cX9_bits 7 = .ok (.if_icmp .gt 17, 3) := by decide +kernel
theorem dX9_bits_10 : decode cX9_bits 10 = .ok (.iload_n 1, 1) := by decide +kernel
theorem dX9_bits_11 : decode cX9_bits 11 = .ok (.iload_n 0, 1) := by decide +kernel
theorem dX9_bits_12 : decode cX9_bits 12 = .ok (.iload_n 2, 1) := by decide +kernel
theorem dX9_bits_13 : decode cX9_bits 13 = .ok (.ishr, 1) := by decide +kernel
theorem dX9_bits_14 : decode cX9_bits 14 = .ok (.iconst 1, 1) := by decide +kernel
theorem dX9_bits_15 : decode cX9_bits 15 = .ok (.iand, 1) := by decide +kernel
theorem dX9_bits_16 : decode cX9_bits 16 = .ok (.iadd, 1) := by decide +kernel
theorem dX9_bits_17 : decode cX9_bits 17 = .ok (.istore_n 1, 1) := by decide +kernel
theorem dX9_bits_18 : decode cX9_bits 18 = .ok (.iinc 2 1, 3) := by decide +kernel
theorem dX9_bits_21 : decode cX9_bits 21 = .ok (.goto (-17), 3) := by decide +kernel
theorem dX9_bits_24 : decode cX9_bits 24 = .ok (.iload_n 1, 1) := by decide +kernel
theorem dX9_bits_25 : decode cX9_bits 25 = .ok (.ireturn, 1) := by decide +kernel
theorem dX9_isPerson_0 : decode cX9_isPerson 0 = .ok (.iload_n 1, 1) := by decide +kernel
theorem dX9_isPerson_1 : decode cX9_isPerson 1 = .ok (.iconst 0, 1) := by decide +kernel
theorem dX9_isPerson_2 : decode cX9_isPerson 2 = .ok (.aload_n 0, 1) := by decide +kernel
theorem dX9_isPerson_3 : decode cX9_isPerson 3 = .ok (.getfield 67, 3) := by decide +kernel
theorem dX9_isPerson_6 : decode cX9_isPerson 6 = .ok (.iconst 1, 1) := by decide +kernel
theorem dX9_isPerson_7 : decode cX9_isPerson 7 = .ok (.isub, 1) := by decide +kernel
theorem dX9_isPerson_8 : decode cX9_isPerson 8 = .ok (.invokestatic 70, 3) := by decide +kernel
theorem dX9_isPerson_11 : decode cX9_isPerson 11 = .ok (.ireturn, 1) := by decide +kernel
theorem dX9_isThing_0 : decode cX9_isThing 0 = .ok (.iload_n 1, 1) := by decide +kernel
theorem dX9_isThing_1 : decode cX9_isThing 1 = .ok (.iconst 0, 1) := by decide +kernel
theorem dX9_isThing_2 : decode cX9_isThing 2 = .ok (.aload_n 0, 1) := by decide +kernel
theorem dX9_isThing_3 : decode cX9_isThing 3 = .ok (.getfield 13, 3) := by decide +kernel
theorem dX9_isThing_6 : decode cX9_isThing 6 = .ok (.iconst 2, 1) := by decide +kernel
theorem dX9_isThing_7 : decode cX9_isThing 7 = .ok (.iaload, 1) := by decide +kernel
theorem dX9_isThing_8 : decode cX9_isThing 8 = .ok (.iconst 1, 1) := by decide +kernel
theorem dX9_isThing_9 : decode cX9_isThing 9 = .ok (.isub, 1) := by decide +kernel
theorem dX9_isThing_10 : decode cX9_isThing 10 = .ok (.invokestatic 70, 3) := by decide +kernel
theorem dX9_isThing_13 : decode cX9_isThing 13 = .ok (.ireturn, 1) := by decide +kernel
theorem dX9_write_0 : decode cX9_write 0 = .ok (.iload_n 1, 1) := by decide +kernel
theorem dX9_write_1 : decode cX9_write 1 = .ok (.bipush 32, 2) := by decide +kernel
theorem dX9_write_3 : decode cX9_write 3 = .ok (.bipush 126, 2) := by decide +kernel
theorem dX9_write_5 : decode cX9_write 5 = .ok (.invokestatic 70, 3) := by decide +kernel
theorem dX9_write_8 : decode cX9_write 8 = .ok (.ifCond .ne 5, 3) := by decide +kernel
theorem dX9_write_11 : decode cX9_write 11 = .ok (.iconst (-1), 1) := by decide +kernel
theorem dX9_write_12 : decode cX9_write 12 = .ok (.ireturn, 1) := by decide +kernel
theorem dX9_write_13 : decode cX9_write 13 = .ok (.aload_n 0, 1) := by decide +kernel
theorem dX9_write_14 : decode cX9_write 14 = .ok (.getfield 74, 3) := by decide +kernel
theorem dX9_write_17 : decode cX9_write 17 = .ok (.sipush 200, 3) := by decide +kernel
theorem dX9_write_20 : decode cX9_write 20 = .ok (.if_icmp .ne 6, 3) := by decide +kernel
theorem dX9_write_23 : decode cX9_write 23 = .ok (.bipush (-3), 2) := by decide +kernel
theorem dX9_write_25 : decode cX9_write 25 = .ok (.ireturn, 1) := by decide +kernel
theorem dX9_write_26 : decode cX9_write 26 = .ok (.aload_n 0, 1) := by decide +kernel
theorem dX9_write_27 : decode cX9_write 27 = .ok (.getfield 28, 3) := by decide +kernel
theorem dX9_write_30 : decode cX9_write 30 = .ok (.aload_n 0, 1) := by decide +kernel
theorem dX9_write_31 : decode cX9_write 31 = .ok (.getfield 74, 3) := by decide +kernel
theorem dX9_write_34 : decode cX9_write 34 = .ok (.iload_n 1, 1) := by decide +kernel
theorem dX9_write_35 : decode cX9_write 35 = .ok (.iastore, 1) := by decide +kernel
theorem dX9_write_36 : decode cX9_write 36 = .ok (.aload_n 0, 1) := by decide +kernel
theorem dX9_write_37 : decode cX9_write 37 = .ok (.dup, 1) := by decide +kernel
theorem dX9_write_38 : decode cX9_write 38 = .ok (.getfield 74, 3) := by decide +kernel
theorem dX9_write_41 : decode cX9_write 41 = .ok (.iconst 1, 1) := by decide +kernel
theorem dX9_write_42 : decode cX9_write 42 = .ok (.iadd, 1) := by decide +kernel
theorem dX9_write_43 : decode cX9_write 43 = .ok (.putfield 74, 3) := by decide +kernel
theorem dX9_write_46 : decode cX9_write 46 = .ok (.aload_n 0, 1) := by decide +kernel
theorem dX9_write_47 : decode cX9_write 47 = .ok (.getfield 74, 3) := by decide +kernel
theorem dX9_write_50 : decode cX9_write 50 = .ok (.ireturn, 1) := by decide +kernel
theorem dX9_wipe_0 : decode cX9_wipe 0 = .ok (.aload_n 0, 1) := by decide +kernel
theorem dX9_wipe_1 : decode cX9_wipe 1 = .ok (.getfield 74, 3) := by decide +kernel
theorem dX9_wipe_4 : decode cX9_wipe 4 = .ok (.istore_n 1, 1) := by decide +kernel
theorem dX9_wipe_5 : decode cX9_wipe 5 = .ok (.aload_n 0, 1) := by decide +kernel
theorem dX9_wipe_6 : decode cX9_wipe 6 = .ok (.iconst 0, 1) := by decide +kernel
theorem dX9_wipe_7 : decode cX9_wipe 7 = .ok (.putfield 74, 3) := by decide +kernel
theorem dX9_wipe_10 : decode cX9_wipe 10 = .ok (.iload_n 1, 1) := by decide +kernel
theorem dX9_wipe_11 : decode cX9_wipe 11 = .ok (.ireturn, 1) := by decide +kernel
theorem dX9_letterAt_0 : decode cX9_letterAt 0 = .ok (.iload_n 1, 1) := by decide +kernel
theorem dX9_letterAt_1 : decode cX9_letterAt 1 = .ok (.aload_n 0, 1) := by decide +kernel
theorem dX9_letterAt_2 : decode cX9_letterAt 2 = .ok (.getfield 74, 3) := by decide +kernel
theorem dX9_letterAt_5 : decode cX9_letterAt 5 = .ok (.if_icmp .ge 12, 3) := by decide +kernel
theorem dX9_letterAt_8 : decode cX9_letterAt 8 = .ok (.aload_n 0, 1) := by decide +kernel
theorem dX9_letterAt_9 : decode cX9_letterAt 9 = .ok (.getfield 28, 3) := by decide +kernel
theorem dX9_letterAt_12 : decode cX9_letterAt 12 = .ok (.iload_n 1, 1) := by decide +kernel
theorem dX9_letterAt_13 : decode cX9_letterAt 13 = .ok (.iaload, 1) := by decide +kernel
theorem dX9_letterAt_14 : decode cX9_letterAt 14 = .ok (.goto 4, 3) := by decide +kernel
theorem dX9_letterAt_17 : decode cX9_letterAt 17 = .ok (.iconst (-1), 1) := by decide +kernel
theorem dX9_letterAt_18 : decode cX9_letterAt 18 = .ok (.ireturn, 1) := by decide +kernel
theorem dX9_isFigure_0 : decode cX9_isFigure 0 = .ok (.iload_n 0, 1) := by decide +kernel
theorem dX9_isFigure_1 : decode cX9_isFigure 1 = .ok (.bipush 48, 2) := by decide +kernel
theorem dX9_isFigure_3 : decode cX9_isFigure 3 = .ok (.bipush 57, 2) := by decide +kernel
theorem dX9_isFigure_5 : decode cX9_isFigure 5 = .ok (.invokestatic 70, 3) := by decide +kernel
theorem dX9_isFigure_8 : decode cX9_isFigure 8 = .ok (.ireturn, 1) := by decide +kernel
theorem dX9_readNumbers_0 : decode cX9_readNumbers 0 = .ok (.iconst 0, 1) := by decide +kernel
theorem dX9_readNumbers_1 : decode cX9_readNumbers 1 = .ok (.istore_n 2, 1) := by decide +kernel
theorem dX9_readNumbers_2 : decode cX9_readNumbers 2 = .ok (.iload_n 2, 1) := by decide +kernel
theorem dX9_readNumbers_3 : decode cX9_readNumbers 3 = .ok (.iload_n 1, 1) := by decide +kernel
theorem dX9_readNumbers_4 : decode cX9_readNumbers 4 = .ok (.if_icmp .ge 140, 3) := by decide +kernel
theorem dX9_readNumbers_7 : decode cX9_readNumbers 7 = .ok (.aload_n 0, 1) := by decide +kernel
theorem dX9_readNumbers_8 : decode cX9_readNumbers 8 = .ok (.aload_n 0, 1) := by decide +kernel
theorem dX9_readNumbers_9 : decode cX9_readNumbers 9 = .ok (.getfield 77, 3) := by decide +kernel
theorem dX9_readNumbers_12 : decode cX9_readNumbers 12 = .ok (.invokevirtual 80, 3) := by decide +kernel
theorem dX9_readNumbers_15 : decode cX9_readNumbers 15 = .ok (.invokestatic 84, 3) := by decide +kernel
theorem dX9_readNumbers_18 : decode cX9_readNumbers 18 = .ok (.ifCond .ne 5, 3) := by decide +kernel
theorem dX9_readNumbers_21 : decode cX9_readNumbers 21 = .ok (.iconst 0, 1) := by decide +kernel
theorem dX9_readNumbers_22 : decode cX9_readNumbers 22 = .ok (.ireturn, 1) := by decide +kernel
theorem dX9_readNumbers_23 : decode cX9_readNumbers 23 = .ok (.aload_n 0, 1) := by decide +kernel
theorem dX9_readNumbers_24 : decode cX9_readNumbers 24 = .ok (.getfield 31, 3) := by decide +kernel
theorem dX9_readNumbers_27 : decode cX9_readNumbers 27 = .ok (.iload_n 2, 1) := by decide +kernel
theorem dX9_readNumbers_28 : decode cX9_readNumbers 28 = .ok (.aload_n 0, 1) := by decide +kernel
theorem dX9_readNumbers_29 : decode cX9_readNumbers 29 = .ok (.aload_n 0, 1) := by decide +kernel
theorem dX9_readNumbers_30 : decode cX9_readNumbers 30 = .ok (.getfield 77, 3) := by decide +kernel
theorem dX9_readNumbers_33 : decode cX9_readNumbers 33 = .ok (.invokevirtual 80, 3) := by decide +kernel
theorem dX9_readNumbers_36 : decode cX9_readNumbers 36 = .ok (.bipush 48, 2) := by decide +kernel
theorem dX9_readNumbers_38 : decode cX9_readNumbers 38 = .ok (.isub, 1) := by decide +kernel
theorem dX9_readNumbers_39 : decode cX9_readNumbers 39 = .ok (.iastore, 1) := by decide +kernel
theorem dX9_readNumbers_40 : decode cX9_readNumbers 40 = .ok (.aload_n 0, 1) := by decide +kernel
theorem dX9_readNumbers_41 : decode cX9_readNumbers 41 = .ok (.dup, 1) := by decide +kernel
theorem dX9_readNumbers_42 : decode cX9_readNumbers 42 = .ok (.getfield 77, 3) := by decide +kernel
theorem dX9_readNumbers_45 : decode cX9_readNumbers 45 = .ok (.iconst 1, 1) := by decide +kernel
theorem dX9_readNumbers_46 : decode cX9_readNumbers 46 = .ok (.iadd, 1) := by decide +kernel
theorem dX9_readNumbers_47 : decode cX9_readNumbers 47 = .ok (.putfield 77, 3) := by decide +kernel
theorem dX9_readNumbers_50 : decode cX9_readNumbers 50 = .ok (.aload_n 0, 1) := by decide +kernel
theorem dX9_readNumbers_51 : decode cX9_readNumbers 51 = .ok (.aload_n 0, 1) := by decide +kernel
theorem dX9_readNumbers_52 : decode cX9_readNumbers 52 = .ok (.getfield 77, 3) := by decide +kernel
theorem dX9_readNumbers_55 : decode cX9_readNumbers 55 = .ok (.invokevirtual 80, 3) := by decide +kernel
theorem dX9_readNumbers_58 : decode cX9_readNumbers 58 = .ok (.invokestatic 84, 3) := by decide +kernel
theorem dX9_readNumbers_61 : decode cX9_readNumbers 61 = .ok (.ifCond .eq 40, 3) := by decide +kernel
theorem dX9_readNumbers_64 : decode cX9_readNumbers 64 = .ok (.aload_n 0, 1) := by decide +kernel
theorem dX9_readNumbers_65 : decode cX9_readNumbers 65 = .ok (.getfield 31, 3) := by decide +kernel
theorem dX9_readNumbers_68 : decode cX9_readNumbers 68 = .ok (.iload_n 2, 1) := by decide +kernel
theorem dX9_readNumbers_69 : decode cX9_readNumbers 69 = .ok (.bipush 10, 2) := by decide +kernel
theorem dX9_readNumbers_71 : decode cX9_readNumbers 71 = .ok (.aload_n 0, 1) := by decide +kernel
theorem dX9_readNumbers_72 : decode cX9_readNumbers 72 = .ok (.getfield 31, 3) := by decide +kernel
theorem dX9_readNumbers_75 : decode cX9_readNumbers 75 = .ok (.iload_n 2, 1) := by decide +kernel
theorem dX9_readNumbers_76 : decode cX9_readNumbers 76 = .ok (.iaload, 1) := by decide +kernel
theorem dX9_readNumbers_77 : decode cX9_readNumbers 77 = .ok (.imul, 1) := by decide +kernel
theorem dX9_readNumbers_78 : decode cX9_readNumbers 78 = .ok (.aload_n 0, 1) := by decide +kernel
theorem dX9_readNumbers_79 : decode cX9_readNumbers 79 = .ok (.aload_n 0, 1) := by decide +kernel
theorem dX9_readNumbers_80 : decode cX9_readNumbers 80 = .ok (.getfield 77, 3) := by decide +kernel
theorem dX9_readNumbers_83 : decode cX9_readNumbers 83 = .ok (.invokevirtual 80, 3) := by decide +kernel
theorem dX9_readNumbers_86 : decode cX9_readNumbers 86 = .ok (.iadd, 1) := by decide +kernel
theorem dX9_readNumbers_87 : decode cX9_readNumbers 87 = .ok (.bipush 48, 2) := by decide +kernel
theorem dX9_readNumbers_89 : decode cX9_readNumbers 89 = .ok (.isub, 1) := by decide +kernel
theorem dX9_readNumbers_90 : decode cX9_readNumbers 90 = .ok (.iastore, 1) := by decide +kernel
theorem dX9_readNumbers_91 : decode cX9_readNumbers 91 = .ok (.aload_n 0, 1) := by decide +kernel
theorem dX9_readNumbers_92 : decode cX9_readNumbers 92 = .ok (.dup, 1) := by decide +kernel
theorem dX9_readNumbers_93 : decode cX9_readNumbers 93 = .ok (.getfield 77, 3) := by decide +kernel
theorem dX9_readNumbers_96 : decode cX9_readNumbers 96 = .ok (.iconst 1, 1) := by decide +kernel
theorem dX9_readNumbers_97 : decode cX9_readNumbers 97 = .ok (.iadd, 1) := by decide +kernel
theorem dX9_readNumbers_98 : decode cX9_readNumbers 98 = .ok (.putfield 77, 3) := by decide +kernel
theorem dX9_readNumbers_101 : decode cX9_readNumbers 101 = .ok (.aload_n 0, 1) := by decide +kernel
theorem dX9_readNumbers_102 : decode cX9_readNumbers 102 = .ok (.aload_n 0, 1) := by decide +kernel
theorem dX9_readNumbers_103 : decode cX9_readNumbers 103 = .ok (.getfield 77, 3) := by decide +kernel
theorem dX9_readNumbers_106 : decode cX9_readNumbers 106 = .ok (.invokevirtual 80, 3) := by decide +kernel
theorem dX9_readNumbers_109 : decode cX9_readNumbers 109 = .ok (.iload_n 2, 1) := by decide +kernel
theorem dX9_readNumbers_110 : decode cX9_readNumbers 110 = .ok (.iload_n 1, 1) := by decide +kernel
theorem dX9_readNumbers_111 : decode cX9_readNumbers 111 = .ok (.iconst 1, 1) := by decide +kernel
theorem dX9_readNumbers_112 : decode cX9_readNumbers 112 = .ok (.isub, 1) := by decide +kernel
theorem dX9_readNumbers_113 : decode cX9_readNumbers 113 = .ok (.if_icmp .ge 8, 3) := by decide +kernel
theorem dX9_readNumbers_116 : decode cX9_readNumbers 116 = .ok (.bipush 44, 2) := by decide +kernel
theorem dX9_readNumbers_118 : decode cX9_readNumbers 118 = .ok (.goto 5, 3) := by decide +kernel
theorem dX9_readNumbers_121 : decode cX9_readNumbers 121 = .ok (.bipush 59, 2) := by decide +kernel
theorem dX9_readNumbers_123 : decode cX9_readNumbers 123 = .ok (.if_icmp .eq 5, 3) := by decide +kernel
theorem dX9_readNumbers_126 : decode cX9_readNumbers 126 = .ok (.iconst 0, 1) := by decide +kernel
theorem dX9_readNumbers_127 : decode cX9_readNumbers 127 = .ok (.ireturn, 1) := by decide +kernel
theorem dX9_readNumbers_128 : decode cX9_readNumbers 128 = .ok (.aload_n 0, 1) := by decide +kernel
theorem dX9_readNumbers_129 : decode cX9_readNumbers 129 = .ok (.dup, 1) := by decide +kernel
theorem dX9_readNumbers_130 : decode cX9_readNumbers 130 = .ok (.getfield 77, 3) := by decide +kernel
theorem dX9_readNumbers_133 : decode cX9_readNumbers 133 = .ok (.iconst 1, 1) := by decide +kernel
theorem dX9_readNumbers_134 : decode cX9_readNumbers 134 = .ok (.iadd, 1) := by decide +kernel
theorem dX9_readNumbers_135 : decode cX9_readNumbers 135 = .ok (.putfield 77, 3) := by decide +kernel
theorem dX9_readNumbers_138 : decode cX9_readNumbers 138 = .ok (.iinc 2 1, 3) := by decide +kernel
theorem dX9_readNumbers_141 : decode cX9_readNumbers 141 = .ok (.goto (-139), 3) := by decide +kernel
theorem dX9_readNumbers_144 : decode cX9_readNumbers 144 = .ok (.iconst 1, 1) := by decide +kernel
theorem dX9_readNumbers_145 : decode cX9_readNumbers 145 = .ok (.ireturn, 1) := by decide +kernel
theorem dX9_isTold_0 : decode cX9_isTold 0 = .ok (.aload_n 0, 1) := by decide +kernel
theorem dX9_isTold_1 : decode cX9_isTold 1 = .ok (.getfield 31, 3) := by decide +kernel
theorem dX9_isTold_4 : decode cX9_isTold 4 = .ok (.iload_n 1, 1) := by decide +kernel
theorem dX9_isTold_5 : decode cX9_isTold 5 = .ok (.iaload, 1) := by decide +kernel
theorem dX9_isTold_6 : decode cX9_isTold 6 = .ok (.iload_n 2, 1) := by decide +kernel
theorem dX9_isTold_7 : decode cX9_isTold 7 = .ok (.iload_n 3, 1) := by decide +kernel
theorem dX9_isTold_8 : decode cX9_isTold 8 = .ok (.invokestatic 70, 3) := by decide +kernel
theorem dX9_isTold_11 : decode cX9_isTold 11 = .ok (.ireturn, 1) := by decide +kernel
theorem dX9_put_0 : decode cX9_put 0 = .ok (.iconst 0, 1) := by decide +kernel
theorem dX9_put_1 : decode cX9_put 1 = .ok (.istore 4, 2) := by decide +kernel
theorem dX9_put_3 : decode cX9_put 3 = .ok (.iload 4, 2) := by decide +kernel
theorem dX9_put_5 : decode cX9_put 5 = .ok (.iload_n 3, 1) := by decide +kernel
theorem dX9_put_6 : decode cX9_put 6 = .ok (.if_icmp .ge 19, 3) := by decide +kernel
theorem dX9_put_9 : decode cX9_put 9 = .ok (.aload_n 0, 1) := by decide +kernel
theorem dX9_put_10 : decode cX9_put 10 = .ok (.iload_n 1, 1) := by decide +kernel
theorem dX9_put_11 : decode cX9_put 11 = .ok (.iload 4, 2) := by decide +kernel
theorem dX9_put_13 : decode cX9_put 13 = .ok (.iadd, 1) := by decide +kernel
theorem dX9_put_14 : decode cX9_put 14 = .ok (.aload_n 2, 1) := by decide +kernel
theorem dX9_put_15 : decode cX9_put 15 = .ok (.iload 4, 2) := by decide +kernel
theorem dX9_put_17 : decode cX9_put 17 = .ok (.iaload, 1) := by decide +kernel
theorem dX9_put_18 : decode cX9_put 18 = .ok (.iastore, 1) := by decide +kernel
theorem dX9_put_19 : decode cX9_put 19 = .ok (.iinc 4 1, 3) := by decide +kernel
theorem dX9_put_22 : decode cX9_put 22 = .ok (.goto (-19), 3) := by decide +kernel
theorem dX9_put_25 : decode cX9_put 25 = .ok (.return_, 1) := by decide +kernel
theorem dX9_clearTold_0 : decode cX9_clearTold 0 = .ok (.aload_n 0, 1) := by decide +kernel
theorem dX9_clearTold_1 : decode cX9_clearTold 1 = .ok (.iconst 0, 1) := by decide +kernel
theorem dX9_clearTold_2 : decode cX9_clearTold 2 = .ok (.putfield 63, 3) := by decide +kernel
theorem dX9_clearTold_5 : decode cX9_clearTold 5 = .ok (.aload_n 0, 1) := by decide +kernel
theorem dX9_clearTold_6 : decode cX9_clearTold 6 = .ok (.iconst 2, 1) := by decide +kernel
theorem dX9_clearTold_7 : decode cX9_clearTold 7 = .ok (.putfield 88, 3) := by decide +kernel
theorem dX9_clearTold_10 : decode cX9_clearTold 10 = .ok (.iconst 0, 1) := by decide +kernel
theorem dX9_clearTold_11 : decode cX9_clearTold 11 = .ok (.istore_n 1, 1) := by decide +kernel
theorem dX9_clearTold_12 : decode cX9_clearTold 12 = .ok (.iload_n 1, 1) := by decide +kernel
theorem dX9_clearTold_13 : decode cX9_clearTold 13 = .ok (.bipush 46, 2) := by decide +kernel
theorem dX9_clearTold_15 : decode cX9_clearTold 15 = .ok (.if_icmp .ge 16, 3) := by decide +kernel
theorem dX9_clearTold_18 : decode cX9_clearTold 18 = .ok (.aload_n 0, 1) := by decide +kernel
theorem dX9_clearTold_19 : decode cX9_clearTold 19 = .ok (.getfield 37, 3) := by decide +kernel
theorem dX9_clearTold_22 : decode cX9_clearTold 22 = .ok (.iload_n 1, 1) := by decide +kernel
theorem dX9_clearTold_23 : decode cX9_clearTold 23 = .ok (.iconst 0, 1) := by decide +kernel
theorem dX9_clearTold_24 : decode cX9_clearTold 24 = .ok (.iastore, 1) := by decide +kernel
theorem dX9_clearTold_25 : decode cX9_clearTold 25 = .ok (.iinc 1 1, 3) := by decide +kernel
theorem dX9_clearTold_28 : decode cX9_clearTold 28 = .ok (.goto (-16), 3) := by decide +kernel
theorem dX9_clearTold_31 : decode cX9_clearTold 31 = .ok (.return_, 1) := by decide +kernel
theorem dX9_readPersonOf_0 : decode cX9_readPersonOf 0 = .ok (.aload_n 0, 1) := by decide +kernel
theorem dX9_readPersonOf_1 : decode cX9_readPersonOf 1 = .ok (.getfield 63, 3) := by decide +kernel
theorem dX9_readPersonOf_4 : decode cX9_readPersonOf 4 = .ok (.bipush 6, 2) := by decide +kernel
theorem dX9_readPersonOf_6 : decode cX9_readPersonOf 6 = .ok (.if_icmp .eq 43, 3) := by decide +kernel
theorem dX9_readPersonOf_9 : decode cX9_readPersonOf 9 = .ok (.aload_n 0, 1) := by decide +kernel
theorem dX9_readPersonOf_10 : decode cX9_readPersonOf 10 = .ok (.iconst 3, 1) := by decide +kernel
theorem dX9_readPersonOf_11 : decode cX9_readPersonOf 11 = .ok (.invokevirtual 91, 3) := by decide +kernel
theorem dX9_readPersonOf_14 : decode cX9_readPersonOf 14 = .ok (.ifCond .eq 35, 3) := by decide +kernel
theorem dX9_readPersonOf_17 : decode cX9_readPersonOf 17 = .ok (.aload_n 0, 1) := by decide +kernel
theorem dX9_readPersonOf_18 : decode cX9_readPersonOf 18 = .ok (.iconst 0, 1) := by decide +kernel
theorem dX9_readPersonOf_19 : decode cX9_readPersonOf 19 = .ok (.iconst 0, 1) := by decide +kernel
theorem dX9_readPersonOf_20 : decode cX9_readPersonOf 20 = .ok (.iconst 3, 1) := by decide +kernel
theorem dX9_readPersonOf_21 : decode cX9_readPersonOf 21 = .ok (.invokevirtual 94, 3) := by decide +kernel
theorem dX9_readPersonOf_24 : decode cX9_readPersonOf 24 = .ok (.ifCond .eq 25, 3) := by decide +kernel
theorem dX9_readPersonOf_27 : decode cX9_readPersonOf 27 = .ok (.aload_n 0, 1) := by decide +kernel
theorem dX9_readPersonOf_28 : decode cX9_readPersonOf 28 = .ok (.iconst 1, 1) := by decide +kernel
theorem dX9_readPersonOf_29 : decode cX9_readPersonOf 29 = .ok (.iconst 0, 1) := by decide +kernel
theorem dX9_readPersonOf_30 : decode cX9_readPersonOf 30 = .ok (.bipush 31, 2) := by decide +kernel
theorem dX9_readPersonOf_32 : decode cX9_readPersonOf 32 = .ok (.invokevirtual 94, 3) := by decide +kernel
theorem dX9_readPersonOf_35 : decode cX9_readPersonOf 35 = .ok (.ifCond .eq 14, 3) := by decide +kernel
theorem dX9_readPersonOf_38 : decode cX9_readPersonOf 38 = .ok (.aload_n 0, 1) := by decide +kernel
theorem dX9_readPersonOf_39 : decode cX9_readPersonOf 39 = .ok (.iconst 2, 1) := by decide +kernel
theorem dX9_readPersonOf_40 : decode cX9_readPersonOf 40 = .ok (.iconst 1, 1) := by decide +kernel
theorem dX9_readPersonOf_41 : decode cX9_readPersonOf 41 = .ok (.bipush 60, 2) := by decide +kernel
theorem dX9_readPersonOf_43 : decode cX9_readPersonOf 43 = .ok (.invokevirtual 94, 3) := by decide +kernel
theorem dX9_readPersonOf_46 : decode cX9_readPersonOf 46 = .ok (.ifCond .ne 5, 3) := by decide +kernel
theorem dX9_readPersonOf_49 : decode cX9_readPersonOf 49 = .ok (.iconst 0, 1) := by decide +kernel
theorem dX9_readPersonOf_50 : decode cX9_readPersonOf 50 = .ok (.ireturn, 1) := by decide +kernel
theorem dX9_readPersonOf_51 : decode cX9_readPersonOf 51 = .ok (.aload_n 0, 1) := by decide +kernel
theorem dX9_readPersonOf_52 : decode cX9_readPersonOf 52 = .ok (.aload_n 0, 1) := by decide +kernel
theorem dX9_readPersonOf_53 : decode cX9_readPersonOf 53 = .ok (.getfield 31, 3) := by decide +kernel
theorem dX9_readPersonOf_56 : decode cX9_readPersonOf 56 = .ok (.iconst 0, 1) := by decide +kernel
theorem dX9_readPersonOf_57 : decode cX9_readPersonOf 57 = .ok (.iaload, 1) := by decide +kernel
theorem dX9_readPersonOf_58 : decode cX9_readPersonOf 58 = .ok (.aload_n 0, 1) := by decide +kernel
theorem dX9_readPersonOf_59 : decode cX9_readPersonOf 59 = .ok (.getfield 31, 3) := by decide +kernel
theorem dX9_readPersonOf_62 : decode cX9_readPersonOf 62 = .ok (.iconst 1, 1) := by decide +kernel
theorem dX9_readPersonOf_63 : decode cX9_readPersonOf 63 = .ok (.iaload, 1) := by decide +kernel
theorem dX9_readPersonOf_64 : decode cX9_readPersonOf 64 = .ok (.aload_n 0, 1) := by decide +kernel
theorem dX9_readPersonOf_65 : decode cX9_readPersonOf 65 = .ok (.getfield 31, 3) := by decide +kernel
theorem dX9_readPersonOf_68 : decode cX9_readPersonOf 68 = .ok (.iconst 2, 1) := by decide +kernel
theorem dX9_readPersonOf_69 : decode cX9_readPersonOf 69 = .ok (.iaload, 1) := by decide +kernel
theorem dX9_readPersonOf_70 : decode cX9_readPersonOf 70 = .ok (.invokevirtual 52, 3) := by decide +kernel
theorem dX9_readPersonOf_73 : decode cX9_readPersonOf 73 = .ok (.iconst 1, 1) := by decide +kernel
theorem dX9_readPersonOf_74 : decode cX9_readPersonOf 74 = .ok (.ireturn, 1) := by decide +kernel
theorem dX9_readThingOf_0 : decode cX9_readThingOf 0 = .ok (.aload_n 0, 1) := by decide +kernel
theorem dX9_readThingOf_1 : decode cX9_readThingOf 1 = .ok (.getfield 37, 3) := by decide +kernel
theorem dX9_readThingOf_4 : decode cX9_readThingOf 4 = .ok (.iconst 2, 1) := by decide +kernel
theorem dX9_readThingOf_5 : decode cX9_readThingOf 5 = .ok (.iaload, 1) := by decide +kernel
theorem dX9_readThingOf_6 : decode cX9_readThingOf 6 = .ok (.bipush 9, 2) := by decide +kernel
theorem dX9_readThingOf_8 : decode cX9_readThingOf 8 = .ok (.if_icmp .eq 44, 3) := by decide +kernel
theorem dX9_readThingOf_11 : decode cX9_readThingOf 11 = .ok (.aload_n 0, 1) := by decide +kernel
theorem dX9_readThingOf_12 : decode cX9_readThingOf 12 = .ok (.iconst 3, 1) := by decide +kernel
theorem dX9_readThingOf_13 : decode cX9_readThingOf 13 = .ok (.invokevirtual 91, 3) := by decide +kernel
theorem dX9_readThingOf_16 : decode cX9_readThingOf 16 = .ok (.ifCond .eq 36, 3) := by decide +kernel
theorem dX9_readThingOf_19 : decode cX9_readThingOf 19 = .ok (.aload_n 0, 1) := by decide +kernel
theorem dX9_readThingOf_20 : decode cX9_readThingOf 20 = .ok (.iconst 0, 1) := by decide +kernel
theorem dX9_readThingOf_21 : decode cX9_readThingOf 21 = .ok (.iconst 0, 1) := by decide +kernel
theorem dX9_readThingOf_22 : decode cX9_readThingOf 22 = .ok (.bipush 60, 2) := by decide +kernel
theorem dX9_readThingOf_24 : decode cX9_readThingOf 24 = .ok (.invokevirtual 94, 3) := by decide +kernel
theorem dX9_readThingOf_27 : decode cX9_readThingOf 27 = .ok (.ifCond .eq 25, 3) := by decide +kernel
theorem dX9_readThingOf_30 : decode cX9_readThingOf 30 = .ok (.aload_n 0, 1) := by decide +kernel
theorem dX9_readThingOf_31 : decode cX9_readThingOf 31 = .ok (.iconst 1, 1) := by decide +kernel
theorem dX9_readThingOf_32 : decode cX9_readThingOf 32 = .ok (.iconst 1, 1) := by decide +kernel
theorem dX9_readThingOf_33 : decode cX9_readThingOf 33 = .ok (.bipush 31, 2) := by decide +kernel
theorem dX9_readThingOf_35 : decode cX9_readThingOf 35 = .ok (.invokevirtual 94, 3) := by decide +kernel
theorem dX9_readThingOf_38 : decode cX9_readThingOf 38 = .ok (.ifCond .eq 14, 3) := by decide +kernel
theorem dX9_readThingOf_41 : decode cX9_readThingOf 41 = .ok (.aload_n 0, 1) := by decide +kernel
theorem dX9_readThingOf_42 : decode cX9_readThingOf 42 = .ok (.iconst 2, 1) := by decide +kernel
theorem dX9_readThingOf_43 : decode cX9_readThingOf 43 = .ok (.iconst 1, 1) := by decide +kernel
theorem dX9_readThingOf_44 : decode cX9_readThingOf 44 = .ok (.bipush 9, 2) := by decide +kernel
theorem dX9_readThingOf_46 : decode cX9_readThingOf 46 = .ok (.invokevirtual 94, 3) := by decide +kernel
theorem dX9_readThingOf_49 : decode cX9_readThingOf 49 = .ok (.ifCond .ne 5, 3) := by decide +kernel
theorem dX9_readThingOf_52 : decode cX9_readThingOf 52 = .ok (.iconst 0, 1) := by decide +kernel
theorem dX9_readThingOf_53 : decode cX9_readThingOf 53 = .ok (.ireturn, 1) := by decide +kernel
theorem dX9_readThingOf_54 : decode cX9_readThingOf 54 = .ok (.aload_n 0, 1) := by decide +kernel
theorem dX9_readThingOf_55 : decode cX9_readThingOf 55 = .ok (.getfield 37, 3) := by decide +kernel
theorem dX9_readThingOf_58 : decode cX9_readThingOf 58 = .ok (.aload_n 0, 1) := by decide +kernel
theorem dX9_readThingOf_59 : decode cX9_readThingOf 59 = .ok (.getfield 31, 3) := by decide +kernel
theorem dX9_readThingOf_62 : decode cX9_readThingOf 62 = .ok (.iconst 0, 1) := by decide +kernel
theorem dX9_readThingOf_63 : decode cX9_readThingOf 63 = .ok (.iaload, 1) := by decide +kernel
theorem dX9_readThingOf_64 : decode cX9_readThingOf 64 = .ok (.aload_n 0, 1) := by decide +kernel
theorem dX9_readThingOf_65 : decode cX9_readThingOf 65 = .ok (.getfield 31, 3) := by decide +kernel
theorem dX9_readThingOf_68 : decode cX9_readThingOf 68 = .ok (.iconst 1, 1) := by decide +kernel
theorem dX9_readThingOf_69 : decode cX9_readThingOf 69 = .ok (.iaload, 1) := by decide +kernel
theorem dX9_readThingOf_70 : decode cX9_readThingOf 70 = .ok (.aload_n 0, 1) := by decide +kernel
theorem dX9_readThingOf_71 : decode cX9_readThingOf 71 = .ok (.getfield 31, 3) := by decide +kernel
theorem dX9_readThingOf_74 : decode cX9_readThingOf 74 = .ok (.iconst 2, 1) := by decide +kernel
theorem dX9_readThingOf_75 : decode cX9_readThingOf 75 = .ok (.iaload, 1) := by decide +kernel
theorem dX9_readThingOf_76 : decode cX9_readThingOf 76 = .ok (.invokestatic 56, 3) := by decide +kernel
theorem dX9_readThingOf_79 : decode cX9_readThingOf 79 = .ok (.iconst 1, 1) := by decide +kernel
theorem dX9_readThingOf_80 : decode cX9_readThingOf 80 = .ok (.ireturn, 1) := by decide +kernel
theorem dX9_readFadesOf_0 : decode cX9_readFadesOf 0 = .ok (.aload_n 0, 1) := by decide +kernel
theorem dX9_readFadesOf_1 : decode cX9_readFadesOf 1 = .ok (.iconst 1, 1) := by decide +kernel
theorem dX9_readFadesOf_2 : decode cX9_readFadesOf 2 = .ok (.invokevirtual 91, 3) := by decide +kernel
theorem dX9_readFadesOf_5 : decode cX9_readFadesOf 5 = .ok (.ifCond .eq 18, 3) := by decide +kernel
theorem dX9_readFadesOf_8 : decode cX9_readFadesOf 8 = .ok (.aload_n 0, 1) := by decide +kernel
theorem dX9_readFadesOf_9 : decode cX9_readFadesOf 9 = .ok (.iconst 0, 1) := by decide +kernel
theorem dX9_readFadesOf_10 : decode cX9_readFadesOf 10 = .ok (.iconst 1, 1) := by decide +kernel
theorem dX9_readFadesOf_11 : decode cX9_readFadesOf 11 = .ok (.bipush 9, 2) := by decide +kernel
theorem dX9_readFadesOf_13 : decode cX9_readFadesOf 13 = .ok (.invokevirtual 94, 3) := by decide +kernel
theorem dX9_readFadesOf_16 : decode cX9_readFadesOf 16 = .ok (.ifCond .eq 7, 3) := by decide +kernel
theorem dX9_readFadesOf_19 : decode cX9_readFadesOf 19 = .ok (.iconst 1, 1) := by decide +kernel
theorem dX9_readFadesOf_20 : decode cX9_readFadesOf 20 = .ok (.goto 4, 3) := by decide +kernel
theorem dX9_readFadesOf_23 : decode cX9_readFadesOf 23 = .ok (.iconst 0, 1) := by decide +kernel
theorem dX9_readFadesOf_24 : decode cX9_readFadesOf 24 = .ok (.istore_n 1, 1) := by decide +kernel
theorem dX9_readFadesOf_25 : decode cX9_readFadesOf 25 = .ok (.aload_n 0, 1) := by decide +kernel
theorem dX9_readFadesOf_26 : decode cX9_readFadesOf 26 = .ok (.iload_n 1, 1) := by decide +kernel
theorem dX9_readFadesOf_27 : decode cX9_readFadesOf 27 = .ok (.ifCond .eq 12, 3) := by decide +kernel
theorem dX9_readFadesOf_30 : decode cX9_readFadesOf 30 = .ok (.aload_n 0, 1) := by decide +kernel
theorem dX9_readFadesOf_31 : decode cX9_readFadesOf 31 = .ok (.getfield 31, 3) := by decide +kernel
theorem dX9_readFadesOf_34 : decode cX9_readFadesOf 34 = .ok (.iconst 0, 1) := by decide +kernel
theorem dX9_readFadesOf_35 : decode cX9_readFadesOf 35 = .ok (.iaload, 1) := by decide +kernel
theorem dX9_readFadesOf_36 : decode cX9_readFadesOf 36 = .ok (.goto 7, 3) := by decide +kernel
theorem dX9_readFadesOf_39 : decode cX9_readFadesOf 39 = .ok (.aload_n 0, 1) := by decide +kernel
theorem dX9_readFadesOf_40 : decode cX9_readFadesOf 40 = .ok (.getfield 88, 3) := by decide +kernel
theorem dX9_readFadesOf_43 : decode cX9_readFadesOf 43 = .ok (.putfield 88, 3) := by decide +kernel
theorem dX9_readFadesOf_46 : decode cX9_readFadesOf 46 = .ok (.iload_n 1, 1) := by decide +kernel
theorem dX9_readFadesOf_47 : decode cX9_readFadesOf 47 = .ok (.ireturn, 1) := by decide +kernel
theorem dX9_readItem_0 : decode cX9_readItem 0 = .ok (.aload_n 0, 1) := by decide +kernel
theorem dX9_readItem_1 : decode cX9_readItem 1 = .ok (.aload_n 0, 1) := by decide +kernel
theorem dX9_readItem_2 : decode cX9_readItem 2 = .ok (.getfield 77, 3) := by decide +kernel
theorem dX9_readItem_5 : decode cX9_readItem 5 = .ok (.invokevirtual 80, 3) := by decide +kernel
theorem dX9_readItem_8 : decode cX9_readItem 8 = .ok (.istore_n 1, 1) := by decide +kernel
theorem dX9_readItem_9 : decode cX9_readItem 9 = .ok (.aload_n 0, 1) := by decide +kernel
theorem dX9_readItem_10 : decode cX9_readItem 10 = .ok (.dup, 1) := by decide +kernel
theorem dX9_readItem_11 : decode cX9_readItem 11 = .ok (.getfield 77, 3) := by decide +kernel
theorem dX9_readItem_14 : decode cX9_readItem 14 = .ok (.iconst 1, 1) := by decide +kernel
theorem dX9_readItem_15 : decode cX9_readItem 15 = .ok (.iadd, 1) := by decide +kernel
theorem dX9_readItem_16 : decode cX9_readItem 16 = .ok (.putfield 77, 3) := by decide +kernel
theorem dX9_readItem_19 : decode cX9_readItem 19 = .ok (.iload_n 1, 1) := by decide +kernel
theorem dX9_readItem_20 : decode cX9_readItem 20 = .ok (.lookupswitch 51 #[(102, 46), (112, 36), (116, 41)], 36) := by decide +kernel
theorem dX9_readItem_56 : decode cX9_readItem 56 = .ok (.aload_n 0, 1) := by decide +kernel
theorem dX9_readItem_57 : decode cX9_readItem 57 = .ok (.invokevirtual 97, 3) := by decide +kernel
theorem dX9_readItem_60 : decode cX9_readItem 60 = .ok (.ireturn, 1) := by decide +kernel
theorem dX9_readItem_61 : decode cX9_readItem 61 = .ok (.aload_n 0, 1) := by decide +kernel
theorem dX9_readItem_62 : decode cX9_readItem 62 = .ok (.invokevirtual 101, 3) := by decide +kernel
theorem dX9_readItem_65 : decode cX9_readItem 65 = .ok (.ireturn, 1) := by decide +kernel
theorem dX9_readItem_66 : decode cX9_readItem 66 = .ok (.aload_n 0, 1) := by decide +kernel
theorem dX9_readItem_67 : decode cX9_readItem 67 = .ok (.invokevirtual 104, 3) := by decide +kernel
theorem dX9_readItem_70 : decode cX9_readItem 70 = .ok (.ireturn, 1) := by decide +kernel
theorem dX9_readItem_71 : decode cX9_readItem 71 = .ok (.iconst 0, 1) := by decide +kernel
theorem dX9_readItem_72 : decode cX9_readItem 72 = .ok (.ireturn, 1) := by decide +kernel
theorem dX9_fault_0 : decode cX9_fault 0 = .ok (.aload_n 0, 1) := by decide +kernel
theorem dX9_fault_1 : decode cX9_fault 1 = .ok (.iconst 0, 1) := by decide +kernel
theorem dX9_fault_2 : decode cX9_fault 2 = .ok (.putfield 77, 3) := by decide +kernel
theorem dX9_fault_5 : decode cX9_fault 5 = .ok (.aload_n 0, 1) := by decide +kernel
theorem dX9_fault_6 : decode cX9_fault 6 = .ok (.invokevirtual 49, 3) := by decide +kernel
theorem dX9_fault_9 : decode cX9_fault 9 = .ok (.aload_n 0, 1) := by decide +kernel
theorem dX9_fault_10 : decode cX9_fault 10 = .ok (.getfield 77, 3) := by decide +kernel
theorem dX9_fault_13 : decode cX9_fault 13 = .ok (.aload_n 0, 1) := by decide +kernel
theorem dX9_fault_14 : decode cX9_fault 14 = .ok (.getfield 74, 3) := by decide +kernel
theorem dX9_fault_17 : decode cX9_fault 17 = .ok (.if_icmp .ge 20, 3) := by decide +kernel
theorem dX9_fault_20 : decode cX9_fault 20 = .ok (.aload_n 0, 1) := by decide +kernel
theorem dX9_fault_21 : decode cX9_fault 21 = .ok (.getfield 77, 3) := by decide +kernel
theorem dX9_fault_24 : decode cX9_fault 24 = .ok (.istore_n 1, 1) := by decide +kernel
theorem dX9_fault_25 : decode cX9_fault 25 = .ok (.aload_n 0, 1) := by decide +kernel
theorem dX9_fault_26 : decode cX9_fault 26 = .ok (.invokevirtual 107, 3) := by decide +kernel
theorem dX9_fault_29 : decode cX9_fault 29 = .ok (.ifCond .ne 5, 3) := by decide +kernel
theorem dX9_fault_32 : decode cX9_fault 32 = .ok (.iload_n 1, 1) := by decide +kernel
theorem dX9_fault_33 : decode cX9_fault 33 = .ok (.ireturn, 1) := by decide +kernel
theorem dX9_fault_34 : decode cX9_fault 34 = .ok (.goto (-25), 3) := by decide +kernel
theorem dX9_fault_37 : decode cX9_fault 37 = .ok (.bipush (-4), 2) := by decide +kernel
theorem dX9_fault_39 : decode cX9_fault 39 = .ok (.ireturn, 1) := by decide +kernel
theorem dX9_lay_0 : decode cX9_lay 0 = .ok (.aload_n 0, 1) := by decide +kernel
theorem dX9_lay_1 : decode cX9_lay 1 = .ok (.invokevirtual 110, 3) := by decide +kernel
theorem dX9_lay_4 : decode cX9_lay 4 = .ok (.bipush (-4), 2) := by decide +kernel
theorem dX9_lay_6 : decode cX9_lay 6 = .ok (.if_icmp .ne 10, 3) := by decide +kernel
theorem dX9_lay_9 : decode cX9_lay 9 = .ok (.aload_n 0, 1) := by decide +kernel
theorem dX9_lay_10 : decode cX9_lay 10 = .ok (.getfield 63, 3) := by decide +kernel
theorem dX9_lay_13 : decode cX9_lay 13 = .ok (.ifCond .ne 6, 3) := by decide +kernel
theorem dX9_lay_16 : decode cX9_lay 16 = .ok (.bipush (-2), 2) := by decide +kernel
theorem dX9_lay_18 : decode cX9_lay 18 = .ok (.ireturn, 1) := by decide +kernel
theorem dX9_lay_19 : decode cX9_lay 19 = .ok (.aload_n 0, 1) := by decide +kernel
theorem dX9_lay_20 : decode cX9_lay 20 = .ok (.invokevirtual 60, 3) := by decide +kernel
theorem dX9_lay_23 : decode cX9_lay 23 = .ok (.aload_n 0, 1) := by decide +kernel
theorem dX9_lay_24 : decode cX9_lay 24 = .ok (.getfield 67, 3) := by decide +kernel
theorem dX9_lay_27 : decode cX9_lay 27 = .ok (.ireturn, 1) := by decide +kernel
theorem dX9_settles_0 : decode cX9_settles 0 = .ok (.aload_n 0, 1) := by decide +kernel
theorem dX9_settles_1 : decode cX9_settles 1 = .ok (.aload_n 0, 1) := by decide +kernel
theorem dX9_settles_2 : decode cX9_settles 2 = .ok (.getfield 63, 3) := by decide +kernel
theorem dX9_settles_5 : decode cX9_settles 5 = .ok (.putfield 67, 3) := by decide +kernel
theorem dX9_settles_8 : decode cX9_settles 8 = .ok (.aload_n 0, 1) := by decide +kernel
theorem dX9_settles_9 : decode cX9_settles 9 = .ok (.aload_n 0, 1) := by decide +kernel
theorem dX9_settles_10 : decode cX9_settles 10 = .ok (.getfield 88, 3) := by decide +kernel
theorem dX9_settles_13 : decode cX9_settles 13 = .ok (.putfield 114, 3) := by decide +kernel
theorem dX9_settles_16 : decode cX9_settles 16 = .ok (.aload_n 0, 1) := by decide +kernel
theorem dX9_settles_17 : decode cX9_settles 17 = .ok (.getfield 7, 3) := by decide +kernel
theorem dX9_settles_20 : decode cX9_settles 20 = .ok (.iconst 0, 1) := by decide +kernel
theorem dX9_settles_21 : decode cX9_settles 21 = .ok (.aload_n 0, 1) := by decide +kernel
theorem dX9_settles_22 : decode cX9_settles 22 = .ok (.getfield 34, 3) := by decide +kernel
theorem dX9_settles_25 : decode cX9_settles 25 = .ok (.bipush 18, 2) := by decide +kernel
theorem dX9_settles_27 : decode cX9_settles 27 = .ok (.invokestatic 117, 3) := by decide +kernel
theorem dX9_settles_30 : decode cX9_settles 30 = .ok (.iconst 0, 1) := by decide +kernel
theorem dX9_settles_31 : decode cX9_settles 31 = .ok (.istore_n 1, 1) := by decide +kernel
theorem dX9_settles_32 : decode cX9_settles 32 = .ok (.iload_n 1, 1) := by decide +kernel
theorem dX9_settles_33 : decode cX9_settles 33 = .ok (.bipush 6, 2) := by decide +kernel
theorem dX9_settles_35 : decode cX9_settles 35 = .ok (.if_icmp .ge 18, 3) := by decide +kernel
theorem dX9_settles_38 : decode cX9_settles 38 = .ok (.aload_n 0, 1) := by decide +kernel
theorem dX9_settles_39 : decode cX9_settles 39 = .ok (.getfield 37, 3) := by decide +kernel
theorem dX9_settles_42 : decode cX9_settles 42 = .ok (.iconst 4, 1) := by decide +kernel
theorem dX9_settles_43 : decode cX9_settles 43 = .ok (.iload_n 1, 1) := by decide +kernel
theorem dX9_settles_44 : decode cX9_settles 44 = .ok (.iadd, 1) := by decide +kernel
theorem dX9_settles_45 : decode cX9_settles 45 = .ok (.iload_n 1, 1) := by decide +kernel
theorem dX9_settles_46 : decode cX9_settles 46 = .ok (.iastore, 1) := by decide +kernel
theorem dX9_settles_47 : decode cX9_settles 47 = .ok (.iinc 1 1, 3) := by decide +kernel
theorem dX9_settles_50 : decode cX9_settles 50 = .ok (.goto (-18), 3) := by decide +kernel
theorem dX9_settles_53 : decode cX9_settles 53 = .ok (.aload_n 0, 1) := by decide +kernel
theorem dX9_settles_54 : decode cX9_settles 54 = .ok (.getfield 13, 3) := by decide +kernel
theorem dX9_settles_57 : decode cX9_settles 57 = .ok (.iconst 0, 1) := by decide +kernel
theorem dX9_settles_58 : decode cX9_settles 58 = .ok (.aload_n 0, 1) := by decide +kernel
theorem dX9_settles_59 : decode cX9_settles 59 = .ok (.getfield 37, 3) := by decide +kernel
theorem dX9_settles_62 : decode cX9_settles 62 = .ok (.bipush 46, 2) := by decide +kernel
theorem dX9_settles_64 : decode cX9_settles 64 = .ok (.invokestatic 117, 3) := by decide +kernel
theorem dX9_settles_67 : decode cX9_settles 67 = .ok (.aload_n 0, 1) := by decide +kernel
theorem dX9_settles_68 : decode cX9_settles 68 = .ok (.getfield 16, 3) := by decide +kernel
theorem dX9_settles_71 : decode cX9_settles 71 = .ok (.iconst 0, 1) := by decide +kernel
theorem dX9_settles_72 : decode cX9_settles 72 = .ok (.aload_n 0, 1) := by decide +kernel
theorem dX9_settles_73 : decode cX9_settles 73 = .ok (.getfield 37, 3) := by decide +kernel
theorem dX9_settles_76 : decode cX9_settles 76 = .ok (.bipush 46, 2) := by decide +kernel
theorem dX9_settles_78 : decode cX9_settles 78 = .ok (.invokestatic 117, 3) := by decide +kernel
theorem dX9_settles_81 : decode cX9_settles 81 = .ok (.aload_n 0, 1) := by decide +kernel
theorem dX9_settles_82 : decode cX9_settles 82 = .ok (.iconst 0, 1) := by decide +kernel
theorem dX9_settles_83 : decode cX9_settles 83 = .ok (.putfield 121, 3) := by decide +kernel
theorem dX9_settles_86 : decode cX9_settles 86 = .ok (.aload_n 0, 1) := by decide +kernel
theorem dX9_settles_87 : decode cX9_settles 87 = .ok (.iconst 0, 1) := by decide +kernel
theorem dX9_settles_88 : decode cX9_settles 88 = .ok (.putfield 124, 3) := by decide +kernel
theorem dX9_settles_91 : decode cX9_settles 91 = .ok (.aload_n 0, 1) := by decide +kernel
theorem dX9_settles_92 : decode cX9_settles 92 = .ok (.iconst 0, 1) := by decide +kernel
theorem dX9_settles_93 : decode cX9_settles 93 = .ok (.putfield 127, 3) := by decide +kernel
theorem dX9_settles_96 : decode cX9_settles 96 = .ok (.return_, 1) := by decide +kernel
theorem dX9_from_0 : decode cX9_from 0 = .ok (.aload_n 0, 1) := by decide +kernel
theorem dX9_from_1 : decode cX9_from 1 = .ok (.getfield 40, 3) := by decide +kernel
theorem dX9_from_4 : decode cX9_from 4 = .ok (.iconst 0, 1) := by decide +kernel
theorem dX9_from_5 : decode cX9_from 5 = .ok (.aload_n 1, 1) := by decide +kernel
theorem dX9_from_6 : decode cX9_from 6 = .ok (.bipush 46, 2) := by decide +kernel
theorem dX9_from_8 : decode cX9_from 8 = .ok (.invokestatic 117, 3) := by decide +kernel
theorem dX9_from_11 : decode cX9_from 11 = .ok (.aload_n 0, 1) := by decide +kernel
theorem dX9_from_12 : decode cX9_from 12 = .ok (.iconst 0, 1) := by decide +kernel
theorem dX9_from_13 : decode cX9_from 13 = .ok (.putfield 130, 3) := by decide +kernel
theorem dX9_from_16 : decode cX9_from 16 = .ok (.return_, 1) := by decide +kernel
theorem dX9_comesBy_0 : decode cX9_comesBy 0 = .ok (.iload_n 3, 1) := by decide +kernel
theorem dX9_comesBy_1 : decode cX9_comesBy 1 = .ok (.iload_n 2, 1) := by decide +kernel
theorem dX9_comesBy_2 : decode cX9_comesBy 2 = .ok (.aload_n 0, 1) := by decide +kernel
theorem dX9_comesBy_3 : decode cX9_comesBy 3 = .ok (.getfield 7, 3) := by decide +kernel
theorem dX9_comesBy_6 : decode cX9_comesBy 6 = .ok (.iconst 3, 1) := by decide +kernel
theorem dX9_comesBy_7 : decode cX9_comesBy 7 = .ok (.iload_n 1, 1) := by decide +kernel
theorem dX9_comesBy_8 : decode cX9_comesBy 8 = .ok (.imul, 1) := by decide +kernel
theorem dX9_comesBy_9 : decode cX9_comesBy 9 = .ok (.iconst 1, 1) := by decide +kernel
theorem dX9_comesBy_10 : decode cX9_comesBy 10 = .ok (.iadd, 1) := by decide +kernel
theorem dX9_comesBy_11 : decode cX9_comesBy 11 = .ok (.iaload, 1) := by decide +kernel
theorem dX9_comesBy_12 : decode cX9_comesBy 12 = .ok (.iand, 1) := by decide +kernel
theorem dX9_comesBy_13 : decode cX9_comesBy 13 = .ok (.invokestatic 133, 3) := by decide +kernel
theorem dX9_comesBy_16 : decode cX9_comesBy 16 = .ok (.imul, 1) := by decide +kernel
theorem dX9_comesBy_17 : decode cX9_comesBy 17 = .ok (.istore 5, 2) := by decide +kernel
theorem dX9_comesBy_19 : decode cX9_comesBy 19 = .ok (.aload_n 0, 1) := by decide +kernel
theorem dX9_comesBy_20 : decode cX9_comesBy 20 = .ok (.getfield 7, 3) := by decide +kernel
theorem dX9_comesBy_23 : decode cX9_comesBy 23 = .ok (.iconst 3, 1) := by decide +kernel
theorem dX9_comesBy_24 : decode cX9_comesBy 24 = .ok (.iload_n 1, 1) := by decide +kernel
theorem dX9_comesBy_25 : decode cX9_comesBy 25 = .ok (.imul, 1) := by decide +kernel
theorem dX9_comesBy_26 : decode cX9_comesBy 26 = .ok (.iaload, 1) := by decide +kernel
theorem dX9_comesBy_27 : decode cX9_comesBy 27 = .ok (.tableswitch 67 1 3 #[25, 30, 48], 25) := by decide +kernel
theorem dX9_comesBy_52 : decode cX9_comesBy 52 = .ok (.iload 5, 2) := by decide +kernel
theorem dX9_comesBy_54 : decode cX9_comesBy 54 = .ok (.iconst 2, 1) := by decide +kernel
theorem dX9_comesBy_55 : decode cX9_comesBy 55 = .ok (.idiv, 1) := by decide +kernel
theorem dX9_comesBy_56 : decode cX9_comesBy 56 = .ok (.ireturn, 1) := by decide +kernel
theorem dX9_comesBy_57 : decode cX9_comesBy 57 = .ok (.iload 5, 2) := by decide +kernel
theorem dX9_comesBy_59 : decode cX9_comesBy 59 = .ok (.iload_n 2, 1) := by decide +kernel
theorem dX9_comesBy_60 : decode cX9_comesBy 60 = .ok (.iload 4, 2) := by decide +kernel
theorem dX9_comesBy_62 : decode cX9_comesBy 62 = .ok (.iconst (-1), 1) := by decide +kernel
theorem dX9_comesBy_63 : decode cX9_comesBy 63 = .ok (.ixor, 1) := by decide +kernel
theorem dX9_comesBy_64 : decode cX9_comesBy 64 = .ok (.iand, 1) := by decide +kernel
theorem dX9_comesBy_65 : decode cX9_comesBy 65 = .ok (.ifCond .eq 7, 3) := by decide +kernel
theorem dX9_comesBy_68 : decode cX9_comesBy 68 = .ok (.iconst 2, 1) := by decide +kernel
theorem dX9_comesBy_69 : decode cX9_comesBy 69 = .ok (.goto 4, 3) := by decide +kernel
theorem dX9_comesBy_72 : decode cX9_comesBy 72 = .ok (.iconst 0, 1) := by decide +kernel
theorem dX9_comesBy_73 : decode cX9_comesBy 73 = .ok (.iadd, 1) := by decide +kernel
theorem dX9_comesBy_74 : decode cX9_comesBy 74 = .ok (.ireturn, 1) := by decide +kernel
theorem dX9_comesBy_75 : decode cX9_comesBy 75 = .ok (.aload_n 0, 1) := by decide +kernel
theorem dX9_comesBy_76 : decode cX9_comesBy 76 = .ok (.getfield 40, 3) := by decide +kernel
theorem dX9_comesBy_79 : decode cX9_comesBy 79 = .ok (.iconst 0, 1) := by decide +kernel
theorem dX9_comesBy_80 : decode cX9_comesBy 80 = .ok (.iaload, 1) := by decide +kernel
theorem dX9_comesBy_81 : decode cX9_comesBy 81 = .ok (.iconst 3, 1) := by decide +kernel
theorem dX9_comesBy_82 : decode cX9_comesBy 82 = .ok (.irem, 1) := by decide +kernel
theorem dX9_comesBy_83 : decode cX9_comesBy 83 = .ok (.iconst 2, 1) := by decide +kernel
theorem dX9_comesBy_84 : decode cX9_comesBy 84 = .ok (.if_icmp .ne 7, 3) := by decide +kernel
theorem dX9_comesBy_87 : decode cX9_comesBy 87 = .ok (.iconst 0, 1) := by decide +kernel
theorem dX9_comesBy_88 : decode cX9_comesBy 88 = .ok (.goto 5, 3) := by decide +kernel
theorem dX9_comesBy_91 : decode cX9_comesBy 91 = .ok (.iload 5, 2) := by decide +kernel
theorem dX9_comesBy_93 : decode cX9_comesBy 93 = .ok (.ireturn, 1) := by decide +kernel
theorem dX9_comesBy_94 : decode cX9_comesBy 94 = .ok (.iload 5, 2) := by decide +kernel
theorem dX9_comesBy_96 : decode cX9_comesBy 96 = .ok (.ireturn, 1) := by decide +kernel
theorem dX9_comes_0 : decode cX9_comes 0 = .ok (.iload_n 2, 1) := by decide +kernel
theorem dX9_comes_1 : decode cX9_comes 1 = .ok (.aload_n 0, 1) := by decide +kernel
theorem dX9_comes_2 : decode cX9_comes 2 = .ok (.getfield 114, 3) := by decide +kernel
theorem dX9_comes_5 : decode cX9_comes 5 = .ok (.idiv, 1) := by decide +kernel
theorem dX9_comes_6 : decode cX9_comes 6 = .ok (.istore_n 3, 1) := by decide +kernel
theorem dX9_comes_7 : decode cX9_comes 7 = .ok (.iconst 0, 1) := by decide +kernel
theorem dX9_comes_8 : decode cX9_comes 8 = .ok (.istore 4, 2) := by decide +kernel
theorem dX9_comes_10 : decode cX9_comes 10 = .ok (.iconst 0, 1) := by decide +kernel
theorem dX9_comes_11 : decode cX9_comes 11 = .ok (.istore 5, 2) := by decide +kernel
theorem dX9_comes_13 : decode cX9_comes 13 = .ok (.iload 5, 2) := by decide +kernel
theorem dX9_comes_15 : decode cX9_comes 15 = .ok (.aload_n 0, 1) := by decide +kernel
theorem dX9_comes_16 : decode cX9_comes 16 = .ok (.getfield 40, 3) := by decide +kernel
theorem dX9_comes_19 : decode cX9_comes 19 = .ok (.iconst 2, 1) := by decide +kernel
theorem dX9_comes_20 : decode cX9_comes 20 = .ok (.iaload, 1) := by decide +kernel
theorem dX9_comes_21 : decode cX9_comes 21 = .ok (.if_icmp .ge 90, 3) := by decide +kernel
theorem dX9_comes_24 : decode cX9_comes 24 = .ok (.bipush 16, 2) := by decide +kernel
theorem dX9_comes_26 : decode cX9_comes 26 = .ok (.iconst 3, 1) := by decide +kernel
theorem dX9_comes_27 : decode cX9_comes 27 = .ok (.iload 5, 2) := by decide +kernel
theorem dX9_comes_29 : decode cX9_comes 29 = .ok (.imul, 1) := by decide +kernel
theorem dX9_comes_30 : decode cX9_comes 30 = .ok (.iadd, 1) := by decide +kernel
theorem dX9_comes_31 : decode cX9_comes 31 = .ok (.istore 6, 2) := by decide +kernel
theorem dX9_comes_33 : decode cX9_comes 33 = .ok (.aload_n 0, 1) := by decide +kernel
theorem dX9_comes_34 : decode cX9_comes 34 = .ok (.getfield 40, 3) := by decide +kernel
theorem dX9_comes_37 : decode cX9_comes 37 = .ok (.iload 6, 2) := by decide +kernel
theorem dX9_comes_39 : decode cX9_comes 39 = .ok (.iaload, 1) := by decide +kernel
theorem dX9_comes_40 : decode cX9_comes 40 = .ok (.aload_n 0, 1) := by decide +kernel
theorem dX9_comes_41 : decode cX9_comes 41 = .ok (.getfield 40, 3) := by decide +kernel
theorem dX9_comes_44 : decode cX9_comes 44 = .ok (.iconst 0, 1) := by decide +kernel
theorem dX9_comes_45 : decode cX9_comes 45 = .ok (.iaload, 1) := by decide +kernel
theorem dX9_comes_46 : decode cX9_comes 46 = .ok (.if_icmp .ne 59, 3) := by decide +kernel
theorem dX9_comes_49 : decode cX9_comes 49 = .ok (.aload_n 0, 1) := by decide +kernel
theorem dX9_comes_50 : decode cX9_comes 50 = .ok (.getfield 40, 3) := by decide +kernel
theorem dX9_comes_53 : decode cX9_comes 53 = .ok (.iconst 3, 1) := by decide +kernel
theorem dX9_comes_54 : decode cX9_comes 54 = .ok (.iaload, 1) := by decide +kernel
theorem dX9_comes_55 : decode cX9_comes 55 = .ok (.iload 5, 2) := by decide +kernel
theorem dX9_comes_57 : decode cX9_comes 57 = .ok (.invokestatic 136, 3) := by decide +kernel
theorem dX9_comes_60 : decode cX9_comes 60 = .ok (.ifCond .ne 45, 3) := by decide +kernel
theorem dX9_comes_63 : decode cX9_comes 63 = .ok (.iload_n 3, 1) := by decide +kernel
theorem dX9_comes_64 : decode cX9_comes 64 = .ok (.aload_n 0, 1) := by decide +kernel
theorem dX9_comes_65 : decode cX9_comes 65 = .ok (.iload_n 1, 1) := by decide +kernel
theorem dX9_comes_66 : decode cX9_comes 66 = .ok (.aload_n 0, 1) := by decide +kernel
theorem dX9_comes_67 : decode cX9_comes 67 = .ok (.getfield 40, 3) := by decide +kernel
theorem dX9_comes_70 : decode cX9_comes 70 = .ok (.iload 6, 2) := by decide +kernel
theorem dX9_comes_72 : decode cX9_comes 72 = .ok (.iconst 1, 1) := by decide +kernel
theorem dX9_comes_73 : decode cX9_comes 73 = .ok (.iadd, 1) := by decide +kernel
theorem dX9_comes_74 : decode cX9_comes 74 = .ok (.iaload, 1) := by decide +kernel
theorem dX9_comes_75 : decode cX9_comes 75 = .ok (.aload_n 0, 1) := by decide +kernel
theorem dX9_comes_76 : decode cX9_comes 76 = .ok (.getfield 40, 3) := by decide +kernel
theorem dX9_comes_79 : decode cX9_comes 79 = .ok (.iload 6, 2) := by decide +kernel
theorem dX9_comes_81 : decode cX9_comes 81 = .ok (.iconst 2, 1) := by decide +kernel
theorem dX9_comes_82 : decode cX9_comes 82 = .ok (.iadd, 1) := by decide +kernel
theorem dX9_comes_83 : decode cX9_comes 83 = .ok (.iaload, 1) := by decide +kernel
theorem dX9_comes_84 : decode cX9_comes 84 = .ok (.iload 4, 2) := by decide +kernel
theorem dX9_comes_86 : decode cX9_comes 86 = .ok (.invokevirtual 140, 3) := by decide +kernel
theorem dX9_comes_89 : decode cX9_comes 89 = .ok (.iadd, 1) := by decide +kernel
theorem dX9_comes_90 : decode cX9_comes 90 = .ok (.istore_n 3, 1) := by decide +kernel
theorem dX9_comes_91 : decode cX9_comes 91 = .ok (.iload 4, 2) := by decide +kernel
theorem dX9_comes_93 : decode cX9_comes 93 = .ok (.aload_n 0, 1) := by decide +kernel
theorem dX9_comes_94 : decode cX9_comes 94 = .ok (.getfield 40, 3) := by decide +kernel
theorem dX9_comes_97 : decode cX9_comes 97 = .ok (.iload 6, 2) := by decide +kernel
theorem dX9_comes_99 : decode cX9_comes 99 = .ok (.iconst 1, 1) := by decide +kernel
theorem dX9_comes_100 : decode cX9_comes 100 = .ok (.iadd, 1) := by decide +kernel
theorem dX9_comes_101 : decode cX9_comes 101 = .ok (.iaload, 1) := by decide +kernel
theorem dX9_comes_102 : decode cX9_comes 102 = .ok (.ior, 1) := by decide +kernel
theorem dX9_comes_103 : decode cX9_comes 103 = .ok (.istore 4, 2) := by decide +kernel
theorem dX9_comes_105 : decode cX9_comes 105 = .ok (.iinc 5 1, 3) := by decide +kernel
theorem dX9_comes_108 : decode cX9_comes 108 = .ok (.goto (-95), 3) := by decide +kernel
theorem dX9_comes_111 : decode cX9_comes 111 = .ok (.aload_n 0, 1) := by decide +kernel
theorem dX9_comes_112 : decode cX9_comes 112 = .ok (.getfield 130, 3) := by decide +kernel
theorem dX9_comes_115 : decode cX9_comes 115 = .ok (.ifCond .le 23, 3) := by decide +kernel
theorem dX9_comes_118 : decode cX9_comes 118 = .ok (.iload_n 3, 1) := by decide +kernel
theorem dX9_comes_119 : decode cX9_comes 119 = .ok (.aload_n 0, 1) := by decide +kernel
theorem dX9_comes_120 : decode cX9_comes 120 = .ok (.iload_n 1, 1) := by decide +kernel
theorem dX9_comes_121 : decode cX9_comes 121 = .ok (.aload_n 0, 1) := by decide +kernel
theorem dX9_comes_122 : decode cX9_comes 122 = .ok (.getfield 144, 3) := by decide +kernel
theorem dX9_comes_125 : decode cX9_comes 125 = .ok (.aload_n 0, 1) := by decide +kernel
theorem dX9_comes_126 : decode cX9_comes 126 = .ok (.getfield 130, 3) := by decide +kernel
theorem dX9_comes_129 : decode cX9_comes 129 = .ok (.iload 4, 2) := by decide +kernel
theorem dX9_comes_131 : decode cX9_comes 131 = .ok (.invokevirtual 140, 3) := by decide +kernel
theorem dX9_comes_134 : decode cX9_comes 134 = .ok (.iadd, 1) := by decide +kernel
theorem dX9_comes_135 : decode cX9_comes 135 = .ok (.goto 4, 3) := by decide +kernel
theorem dX9_comes_138 : decode cX9_comes 138 = .ok (.iload_n 3, 1) := by decide +kernel
theorem dX9_comes_139 : decode cX9_comes 139 = .ok (.ireturn, 1) := by decide +kernel
theorem dX9_isEnough_0 : decode cX9_isEnough 0 = .ok (.iload_n 2, 1) := by decide +kernel
theorem dX9_isEnough_1 : decode cX9_isEnough 1 = .ok (.aload_n 0, 1) := by decide +kernel
theorem dX9_isEnough_2 : decode cX9_isEnough 2 = .ok (.getfield 7, 3) := by decide +kernel
theorem dX9_isEnough_5 : decode cX9_isEnough 5 = .ok (.iconst 3, 1) := by decide +kernel
theorem dX9_isEnough_6 : decode cX9_isEnough 6 = .ok (.iload_n 1, 1) := by decide +kernel
theorem dX9_isEnough_7 : decode cX9_isEnough 7 = .ok (.imul, 1) := by decide +kernel
theorem dX9_isEnough_8 : decode cX9_isEnough 8 = .ok (.iconst 2, 1) := by decide +kernel
theorem dX9_isEnough_9 : decode cX9_isEnough 9 = .ok (.iadd, 1) := by decide +kernel
theorem dX9_isEnough_10 : decode cX9_isEnough 10 = .ok (.iaload, 1) := by decide +kernel
theorem dX9_isEnough_11 : decode cX9_isEnough 11 = .ok (.if_icmp .lt 7, 3) := by decide +kernel
theorem dX9_isEnough_14 : decode cX9_isEnough 14 = .ok (.iconst 1, 1) := by decide +kernel
theorem dX9_isEnough_15 : decode cX9_isEnough 15 = .ok (.goto 4, 3) := by decide +kernel
theorem dX9_isEnough_18 : decode cX9_isEnough 18 = .ok (.iconst 0, 1) := by decide +kernel
theorem dX9_isEnough_19 : decode cX9_isEnough 19 = .ok (.ireturn, 1) := by decide +kernel
theorem dX9_goes_0 : decode cX9_goes 0 = .ok (.aload_n 0, 1) := by decide +kernel
theorem dX9_goes_1 : decode cX9_goes 1 = .ok (.getfield 40, 3) := by decide +kernel
theorem dX9_goes_4 : decode cX9_goes 4 = .ok (.iconst 4, 1) := by decide +kernel
theorem dX9_goes_5 : decode cX9_goes 5 = .ok (.iaload, 1) := by decide +kernel
theorem dX9_goes_6 : decode cX9_goes 6 = .ok (.istore_n 1, 1) := by decide +kernel
theorem dX9_goes_7 : decode cX9_goes 7 = .ok (.aload_n 0, 1) := by decide +kernel
theorem dX9_goes_8 : decode cX9_goes 8 = .ok (.iload_n 1, 1) := by decide +kernel
theorem dX9_goes_9 : decode cX9_goes 9 = .ok (.aload_n 0, 1) := by decide +kernel
theorem dX9_goes_10 : decode cX9_goes 10 = .ok (.getfield 40, 3) := by decide +kernel
theorem dX9_goes_13 : decode cX9_goes 13 = .ok (.iconst 1, 1) := by decide +kernel
theorem dX9_goes_14 : decode cX9_goes 14 = .ok (.iaload, 1) := by decide +kernel
theorem dX9_goes_15 : decode cX9_goes 15 = .ok (.invokevirtual 147, 3) := by decide +kernel
theorem dX9_goes_18 : decode cX9_goes 18 = .ok (.istore_n 2, 1) := by decide +kernel
theorem dX9_goes_19 : decode cX9_goes 19 = .ok (.aload_n 0, 1) := by decide +kernel
theorem dX9_goes_20 : decode cX9_goes 20 = .ok (.iload_n 1, 1) := by decide +kernel
theorem dX9_goes_21 : decode cX9_goes 21 = .ok (.iload_n 2, 1) := by decide +kernel
theorem dX9_goes_22 : decode cX9_goes 22 = .ok (.invokevirtual 151, 3) := by decide +kernel
theorem dX9_goes_25 : decode cX9_goes 25 = .ok (.istore_n 3, 1) := by decide +kernel
theorem dX9_goes_26 : decode cX9_goes 26 = .ok (.aload_n 0, 1) := by decide +kernel
theorem dX9_goes_27 : decode cX9_goes 27 = .ok (.getfield 40, 3) := by decide +kernel
theorem dX9_goes_30 : decode cX9_goes 30 = .ok (.bipush 10, 2) := by decide +kernel
theorem dX9_goes_32 : decode cX9_goes 32 = .ok (.iload_n 1, 1) := by decide +kernel
theorem dX9_goes_33 : decode cX9_goes 33 = .ok (.iadd, 1) := by decide +kernel
theorem dX9_goes_34 : decode cX9_goes 34 = .ok (.dup2, 1) := by decide +kernel
theorem dX9_goes_35 : decode cX9_goes 35 = .ok (.iaload, 1) := by decide +kernel
theorem dX9_goes_36 : decode cX9_goes 36 = .ok (.iconst 1, 1) := by decide +kernel
theorem dX9_goes_37 : decode cX9_goes 37 = .ok (.iadd, 1) := by decide +kernel
theorem dX9_goes_38 : decode cX9_goes 38 = .ok (.iastore, 1) := by decide +kernel
theorem dX9_goes_39 : decode cX9_goes 39 = .ok (.aload_n 0, 1) := by decide +kernel
theorem dX9_goes_40 : decode cX9_goes 40 = .ok (.getfield 40, 3) := by decide +kernel
theorem dX9_goes_43 : decode cX9_goes 43 = .ok (.iconst 1, 1) := by decide +kernel
theorem dX9_goes_44 : decode cX9_goes 44 = .ok (.iload_n 3, 1) := by decide +kernel
theorem dX9_goes_45 : decode cX9_goes 45 = .ok (.ifCond .eq 7, 3) := by decide +kernel
theorem dX9_goes_48 : decode cX9_goes 48 = .ok (.iconst 0, 1) := by decide +kernel
theorem dX9_goes_49 : decode cX9_goes 49 = .ok (.goto 4, 3) := by decide +kernel
theorem dX9_goes_52 : decode cX9_goes 52 = .ok (.iload_n 2, 1) := by decide +kernel
theorem dX9_goes_53 : decode cX9_goes 53 = .ok (.iastore, 1) := by decide +kernel
theorem dX9_goes_54 : decode cX9_goes 54 = .ok (.aload_n 0, 1) := by decide +kernel
theorem dX9_goes_55 : decode cX9_goes 55 = .ok (.getfield 40, 3) := by decide +kernel
theorem dX9_goes_58 : decode cX9_goes 58 = .ok (.iconst 0, 1) := by decide +kernel
theorem dX9_goes_59 : decode cX9_goes 59 = .ok (.dup2, 1) := by decide +kernel
theorem dX9_goes_60 : decode cX9_goes 60 = .ok (.iaload, 1) := by decide +kernel
theorem dX9_goes_61 : decode cX9_goes 61 = .ok (.iconst 1, 1) := by decide +kernel
theorem dX9_goes_62 : decode cX9_goes 62 = .ok (.iadd, 1) := by decide +kernel
theorem dX9_goes_63 : decode cX9_goes 63 = .ok (.iastore, 1) := by decide +kernel
theorem dX9_goes_64 : decode cX9_goes 64 = .ok (.iload_n 3, 1) := by decide +kernel
theorem dX9_goes_65 : decode cX9_goes 65 = .ok (.ifCond .eq 55, 3) := by decide +kernel
theorem dX9_goes_68 : decode cX9_goes 68 = .ok (.iconst 1, 1) := by decide +kernel
theorem dX9_goes_69 : decode cX9_goes 69 = .ok (.istore 4, 2) := by decide +kernel
theorem dX9_goes_71 : decode cX9_goes 71 = .ok (.iload 4, 2) := by decide +kernel
theorem dX9_goes_73 : decode cX9_goes 73 = .ok (.aload_n 0, 1) := by decide +kernel
theorem dX9_goes_74 : decode cX9_goes 74 = .ok (.getfield 67, 3) := by decide +kernel
theorem dX9_goes_77 : decode cX9_goes 77 = .ok (.if_icmp .ge 29, 3) := by decide +kernel
theorem dX9_goes_80 : decode cX9_goes 80 = .ok (.aload_n 0, 1) := by decide +kernel
theorem dX9_goes_81 : decode cX9_goes 81 = .ok (.getfield 40, 3) := by decide +kernel
theorem dX9_goes_84 : decode cX9_goes 84 = .ok (.iconst 4, 1) := by decide +kernel
theorem dX9_goes_85 : decode cX9_goes 85 = .ok (.iload 4, 2) := by decide +kernel
theorem dX9_goes_87 : decode cX9_goes 87 = .ok (.iadd, 1) := by decide +kernel
theorem dX9_goes_88 : decode cX9_goes 88 = .ok (.iconst 1, 1) := by decide +kernel
theorem dX9_goes_89 : decode cX9_goes 89 = .ok (.isub, 1) := by decide +kernel
theorem dX9_goes_90 : decode cX9_goes 90 = .ok (.aload_n 0, 1) := by decide +kernel
theorem dX9_goes_91 : decode cX9_goes 91 = .ok (.getfield 40, 3) := by decide +kernel
theorem dX9_goes_94 : decode cX9_goes 94 = .ok (.iconst 4, 1) := by decide +kernel
theorem dX9_goes_95 : decode cX9_goes 95 = .ok (.iload 4, 2) := by decide +kernel
theorem dX9_goes_97 : decode cX9_goes 97 = .ok (.iadd, 1) := by decide +kernel
theorem dX9_goes_98 : decode cX9_goes 98 = .ok (.iaload, 1) := by decide +kernel
theorem dX9_goes_99 : decode cX9_goes 99 = .ok (.iastore, 1) := by decide +kernel
theorem dX9_goes_100 : decode cX9_goes 100 = .ok (.iinc 4 1, 3) := by decide +kernel
theorem dX9_goes_103 : decode cX9_goes 103 = .ok (.goto (-32), 3) := by decide +kernel
theorem dX9_goes_106 : decode cX9_goes 106 = .ok (.aload_n 0, 1) := by decide +kernel
theorem dX9_goes_107 : decode cX9_goes 107 = .ok (.getfield 40, 3) := by decide +kernel
theorem dX9_goes_110 : decode cX9_goes 110 = .ok (.iconst 4, 1) := by decide +kernel
theorem dX9_goes_111 : decode cX9_goes 111 = .ok (.aload_n 0, 1) := by decide +kernel
theorem dX9_goes_112 : decode cX9_goes 112 = .ok (.getfield 67, 3) := by decide +kernel
theorem dX9_goes_115 : decode cX9_goes 115 = .ok (.iadd, 1) := by decide +kernel
theorem dX9_goes_116 : decode cX9_goes 116 = .ok (.iconst 1, 1) := by decide +kernel
theorem dX9_goes_117 : decode cX9_goes 117 = .ok (.isub, 1) := by decide +kernel
theorem dX9_goes_118 : decode cX9_goes 118 = .ok (.iload_n 1, 1) := by decide +kernel
theorem dX9_goes_119 : decode cX9_goes 119 = .ok (.iastore, 1) := by decide +kernel
theorem dX9_goes_120 : decode cX9_goes 120 = .ok (.iload_n 3, 1) := by decide +kernel
theorem dX9_goes_121 : decode cX9_goes 121 = .ok (.ireturn, 1) := by decide +kernel
theorem dX9_goesOn_0 : decode cX9_goesOn 0 = .ok (.iconst 0, 1) := by decide +kernel
theorem dX9_goesOn_1 : decode cX9_goesOn 1 = .ok (.istore_n 2, 1) := by decide +kernel
theorem dX9_goesOn_2 : decode cX9_goesOn 2 = .ok (.iconst 0, 1) := by decide +kernel
theorem dX9_goesOn_3 : decode cX9_goesOn 3 = .ok (.istore_n 3, 1) := by decide +kernel
theorem dX9_goesOn_4 : decode cX9_goesOn 4 = .ok (.iload_n 3, 1) := by decide +kernel
theorem dX9_goesOn_5 : decode cX9_goesOn 5 = .ok (.iload_n 1, 1) := by decide +kernel
theorem dX9_goesOn_6 : decode cX9_goesOn 6 = .ok (.if_icmp .ge 24, 3) := by decide +kernel
theorem dX9_goesOn_9 : decode cX9_goesOn 9 = .ok (.iload_n 2, 1) := by decide +kernel
theorem dX9_goesOn_10 : decode cX9_goesOn 10 = .ok (.aload_n 0, 1) := by decide +kernel
theorem dX9_goesOn_11 : decode cX9_goesOn 11 = .ok (.invokevirtual 154, 3) := by decide +kernel
theorem dX9_goesOn_14 : decode cX9_goesOn 14 = .ok (.ifCond .eq 7, 3) := by decide +kernel
theorem dX9_goesOn_17 : decode cX9_goesOn 17 = .ok (.iconst 1, 1) := by decide +kernel
theorem dX9_goesOn_18 : decode cX9_goesOn 18 = .ok (.goto 4, 3) := by decide +kernel
theorem dX9_goesOn_21 : decode cX9_goesOn 21 = .ok (.iconst 0, 1) := by decide +kernel
theorem dX9_goesOn_22 : decode cX9_goesOn 22 = .ok (.iadd, 1) := by decide +kernel
theorem dX9_goesOn_23 : decode cX9_goesOn 23 = .ok (.istore_n 2, 1) := by decide +kernel
theorem dX9_goesOn_24 : decode cX9_goesOn 24 = .ok (.iinc 3 1, 3) := by decide +kernel
theorem dX9_goesOn_27 : decode cX9_goesOn 27 = .ok (.goto (-23), 3) := by decide +kernel
theorem dX9_goesOn_30 : decode cX9_goesOn 30 = .ok (.iload_n 2, 1) := by decide +kernel
theorem dX9_goesOn_31 : decode cX9_goesOn 31 = .ok (.ireturn, 1) := by decide +kernel
theorem dX9_person_0 : decode cX9_person 0 = .ok (.aload_n 0, 1) := by decide +kernel
theorem dX9_person_1 : decode cX9_person 1 = .ok (.iload_n 1, 1) := by decide +kernel
theorem dX9_person_2 : decode cX9_person 2 = .ok (.invokevirtual 157, 3) := by decide +kernel
theorem dX9_person_5 : decode cX9_person 5 = .ok (.ifCond .eq 12, 3) := by decide +kernel
theorem dX9_person_8 : decode cX9_person 8 = .ok (.iload_n 2, 1) := by decide +kernel
theorem dX9_person_9 : decode cX9_person 9 = .ok (.iconst 0, 1) := by decide +kernel
theorem dX9_person_10 : decode cX9_person 10 = .ok (.iconst 4, 1) := by decide +kernel
theorem dX9_person_11 : decode cX9_person 11 = .ok (.invokestatic 70, 3) := by decide +kernel
theorem dX9_person_14 : decode cX9_person 14 = .ok (.ifCond .ne 5, 3) := by decide +kernel
theorem dX9_person_17 : decode cX9_person 17 = .ok (.iconst (-1), 1) := by decide +kernel
theorem dX9_person_18 : decode cX9_person 18 = .ok (.ireturn, 1) := by decide +kernel
theorem dX9_person_19 : decode cX9_person 19 = .ok (.iload_n 2, 1) := by decide +kernel
theorem dX9_person_20 : decode cX9_person 20 = .ok (.iconst 3, 1) := by decide +kernel
theorem dX9_person_21 : decode cX9_person 21 = .ok (.if_icmp .ge 14, 3) := by decide +kernel
theorem dX9_person_24 : decode cX9_person 24 = .ok (.aload_n 0, 1) := by decide +kernel
theorem dX9_person_25 : decode cX9_person 25 = .ok (.getfield 7, 3) := by decide +kernel
theorem dX9_person_28 : decode cX9_person 28 = .ok (.iconst 3, 1) := by decide +kernel
theorem dX9_person_29 : decode cX9_person 29 = .ok (.iload_n 1, 1) := by decide +kernel
theorem dX9_person_30 : decode cX9_person 30 = .ok (.imul, 1) := by decide +kernel
theorem dX9_person_31 : decode cX9_person 31 = .ok (.iload_n 2, 1) := by decide +kernel
theorem dX9_person_32 : decode cX9_person 32 = .ok (.iadd, 1) := by decide +kernel
theorem dX9_person_33 : decode cX9_person 33 = .ok (.iaload, 1) := by decide +kernel
theorem dX9_person_34 : decode cX9_person 34 = .ok (.ireturn, 1) := by decide +kernel
theorem dX9_person_35 : decode cX9_person 35 = .ok (.iconst 0, 1) := by decide +kernel
theorem dX9_person_36 : decode cX9_person 36 = .ok (.istore_n 3, 1) := by decide +kernel
theorem dX9_person_37 : decode cX9_person 37 = .ok (.aload_n 0, 1) := by decide +kernel
theorem dX9_person_38 : decode cX9_person 38 = .ok (.getfield 13, 3) := by decide +kernel
theorem dX9_person_41 : decode cX9_person 41 = .ok (.iconst 4, 1) := by decide +kernel
theorem dX9_person_42 : decode cX9_person 42 = .ok (.iload_n 3, 1) := by decide +kernel
theorem dX9_person_43 : decode cX9_person 43 = .ok (.iadd, 1) := by decide +kernel
theorem dX9_person_44 : decode cX9_person 44 = .ok (.iaload, 1) := by decide +kernel
theorem dX9_person_45 : decode cX9_person 45 = .ok (.iload_n 1, 1) := by decide +kernel
theorem dX9_person_46 : decode cX9_person 46 = .ok (.if_icmp .eq 9, 3) := by decide +kernel
theorem dX9_person_49 : decode cX9_person 49 = .ok (.iinc 3 1, 3) := by decide +kernel
theorem dX9_person_52 : decode cX9_person 52 = .ok (.goto (-15), 3) := by decide +kernel
theorem dX9_person_55 : decode cX9_person 55 = .ok (.iload_n 2, 1) := by decide +kernel
theorem dX9_person_56 : decode cX9_person 56 = .ok (.iconst 3, 1) := by decide +kernel
theorem dX9_person_57 : decode cX9_person 57 = .ok (.if_icmp .ne 7, 3) := by decide +kernel
theorem dX9_person_60 : decode cX9_person 60 = .ok (.iload_n 3, 1) := by decide +kernel
theorem dX9_person_61 : decode cX9_person 61 = .ok (.goto 12, 3) := by decide +kernel
theorem dX9_person_64 : decode cX9_person 64 = .ok (.aload_n 0, 1) := by decide +kernel
theorem dX9_person_65 : decode cX9_person 65 = .ok (.getfield 13, 3) := by decide +kernel
theorem dX9_person_68 : decode cX9_person 68 = .ok (.bipush 10, 2) := by decide +kernel
theorem dX9_person_70 : decode cX9_person 70 = .ok (.iload_n 1, 1) := by decide +kernel
theorem dX9_person_71 : decode cX9_person 71 = .ok (.iadd, 1) := by decide +kernel
theorem dX9_person_72 : decode cX9_person 72 = .ok (.iaload, 1) := by decide +kernel
theorem dX9_person_73 : decode cX9_person 73 = .ok (.ireturn, 1) := by decide +kernel
theorem dX9_thing_0 : decode cX9_thing 0 = .ok (.aload_n 0, 1) := by decide +kernel
theorem dX9_thing_1 : decode cX9_thing 1 = .ok (.iload_n 1, 1) := by decide +kernel
theorem dX9_thing_2 : decode cX9_thing 2 = .ok (.invokevirtual 160, 3) := by decide +kernel
theorem dX9_thing_5 : decode cX9_thing 5 = .ok (.ifCond .eq 12, 3) := by decide +kernel
theorem dX9_thing_8 : decode cX9_thing 8 = .ok (.iload_n 2, 1) := by decide +kernel
theorem dX9_thing_9 : decode cX9_thing 9 = .ok (.iconst 0, 1) := by decide +kernel
theorem dX9_thing_10 : decode cX9_thing 10 = .ok (.iconst 3, 1) := by decide +kernel
theorem dX9_thing_11 : decode cX9_thing 11 = .ok (.invokestatic 70, 3) := by decide +kernel
theorem dX9_thing_14 : decode cX9_thing 14 = .ok (.ifCond .ne 5, 3) := by decide +kernel
theorem dX9_thing_17 : decode cX9_thing 17 = .ok (.iconst (-1), 1) := by decide +kernel
theorem dX9_thing_18 : decode cX9_thing 18 = .ok (.ireturn, 1) := by decide +kernel
theorem dX9_thing_19 : decode cX9_thing 19 = .ok (.iload_n 2, 1) := by decide +kernel
theorem dX9_thing_20 : decode cX9_thing 20 = .ok (.iconst 3, 1) := by decide +kernel
theorem dX9_thing_21 : decode cX9_thing 21 = .ok (.if_icmp .ne 16, 3) := by decide +kernel
theorem dX9_thing_24 : decode cX9_thing 24 = .ok (.aload_n 0, 1) := by decide +kernel
theorem dX9_thing_25 : decode cX9_thing 25 = .ok (.getfield 13, 3) := by decide +kernel
theorem dX9_thing_28 : decode cX9_thing 28 = .ok (.iconst 3, 1) := by decide +kernel
theorem dX9_thing_29 : decode cX9_thing 29 = .ok (.iaload, 1) := by decide +kernel
theorem dX9_thing_30 : decode cX9_thing 30 = .ok (.iload_n 1, 1) := by decide +kernel
theorem dX9_thing_31 : decode cX9_thing 31 = .ok (.ishr, 1) := by decide +kernel
theorem dX9_thing_32 : decode cX9_thing 32 = .ok (.iconst 1, 1) := by decide +kernel
theorem dX9_thing_33 : decode cX9_thing 33 = .ok (.iand, 1) := by decide +kernel
theorem dX9_thing_34 : decode cX9_thing 34 = .ok (.goto 16, 3) := by decide +kernel
theorem dX9_thing_37 : decode cX9_thing 37 = .ok (.aload_n 0, 1) := by decide +kernel
theorem dX9_thing_38 : decode cX9_thing 38 = .ok (.getfield 13, 3) := by decide +kernel
theorem dX9_thing_41 : decode cX9_thing 41 = .ok (.bipush 16, 2) := by decide +kernel
theorem dX9_thing_43 : decode cX9_thing 43 = .ok (.iconst 3, 1) := by decide +kernel
theorem dX9_thing_44 : decode cX9_thing 44 = .ok (.iload_n 1, 1) := by decide +kernel
theorem dX9_thing_45 : decode cX9_thing 45 = .ok (.imul, 1) := by decide +kernel
theorem dX9_thing_46 : decode cX9_thing 46 = .ok (.iadd, 1) := by decide +kernel
theorem dX9_thing_47 : decode cX9_thing 47 = .ok (.iload_n 2, 1) := by decide +kernel
theorem dX9_thing_48 : decode cX9_thing 48 = .ok (.iadd, 1) := by decide +kernel
theorem dX9_thing_49 : decode cX9_thing 49 = .ok (.iaload, 1) := by decide +kernel
theorem dX9_thing_50 : decode cX9_thing 50 = .ok (.ireturn, 1) := by decide +kernel
theorem dX9_remembers_0 : decode cX9_remembers 0 = .ok (.aload_n 0, 1) := by decide +kernel
theorem dX9_remembers_1 : decode cX9_remembers 1 = .ok (.getfield 121, 3) := by decide +kernel
theorem dX9_remembers_4 : decode cX9_remembers 4 = .ok (.bipush 8, 2) := by decide +kernel
theorem dX9_remembers_6 : decode cX9_remembers 6 = .ok (.if_icmp .ne 43, 3) := by decide +kernel
theorem dX9_remembers_9 : decode cX9_remembers 9 = .ok (.iconst 0, 1) := by decide +kernel
theorem dX9_remembers_10 : decode cX9_remembers 10 = .ok (.istore_n 1, 1) := by decide +kernel
theorem dX9_remembers_11 : decode cX9_remembers 11 = .ok (.iload_n 1, 1) := by decide +kernel
theorem dX9_remembers_12 : decode cX9_remembers 12 = .ok (.sipush 322, 3) := by decide +kernel
theorem dX9_remembers_15 : decode cX9_remembers 15 = .ok (.if_icmp .ge 24, 3) := by decide +kernel
theorem dX9_remembers_18 : decode cX9_remembers 18 = .ok (.aload_n 0, 1) := by decide +kernel
theorem dX9_remembers_19 : decode cX9_remembers 19 = .ok (.getfield 19, 3) := by decide +kernel
theorem dX9_remembers_22 : decode cX9_remembers 22 = .ok (.iload_n 1, 1) := by decide +kernel
theorem dX9_remembers_23 : decode cX9_remembers 23 = .ok (.aload_n 0, 1) := by decide +kernel
theorem dX9_remembers_24 : decode cX9_remembers 24 = .ok (.getfield 19, 3) := by decide +kernel
theorem dX9_remembers_27 : decode cX9_remembers 27 = .ok (.iload_n 1, 1) := by decide +kernel
theorem dX9_remembers_28 : decode cX9_remembers 28 = .ok (.bipush 46, 2) := by decide +kernel
theorem dX9_remembers_30 : decode cX9_remembers 30 = .ok (.iadd, 1) := by decide +kernel
theorem dX9_remembers_31 : decode cX9_remembers 31 = .ok (.iaload, 1) := by decide +kernel
theorem dX9_remembers_32 : decode cX9_remembers 32 = .ok (.iastore, 1) := by decide +kernel
theorem dX9_remembers_33 : decode cX9_remembers 33 = .ok (.iinc 1 1, 3) := by decide +kernel
theorem dX9_remembers_36 : decode cX9_remembers 36 = .ok (.goto (-25), 3) := by decide +kernel
theorem dX9_remembers_39 : decode cX9_remembers 39 = .ok (.aload_n 0, 1) := by decide +kernel
theorem dX9_remembers_40 : decode cX9_remembers 40 = .ok (.dup, 1) := by decide +kernel
theorem dX9_remembers_41 : decode cX9_remembers 41 = .ok (.getfield 121, 3) := by decide +kernel
theorem dX9_remembers_44 : decode cX9_remembers 44 = .ok (.iconst 1, 1) := by decide +kernel
theorem dX9_remembers_45 : decode cX9_remembers 45 = .ok (.isub, 1) := by decide +kernel
theorem dX9_remembers_46 : decode cX9_remembers 46 = .ok (.putfield 121, 3) := by decide +kernel
theorem dX9_remembers_49 : decode cX9_remembers 49 = .ok (.aload_n 0, 1) := by decide +kernel
theorem dX9_remembers_50 : decode cX9_remembers 50 = .ok (.getfield 19, 3) := by decide +kernel
theorem dX9_remembers_53 : decode cX9_remembers 53 = .ok (.bipush 46, 2) := by decide +kernel
theorem dX9_remembers_55 : decode cX9_remembers 55 = .ok (.aload_n 0, 1) := by decide +kernel
theorem dX9_remembers_56 : decode cX9_remembers 56 = .ok (.getfield 121, 3) := by decide +kernel
theorem dX9_remembers_59 : decode cX9_remembers 59 = .ok (.imul, 1) := by decide +kernel
theorem dX9_remembers_60 : decode cX9_remembers 60 = .ok (.aload_n 0, 1) := by decide +kernel
theorem dX9_remembers_61 : decode cX9_remembers 61 = .ok (.getfield 13, 3) := by decide +kernel
theorem dX9_remembers_64 : decode cX9_remembers 64 = .ok (.bipush 46, 2) := by decide +kernel
theorem dX9_remembers_66 : decode cX9_remembers 66 = .ok (.invokestatic 117, 3) := by decide +kernel
theorem dX9_remembers_69 : decode cX9_remembers 69 = .ok (.aload_n 0, 1) := by decide +kernel
theorem dX9_remembers_70 : decode cX9_remembers 70 = .ok (.dup, 1) := by decide +kernel
theorem dX9_remembers_71 : decode cX9_remembers 71 = .ok (.getfield 121, 3) := by decide +kernel
theorem dX9_remembers_74 : decode cX9_remembers 74 = .ok (.iconst 1, 1) := by decide +kernel
theorem dX9_remembers_75 : decode cX9_remembers 75 = .ok (.iadd, 1) := by decide +kernel
theorem dX9_remembers_76 : decode cX9_remembers 76 = .ok (.putfield 121, 3) := by decide +kernel
theorem dX9_remembers_79 : decode cX9_remembers 79 = .ok (.return_, 1) := by decide +kernel
theorem dX9_pass_0 : decode cX9_pass 0 = .ok (.iload_n 1, 1) := by decide +kernel
theorem dX9_pass_1 : decode cX9_pass 1 = .ok (.iconst 1, 1) := by decide +kernel
theorem dX9_pass_2 : decode cX9_pass 2 = .ok (.bipush 20, 2) := by decide +kernel
theorem dX9_pass_4 : decode cX9_pass 4 = .ok (.invokestatic 70, 3) := by decide +kernel
theorem dX9_pass_7 : decode cX9_pass 7 = .ok (.ifCond .ne 5, 3) := by decide +kernel
theorem dX9_pass_10 : decode cX9_pass 10 = .ok (.iconst (-1), 1) := by decide +kernel
theorem dX9_pass_11 : decode cX9_pass 11 = .ok (.ireturn, 1) := by decide +kernel
theorem dX9_pass_12 : decode cX9_pass 12 = .ok (.aload_n 0, 1) := by decide +kernel
theorem dX9_pass_13 : decode cX9_pass 13 = .ok (.getfield 13, 3) := by decide +kernel
theorem dX9_pass_16 : decode cX9_pass 16 = .ok (.iconst 0, 1) := by decide +kernel
theorem dX9_pass_17 : decode cX9_pass 17 = .ok (.iaload, 1) := by decide +kernel
theorem dX9_pass_18 : decode cX9_pass 18 = .ok (.iload_n 1, 1) := by decide +kernel
theorem dX9_pass_19 : decode cX9_pass 19 = .ok (.iadd, 1) := by decide +kernel
theorem dX9_pass_20 : decode cX9_pass 20 = .ok (.sipush 999, 3) := by decide +kernel
theorem dX9_pass_23 : decode cX9_pass 23 = .ok (.if_icmp .le 6, 3) := by decide +kernel
theorem dX9_pass_26 : decode cX9_pass 26 = .ok (.bipush (-2), 2) := by decide +kernel
theorem dX9_pass_28 : decode cX9_pass 28 = .ok (.ireturn, 1) := by decide +kernel
theorem dX9_pass_29 : decode cX9_pass 29 = .ok (.aload_n 0, 1) := by decide +kernel
theorem dX9_pass_30 : decode cX9_pass 30 = .ok (.invokevirtual 163, 3) := by decide +kernel
theorem dX9_pass_33 : decode cX9_pass 33 = .ok (.aload_n 0, 1) := by decide +kernel
theorem dX9_pass_34 : decode cX9_pass 34 = .ok (.aload_n 0, 1) := by decide +kernel
theorem dX9_pass_35 : decode cX9_pass 35 = .ok (.getfield 13, 3) := by decide +kernel
theorem dX9_pass_38 : decode cX9_pass 38 = .ok (.invokevirtual 166, 3) := by decide +kernel
theorem dX9_pass_41 : decode cX9_pass 41 = .ok (.aload_n 0, 1) := by decide +kernel
theorem dX9_pass_42 : decode cX9_pass 42 = .ok (.iload_n 1, 1) := by decide +kernel
theorem dX9_pass_43 : decode cX9_pass 43 = .ok (.invokevirtual 170, 3) := by decide +kernel
theorem dX9_pass_46 : decode cX9_pass 46 = .ok (.istore_n 2, 1) := by decide +kernel
theorem dX9_pass_47 : decode cX9_pass 47 = .ok (.aload_n 0, 1) := by decide +kernel
end
section
theorem dX9_pass_48 : decode cX9_pass 48 = .ok (.getfield 13, 3) := by decide +kernel
theorem dX9_pass_51 : decode cX9_pass 51 = .ok (.iconst 0, 1) := by decide +kernel
theorem dX9_pass_52 : decode cX9_pass 52 = .ok (.aload_n 0, 1) := by decide +kernel
theorem dX9_pass_53 : decode cX9_pass 53 = .ok (.getfield 40, 3) := by decide +kernel
theorem dX9_pass_56 : decode cX9_pass 56 = .ok (.bipush 46, 2) := by decide +kernel
theorem dX9_pass_58 : decode cX9_pass 58 = .ok (.invokestatic 117, 3) := by decide +kernel
theorem dX9_pass_61 : decode cX9_pass 61 = .ok (.iload_n 2, 1) := by decide +kernel
theorem dX9_pass_62 : decode cX9_pass 62 = .ok (.ireturn, 1) := by decide +kernel
theorem dX9_hide_0 : decode cX9_hide 0 = .ok (.aload_n 0, 1) := by decide +kernel
theorem dX9_hide_1 : decode cX9_hide 1 = .ok (.iload_n 1, 1) := by decide +kernel
theorem dX9_hide_2 : decode cX9_hide 2 = .ok (.invokevirtual 160, 3) := by decide +kernel
theorem dX9_hide_5 : decode cX9_hide 5 = .ok (.ifCond .ne 5, 3) := by decide +kernel
theorem dX9_hide_8 : decode cX9_hide 8 = .ok (.iconst (-1), 1) := by decide +kernel
theorem dX9_hide_9 : decode cX9_hide 9 = .ok (.ireturn, 1) := by decide +kernel
theorem dX9_hide_10 : decode cX9_hide 10 = .ok (.aload_n 0, 1) := by decide +kernel
theorem dX9_hide_11 : decode cX9_hide 11 = .ok (.invokevirtual 163, 3) := by decide +kernel
theorem dX9_hide_14 : decode cX9_hide 14 = .ok (.aload_n 0, 1) := by decide +kernel
theorem dX9_hide_15 : decode cX9_hide 15 = .ok (.getfield 13, 3) := by decide +kernel
theorem dX9_hide_18 : decode cX9_hide 18 = .ok (.iconst 3, 1) := by decide +kernel
theorem dX9_hide_19 : decode cX9_hide 19 = .ok (.dup2, 1) := by decide +kernel
theorem dX9_hide_20 : decode cX9_hide 20 = .ok (.iaload, 1) := by decide +kernel
theorem dX9_hide_21 : decode cX9_hide 21 = .ok (.iconst 1, 1) := by decide +kernel
theorem dX9_hide_22 : decode cX9_hide 22 = .ok (.iload_n 1, 1) := by decide +kernel
theorem dX9_hide_23 : decode cX9_hide 23 = .ok (.ishl, 1) := by decide +kernel
theorem dX9_hide_24 : decode cX9_hide 24 = .ok (.ixor, 1) := by decide +kernel
theorem dX9_hide_25 : decode cX9_hide 25 = .ok (.iastore, 1) := by decide +kernel
theorem dX9_hide_26 : decode cX9_hide 26 = .ok (.aload_n 0, 1) := by decide +kernel
theorem dX9_hide_27 : decode cX9_hide 27 = .ok (.getfield 13, 3) := by decide +kernel
theorem dX9_hide_30 : decode cX9_hide 30 = .ok (.iconst 3, 1) := by decide +kernel
theorem dX9_hide_31 : decode cX9_hide 31 = .ok (.iaload, 1) := by decide +kernel
theorem dX9_hide_32 : decode cX9_hide 32 = .ok (.iload_n 1, 1) := by decide +kernel
theorem dX9_hide_33 : decode cX9_hide 33 = .ok (.ishr, 1) := by decide +kernel
theorem dX9_hide_34 : decode cX9_hide 34 = .ok (.iconst 1, 1) := by decide +kernel
theorem dX9_hide_35 : decode cX9_hide 35 = .ok (.iand, 1) := by decide +kernel
theorem dX9_hide_36 : decode cX9_hide 36 = .ok (.ireturn, 1) := by decide +kernel
theorem dX9_arrange_0 : decode cX9_arrange 0 = .ok (.iload_n 1, 1) := by decide +kernel
theorem dX9_arrange_1 : decode cX9_arrange 1 = .ok (.iconst 0, 1) := by decide +kernel
theorem dX9_arrange_2 : decode cX9_arrange 2 = .ok (.sipush 999, 3) := by decide +kernel
theorem dX9_arrange_5 : decode cX9_arrange 5 = .ok (.invokestatic 70, 3) := by decide +kernel
theorem dX9_arrange_8 : decode cX9_arrange 8 = .ok (.ifCond .eq 23, 3) := by decide +kernel
theorem dX9_arrange_11 : decode cX9_arrange 11 = .ok (.iload_n 2, 1) := by decide +kernel
theorem dX9_arrange_12 : decode cX9_arrange 12 = .ok (.iconst 1, 1) := by decide +kernel
theorem dX9_arrange_13 : decode cX9_arrange 13 = .ok (.bipush 31, 2) := by decide +kernel
theorem dX9_arrange_15 : decode cX9_arrange 15 = .ok (.invokestatic 70, 3) := by decide +kernel
theorem dX9_arrange_18 : decode cX9_arrange 18 = .ok (.ifCond .eq 13, 3) := by decide +kernel
theorem dX9_arrange_21 : decode cX9_arrange 21 = .ok (.iload_n 3, 1) := by decide +kernel
theorem dX9_arrange_22 : decode cX9_arrange 22 = .ok (.iconst 1, 1) := by decide +kernel
theorem dX9_arrange_23 : decode cX9_arrange 23 = .ok (.bipush 9, 2) := by decide +kernel
theorem dX9_arrange_25 : decode cX9_arrange 25 = .ok (.invokestatic 70, 3) := by decide +kernel
theorem dX9_arrange_28 : decode cX9_arrange 28 = .ok (.ifCond .ne 5, 3) := by decide +kernel
theorem dX9_arrange_31 : decode cX9_arrange 31 = .ok (.iconst (-1), 1) := by decide +kernel
theorem dX9_arrange_32 : decode cX9_arrange 32 = .ok (.ireturn, 1) := by decide +kernel
theorem dX9_arrange_33 : decode cX9_arrange 33 = .ok (.iload_n 1, 1) := by decide +kernel
theorem dX9_arrange_34 : decode cX9_arrange 34 = .ok (.aload_n 0, 1) := by decide +kernel
theorem dX9_arrange_35 : decode cX9_arrange 35 = .ok (.getfield 13, 3) := by decide +kernel
theorem dX9_arrange_38 : decode cX9_arrange 38 = .ok (.iconst 0, 1) := by decide +kernel
theorem dX9_arrange_39 : decode cX9_arrange 39 = .ok (.iaload, 1) := by decide +kernel
theorem dX9_arrange_40 : decode cX9_arrange 40 = .ok (.if_icmp .ge 6, 3) := by decide +kernel
theorem dX9_arrange_43 : decode cX9_arrange 43 = .ok (.bipush (-2), 2) := by decide +kernel
theorem dX9_arrange_45 : decode cX9_arrange 45 = .ok (.ireturn, 1) := by decide +kernel
theorem dX9_arrange_46 : decode cX9_arrange 46 = .ok (.aload_n 0, 1) := by decide +kernel
theorem dX9_arrange_47 : decode cX9_arrange 47 = .ok (.getfield 13, 3) := by decide +kernel
theorem dX9_arrange_50 : decode cX9_arrange 50 = .ok (.iconst 2, 1) := by decide +kernel
theorem dX9_arrange_51 : decode cX9_arrange 51 = .ok (.iaload, 1) := by decide +kernel
theorem dX9_arrange_52 : decode cX9_arrange 52 = .ok (.bipush 9, 2) := by decide +kernel
theorem dX9_arrange_54 : decode cX9_arrange 54 = .ok (.if_icmp .ne 6, 3) := by decide +kernel
theorem dX9_arrange_57 : decode cX9_arrange 57 = .ok (.bipush (-3), 2) := by decide +kernel
theorem dX9_arrange_59 : decode cX9_arrange 59 = .ok (.ireturn, 1) := by decide +kernel
theorem dX9_arrange_60 : decode cX9_arrange 60 = .ok (.aload_n 0, 1) := by decide +kernel
theorem dX9_arrange_61 : decode cX9_arrange 61 = .ok (.invokevirtual 163, 3) := by decide +kernel
theorem dX9_arrange_64 : decode cX9_arrange 64 = .ok (.aload_n 0, 1) := by decide +kernel
theorem dX9_arrange_65 : decode cX9_arrange 65 = .ok (.getfield 13, 3) := by decide +kernel
theorem dX9_arrange_68 : decode cX9_arrange 68 = .ok (.iload_n 1, 1) := by decide +kernel
theorem dX9_arrange_69 : decode cX9_arrange 69 = .ok (.iload_n 2, 1) := by decide +kernel
theorem dX9_arrange_70 : decode cX9_arrange 70 = .ok (.iload_n 3, 1) := by decide +kernel
theorem dX9_arrange_71 : decode cX9_arrange 71 = .ok (.invokestatic 56, 3) := by decide +kernel
theorem dX9_arrange_74 : decode cX9_arrange 74 = .ok (.aload_n 0, 1) := by decide +kernel
theorem dX9_arrange_75 : decode cX9_arrange 75 = .ok (.getfield 13, 3) := by decide +kernel
theorem dX9_arrange_78 : decode cX9_arrange 78 = .ok (.iconst 2, 1) := by decide +kernel
theorem dX9_arrange_79 : decode cX9_arrange 79 = .ok (.iaload, 1) := by decide +kernel
theorem dX9_arrange_80 : decode cX9_arrange 80 = .ok (.iconst 1, 1) := by decide +kernel
theorem dX9_arrange_81 : decode cX9_arrange 81 = .ok (.isub, 1) := by decide +kernel
theorem dX9_arrange_82 : decode cX9_arrange 82 = .ok (.ireturn, 1) := by decide +kernel
theorem dX9_undo_0 : decode cX9_undo 0 = .ok (.aload_n 0, 1) := by decide +kernel
theorem dX9_undo_1 : decode cX9_undo 1 = .ok (.getfield 121, 3) := by decide +kernel
theorem dX9_undo_4 : decode cX9_undo 4 = .ok (.ifCond .ne 6, 3) := by decide +kernel
theorem dX9_undo_7 : decode cX9_undo 7 = .ok (.bipush (-2), 2) := by decide +kernel
theorem dX9_undo_9 : decode cX9_undo 9 = .ok (.ireturn, 1) := by decide +kernel
theorem dX9_undo_10 : decode cX9_undo 10 = .ok (.aload_n 0, 1) := by decide +kernel
theorem dX9_undo_11 : decode cX9_undo 11 = .ok (.dup, 1) := by decide +kernel
theorem dX9_undo_12 : decode cX9_undo 12 = .ok (.getfield 121, 3) := by decide +kernel
theorem dX9_undo_15 : decode cX9_undo 15 = .ok (.iconst 1, 1) := by decide +kernel
theorem dX9_undo_16 : decode cX9_undo 16 = .ok (.isub, 1) := by decide +kernel
theorem dX9_undo_17 : decode cX9_undo 17 = .ok (.putfield 121, 3) := by decide +kernel
theorem dX9_undo_20 : decode cX9_undo 20 = .ok (.iconst 0, 1) := by decide +kernel
theorem dX9_undo_21 : decode cX9_undo 21 = .ok (.istore_n 1, 1) := by decide +kernel
theorem dX9_undo_22 : decode cX9_undo 22 = .ok (.iload_n 1, 1) := by decide +kernel
theorem dX9_undo_23 : decode cX9_undo 23 = .ok (.bipush 46, 2) := by decide +kernel
theorem dX9_undo_25 : decode cX9_undo 25 = .ok (.if_icmp .ge 29, 3) := by decide +kernel
theorem dX9_undo_28 : decode cX9_undo 28 = .ok (.aload_n 0, 1) := by decide +kernel
theorem dX9_undo_29 : decode cX9_undo 29 = .ok (.getfield 13, 3) := by decide +kernel
theorem dX9_undo_32 : decode cX9_undo 32 = .ok (.iload_n 1, 1) := by decide +kernel
theorem dX9_undo_33 : decode cX9_undo 33 = .ok (.aload_n 0, 1) := by decide +kernel
theorem dX9_undo_34 : decode cX9_undo 34 = .ok (.getfield 19, 3) := by decide +kernel
theorem dX9_undo_37 : decode cX9_undo 37 = .ok (.bipush 46, 2) := by decide +kernel
theorem dX9_undo_39 : decode cX9_undo 39 = .ok (.aload_n 0, 1) := by decide +kernel
theorem dX9_undo_40 : decode cX9_undo 40 = .ok (.getfield 121, 3) := by decide +kernel
theorem dX9_undo_43 : decode cX9_undo 43 = .ok (.imul, 1) := by decide +kernel
theorem dX9_undo_44 : decode cX9_undo 44 = .ok (.iload_n 1, 1) := by decide +kernel
theorem dX9_undo_45 : decode cX9_undo 45 = .ok (.iadd, 1) := by decide +kernel
theorem dX9_undo_46 : decode cX9_undo 46 = .ok (.iaload, 1) := by decide +kernel
theorem dX9_undo_47 : decode cX9_undo 47 = .ok (.iastore, 1) := by decide +kernel
theorem dX9_undo_48 : decode cX9_undo 48 = .ok (.iinc 1 1, 3) := by decide +kernel
theorem dX9_undo_51 : decode cX9_undo 51 = .ok (.goto (-29), 3) := by decide +kernel
theorem dX9_undo_54 : decode cX9_undo 54 = .ok (.aload_n 0, 1) := by decide +kernel
theorem dX9_undo_55 : decode cX9_undo 55 = .ok (.getfield 121, 3) := by decide +kernel
theorem dX9_undo_58 : decode cX9_undo 58 = .ok (.ireturn, 1) := by decide +kernel
theorem dX9_king_0 : decode cX9_king 0 = .ok (.iload_n 1, 1) := by decide +kernel
theorem dX9_king_1 : decode cX9_king 1 = .ok (.iconst 0, 1) := by decide +kernel
theorem dX9_king_2 : decode cX9_king 2 = .ok (.bipush 40, 2) := by decide +kernel
theorem dX9_king_4 : decode cX9_king 4 = .ok (.invokestatic 70, 3) := by decide +kernel
theorem dX9_king_7 : decode cX9_king 7 = .ok (.ifCond .eq 12, 3) := by decide +kernel
theorem dX9_king_10 : decode cX9_king 10 = .ok (.iload_n 2, 1) := by decide +kernel
theorem dX9_king_11 : decode cX9_king 11 = .ok (.iconst 0, 1) := by decide +kernel
theorem dX9_king_12 : decode cX9_king 12 = .ok (.iconst 1, 1) := by decide +kernel
theorem dX9_king_13 : decode cX9_king 13 = .ok (.invokestatic 70, 3) := by decide +kernel
theorem dX9_king_16 : decode cX9_king 16 = .ok (.ifCond .ne 5, 3) := by decide +kernel
theorem dX9_king_19 : decode cX9_king 19 = .ok (.iconst (-1), 1) := by decide +kernel
theorem dX9_king_20 : decode cX9_king 20 = .ok (.ireturn, 1) := by decide +kernel
theorem dX9_king_21 : decode cX9_king 21 = .ok (.aload_n 0, 1) := by decide +kernel
theorem dX9_king_22 : decode cX9_king 22 = .ok (.aload_n 0, 1) := by decide +kernel
theorem dX9_king_23 : decode cX9_king 23 = .ok (.getfield 13, 3) := by decide +kernel
theorem dX9_king_26 : decode cX9_king 26 = .ok (.invokevirtual 166, 3) := by decide +kernel
theorem dX9_king_29 : decode cX9_king 29 = .ok (.aload_n 0, 1) := by decide +kernel
theorem dX9_king_30 : decode cX9_king 30 = .ok (.iload_n 1, 1) := by decide +kernel
theorem dX9_king_31 : decode cX9_king 31 = .ok (.invokevirtual 170, 3) := by decide +kernel
theorem dX9_king_34 : decode cX9_king 34 = .ok (.pop, 1) := by decide +kernel
theorem dX9_king_35 : decode cX9_king 35 = .ok (.iload_n 2, 1) := by decide +kernel
theorem dX9_king_36 : decode cX9_king 36 = .ok (.ifCond .ne 12, 3) := by decide +kernel
theorem dX9_king_39 : decode cX9_king 39 = .ok (.aload_n 0, 1) := by decide +kernel
theorem dX9_king_40 : decode cX9_king 40 = .ok (.getfield 40, 3) := by decide +kernel
theorem dX9_king_43 : decode cX9_king 43 = .ok (.iconst 4, 1) := by decide +kernel
theorem dX9_king_44 : decode cX9_king 44 = .ok (.iaload, 1) := by decide +kernel
theorem dX9_king_45 : decode cX9_king 45 = .ok (.goto 19, 3) := by decide +kernel
theorem dX9_king_48 : decode cX9_king 48 = .ok (.aload_n 0, 1) := by decide +kernel
theorem dX9_king_49 : decode cX9_king 49 = .ok (.aload_n 0, 1) := by decide +kernel
theorem dX9_king_50 : decode cX9_king 50 = .ok (.getfield 40, 3) := by decide +kernel
theorem dX9_king_53 : decode cX9_king 53 = .ok (.iconst 4, 1) := by decide +kernel
theorem dX9_king_54 : decode cX9_king 54 = .ok (.iaload, 1) := by decide +kernel
theorem dX9_king_55 : decode cX9_king 55 = .ok (.aload_n 0, 1) := by decide +kernel
theorem dX9_king_56 : decode cX9_king 56 = .ok (.getfield 40, 3) := by decide +kernel
theorem dX9_king_59 : decode cX9_king 59 = .ok (.iconst 1, 1) := by decide +kernel
theorem dX9_king_60 : decode cX9_king 60 = .ok (.iaload, 1) := by decide +kernel
theorem dX9_king_61 : decode cX9_king 61 = .ok (.invokevirtual 147, 3) := by decide +kernel
theorem dX9_king_64 : decode cX9_king 64 = .ok (.ireturn, 1) := by decide +kernel
theorem dX9_firstBell_0 : decode cX9_firstBell 0 = .ok (.iconst 0, 1) := by decide +kernel
theorem dX9_firstBell_1 : decode cX9_firstBell 1 = .ok (.istore_n 1, 1) := by decide +kernel
theorem dX9_firstBell_2 : decode cX9_firstBell 2 = .ok (.iload_n 1, 1) := by decide +kernel
theorem dX9_firstBell_3 : decode cX9_firstBell 3 = .ok (.bipush 40, 2) := by decide +kernel
theorem dX9_firstBell_5 : decode cX9_firstBell 5 = .ok (.if_icmp .gt 18, 3) := by decide +kernel
theorem dX9_firstBell_8 : decode cX9_firstBell 8 = .ok (.aload_n 0, 1) := by decide +kernel
theorem dX9_firstBell_9 : decode cX9_firstBell 9 = .ok (.invokevirtual 154, 3) := by decide +kernel
theorem dX9_firstBell_12 : decode cX9_firstBell 12 = .ok (.ifCond .eq 5, 3) := by decide +kernel
theorem dX9_firstBell_15 : decode cX9_firstBell 15 = .ok (.iload_n 1, 1) := by decide +kernel
theorem dX9_firstBell_16 : decode cX9_firstBell 16 = .ok (.ireturn, 1) := by decide +kernel
theorem dX9_firstBell_17 : decode cX9_firstBell 17 = .ok (.iinc 1 1, 3) := by decide +kernel
theorem dX9_firstBell_20 : decode cX9_firstBell 20 = .ok (.goto (-18), 3) := by decide +kernel
theorem dX9_firstBell_23 : decode cX9_firstBell 23 = .ok (.bipush (-4), 2) := by decide +kernel
theorem dX9_firstBell_25 : decode cX9_firstBell 25 = .ok (.ireturn, 1) := by decide +kernel
theorem dX9_bell_0 : decode cX9_bell 0 = .ok (.aload_n 0, 1) := by decide +kernel
theorem dX9_bell_1 : decode cX9_bell 1 = .ok (.aload_n 0, 1) := by decide +kernel
theorem dX9_bell_2 : decode cX9_bell 2 = .ok (.getfield 13, 3) := by decide +kernel
theorem dX9_bell_5 : decode cX9_bell 5 = .ok (.invokevirtual 166, 3) := by decide +kernel
theorem dX9_bell_8 : decode cX9_bell 8 = .ok (.aload_n 0, 1) := by decide +kernel
theorem dX9_bell_9 : decode cX9_bell 9 = .ok (.invokevirtual 173, 3) := by decide +kernel
theorem dX9_bell_12 : decode cX9_bell 12 = .ok (.ireturn, 1) := by decide +kernel
theorem dX9_hides_0 : decode cX9_hides 0 = .ok (.iload_n 1, 1) := by decide +kernel
theorem dX9_hides_1 : decode cX9_hides 1 = .ok (.iconst 1, 1) := by decide +kernel
theorem dX9_hides_2 : decode cX9_hides 2 = .ok (.bipush 40, 2) := by decide +kernel
theorem dX9_hides_4 : decode cX9_hides 4 = .ok (.invokestatic 70, 3) := by decide +kernel
theorem dX9_hides_7 : decode cX9_hides 7 = .ok (.ifCond .ne 5, 3) := by decide +kernel
theorem dX9_hides_10 : decode cX9_hides 10 = .ok (.iconst (-1), 1) := by decide +kernel
theorem dX9_hides_11 : decode cX9_hides 11 = .ok (.ireturn, 1) := by decide +kernel
theorem dX9_hides_12 : decode cX9_hides 12 = .ok (.bipush (-4), 2) := by decide +kernel
theorem dX9_hides_14 : decode cX9_hides 14 = .ok (.istore_n 2, 1) := by decide +kernel
theorem dX9_hides_15 : decode cX9_hides 15 = .ok (.iconst 0, 1) := by decide +kernel
theorem dX9_hides_16 : decode cX9_hides 16 = .ok (.istore_n 3, 1) := by decide +kernel
theorem dX9_hides_17 : decode cX9_hides 17 = .ok (.iload_n 3, 1) := by decide +kernel
theorem dX9_hides_18 : decode cX9_hides 18 = .ok (.iconst 1, 1) := by decide +kernel
theorem dX9_hides_19 : decode cX9_hides 19 = .ok (.aload_n 0, 1) := by decide +kernel
theorem dX9_hides_20 : decode cX9_hides 20 = .ok (.getfield 13, 3) := by decide +kernel
theorem dX9_hides_23 : decode cX9_hides 23 = .ok (.iconst 2, 1) := by decide +kernel
theorem dX9_hides_24 : decode cX9_hides 24 = .ok (.iaload, 1) := by decide +kernel
theorem dX9_hides_25 : decode cX9_hides 25 = .ok (.ishl, 1) := by decide +kernel
theorem dX9_hides_26 : decode cX9_hides 26 = .ok (.if_icmp .ge 79, 3) := by decide +kernel
theorem dX9_hides_29 : decode cX9_hides 29 = .ok (.iload_n 3, 1) := by decide +kernel
theorem dX9_hides_30 : decode cX9_hides 30 = .ok (.aload_n 0, 1) := by decide +kernel
theorem dX9_hides_31 : decode cX9_hides 31 = .ok (.getfield 13, 3) := by decide +kernel
theorem dX9_hides_34 : decode cX9_hides 34 = .ok (.iconst 3, 1) := by decide +kernel
theorem dX9_hides_35 : decode cX9_hides 35 = .ok (.iaload, 1) := by decide +kernel
theorem dX9_hides_36 : decode cX9_hides 36 = .ok (.iand, 1) := by decide +kernel
theorem dX9_hides_37 : decode cX9_hides 37 = .ok (.ifCond .ne 22, 3) := by decide +kernel
theorem dX9_hides_40 : decode cX9_hides 40 = .ok (.iload_n 2, 1) := by decide +kernel
theorem dX9_hides_41 : decode cX9_hides 41 = .ok (.ifCond .lt 14, 3) := by decide +kernel
theorem dX9_hides_44 : decode cX9_hides 44 = .ok (.iload_n 3, 1) := by decide +kernel
theorem dX9_hides_45 : decode cX9_hides 45 = .ok (.invokestatic 133, 3) := by decide +kernel
theorem dX9_hides_48 : decode cX9_hides 48 = .ok (.iload_n 2, 1) := by decide +kernel
theorem dX9_hides_49 : decode cX9_hides 49 = .ok (.invokestatic 133, 3) := by decide +kernel
theorem dX9_hides_52 : decode cX9_hides 52 = .ok (.if_icmp .ge 7, 3) := by decide +kernel
theorem dX9_hides_55 : decode cX9_hides 55 = .ok (.iconst 1, 1) := by decide +kernel
theorem dX9_hides_56 : decode cX9_hides 56 = .ok (.goto 4, 3) := by decide +kernel
theorem dX9_hides_59 : decode cX9_hides 59 = .ok (.iconst 0, 1) := by decide +kernel
theorem dX9_hides_60 : decode cX9_hides 60 = .ok (.istore 4, 2) := by decide +kernel
theorem dX9_hides_62 : decode cX9_hides 62 = .ok (.iload 4, 2) := by decide +kernel
theorem dX9_hides_64 : decode cX9_hides 64 = .ok (.ifCond .eq 35, 3) := by decide +kernel
theorem dX9_hides_67 : decode cX9_hides 67 = .ok (.aload_n 0, 1) := by decide +kernel
theorem dX9_hides_68 : decode cX9_hides 68 = .ok (.aload_n 0, 1) := by decide +kernel
theorem dX9_hides_69 : decode cX9_hides 69 = .ok (.getfield 13, 3) := by decide +kernel
theorem dX9_hides_72 : decode cX9_hides 72 = .ok (.invokevirtual 166, 3) := by decide +kernel
theorem dX9_hides_75 : decode cX9_hides 75 = .ok (.aload_n 0, 1) := by decide +kernel
theorem dX9_hides_76 : decode cX9_hides 76 = .ok (.getfield 40, 3) := by decide +kernel
theorem dX9_hides_79 : decode cX9_hides 79 = .ok (.iconst 3, 1) := by decide +kernel
theorem dX9_hides_80 : decode cX9_hides 80 = .ok (.dup2, 1) := by decide +kernel
theorem dX9_hides_81 : decode cX9_hides 81 = .ok (.iaload, 1) := by decide +kernel
theorem dX9_hides_82 : decode cX9_hides 82 = .ok (.iload_n 3, 1) := by decide +kernel
theorem dX9_hides_83 : decode cX9_hides 83 = .ok (.ior, 1) := by decide +kernel
theorem dX9_hides_84 : decode cX9_hides 84 = .ok (.iastore, 1) := by decide +kernel
theorem dX9_hides_85 : decode cX9_hides 85 = .ok (.aload_n 0, 1) := by decide +kernel
theorem dX9_hides_86 : decode cX9_hides 86 = .ok (.iload_n 1, 1) := by decide +kernel
theorem dX9_hides_87 : decode cX9_hides 87 = .ok (.invokevirtual 170, 3) := by decide +kernel
theorem dX9_hides_90 : decode cX9_hides 90 = .ok (.ifCond .ne 7, 3) := by decide +kernel
theorem dX9_hides_93 : decode cX9_hides 93 = .ok (.iload_n 3, 1) := by decide +kernel
theorem dX9_hides_94 : decode cX9_hides 94 = .ok (.goto 4, 3) := by decide +kernel
theorem dX9_hides_97 : decode cX9_hides 97 = .ok (.iload_n 2, 1) := by decide +kernel
theorem dX9_hides_98 : decode cX9_hides 98 = .ok (.istore_n 2, 1) := by decide +kernel
theorem dX9_hides_99 : decode cX9_hides 99 = .ok (.iinc 3 1, 3) := by decide +kernel
theorem dX9_hides_102 : decode cX9_hides 102 = .ok (.goto (-85), 3) := by decide +kernel
theorem dX9_hides_105 : decode cX9_hides 105 = .ok (.iload_n 2, 1) := by decide +kernel
theorem dX9_hides_106 : decode cX9_hides 106 = .ok (.ireturn, 1) := by decide +kernel
theorem dX9_reignsOn_0 : decode cX9_reignsOn 0 = .ok (.iconst 0, 1) := by decide +kernel
theorem dX9_reignsOn_1 : decode cX9_reignsOn 1 = .ok (.istore_n 2, 1) := by decide +kernel
theorem dX9_reignsOn_2 : decode cX9_reignsOn 2 = .ok (.iload_n 2, 1) := by decide +kernel
theorem dX9_reignsOn_3 : decode cX9_reignsOn 3 = .ok (.bipush 40, 2) := by decide +kernel
theorem dX9_reignsOn_5 : decode cX9_reignsOn 5 = .ok (.if_icmp .gt 26, 3) := by decide +kernel
theorem dX9_reignsOn_8 : decode cX9_reignsOn 8 = .ok (.aload_n 0, 1) := by decide +kernel
theorem dX9_reignsOn_9 : decode cX9_reignsOn 9 = .ok (.getfield 40, 3) := by decide +kernel
theorem dX9_reignsOn_12 : decode cX9_reignsOn 12 = .ok (.iconst 4, 1) := by decide +kernel
theorem dX9_reignsOn_13 : decode cX9_reignsOn 13 = .ok (.iaload, 1) := by decide +kernel
theorem dX9_reignsOn_14 : decode cX9_reignsOn 14 = .ok (.iload_n 1, 1) := by decide +kernel
theorem dX9_reignsOn_15 : decode cX9_reignsOn 15 = .ok (.if_icmp .ne 5, 3) := by decide +kernel
theorem dX9_reignsOn_18 : decode cX9_reignsOn 18 = .ok (.iload_n 2, 1) := by decide +kernel
theorem dX9_reignsOn_19 : decode cX9_reignsOn 19 = .ok (.ireturn, 1) := by decide +kernel
theorem dX9_reignsOn_20 : decode cX9_reignsOn 20 = .ok (.aload_n 0, 1) := by decide +kernel
theorem dX9_reignsOn_21 : decode cX9_reignsOn 21 = .ok (.invokevirtual 154, 3) := by decide +kernel
theorem dX9_reignsOn_24 : decode cX9_reignsOn 24 = .ok (.pop, 1) := by decide +kernel
theorem dX9_reignsOn_25 : decode cX9_reignsOn 25 = .ok (.iinc 2 1, 3) := by decide +kernel
theorem dX9_reignsOn_28 : decode cX9_reignsOn 28 = .ok (.goto (-26), 3) := by decide +kernel
theorem dX9_reignsOn_31 : decode cX9_reignsOn 31 = .ok (.bipush 41, 2) := by decide +kernel
theorem dX9_reignsOn_33 : decode cX9_reignsOn 33 = .ok (.ireturn, 1) := by decide +kernel
theorem dX9_raise_0 : decode cX9_raise 0 = .ok (.aload_n 0, 1) := by decide +kernel
theorem dX9_raise_1 : decode cX9_raise 1 = .ok (.iload_n 1, 1) := by decide +kernel
theorem dX9_raise_2 : decode cX9_raise 2 = .ok (.invokevirtual 157, 3) := by decide +kernel
theorem dX9_raise_5 : decode cX9_raise 5 = .ok (.ifCond .eq 12, 3) := by decide +kernel
theorem dX9_raise_8 : decode cX9_raise 8 = .ok (.iload_n 2, 1) := by decide +kernel
theorem dX9_raise_9 : decode cX9_raise 9 = .ok (.iconst 0, 1) := by decide +kernel
theorem dX9_raise_10 : decode cX9_raise 10 = .ok (.iconst 1, 1) := by decide +kernel
theorem dX9_raise_11 : decode cX9_raise 11 = .ok (.invokestatic 70, 3) := by decide +kernel
theorem dX9_raise_14 : decode cX9_raise 14 = .ok (.ifCond .ne 5, 3) := by decide +kernel
theorem dX9_raise_17 : decode cX9_raise 17 = .ok (.iconst (-1), 1) := by decide +kernel
theorem dX9_raise_18 : decode cX9_raise 18 = .ok (.ireturn, 1) := by decide +kernel
theorem dX9_raise_19 : decode cX9_raise 19 = .ok (.aload_n 0, 1) := by decide +kernel
theorem dX9_raise_20 : decode cX9_raise 20 = .ok (.aload_n 0, 1) := by decide +kernel
theorem dX9_raise_21 : decode cX9_raise 21 = .ok (.getfield 13, 3) := by decide +kernel
theorem dX9_raise_24 : decode cX9_raise 24 = .ok (.invokevirtual 166, 3) := by decide +kernel
theorem dX9_raise_27 : decode cX9_raise 27 = .ok (.sipush 1000, 3) := by decide +kernel
theorem dX9_raise_30 : decode cX9_raise 30 = .ok (.istore_n 3, 1) := by decide +kernel
theorem dX9_raise_31 : decode cX9_raise 31 = .ok (.aload_n 0, 1) := by decide +kernel
theorem dX9_raise_32 : decode cX9_raise 32 = .ok (.iload_n 1, 1) := by decide +kernel
theorem dX9_raise_33 : decode cX9_raise 33 = .ok (.invokevirtual 176, 3) := by decide +kernel
theorem dX9_raise_36 : decode cX9_raise 36 = .ok (.istore 4, 2) := by decide +kernel
theorem dX9_raise_38 : decode cX9_raise 38 = .ok (.iconst 0, 1) := by decide +kernel
theorem dX9_raise_39 : decode cX9_raise 39 = .ok (.istore 5, 2) := by decide +kernel
theorem dX9_raise_41 : decode cX9_raise 41 = .ok (.iload 5, 2) := by decide +kernel
theorem dX9_raise_43 : decode cX9_raise 43 = .ok (.bipush 100, 2) := by decide +kernel
theorem dX9_raise_45 : decode cX9_raise 45 = .ok (.if_icmp .ge 90, 3) := by decide +kernel
theorem dX9_raise_48 : decode cX9_raise 48 = .ok (.aload_n 0, 1) := by decide +kernel
theorem dX9_raise_49 : decode cX9_raise 49 = .ok (.aload_n 0, 1) := by decide +kernel
theorem dX9_raise_50 : decode cX9_raise 50 = .ok (.getfield 13, 3) := by decide +kernel
theorem dX9_raise_53 : decode cX9_raise 53 = .ok (.invokevirtual 166, 3) := by decide +kernel
theorem dX9_raise_56 : decode cX9_raise 56 = .ok (.aload_n 0, 1) := by decide +kernel
theorem dX9_raise_57 : decode cX9_raise 57 = .ok (.getfield 40, 3) := by decide +kernel
theorem dX9_raise_60 : decode cX9_raise 60 = .ok (.aload_n 0, 1) := by decide +kernel
theorem dX9_raise_61 : decode cX9_raise 61 = .ok (.getfield 13, 3) := by decide +kernel
theorem dX9_raise_64 : decode cX9_raise 64 = .ok (.iconst 0, 1) := by decide +kernel
theorem dX9_raise_65 : decode cX9_raise 65 = .ok (.iaload, 1) := by decide +kernel
theorem dX9_raise_66 : decode cX9_raise 66 = .ok (.iload 5, 2) := by decide +kernel
theorem dX9_raise_68 : decode cX9_raise 68 = .ok (.iconst 5, 1) := by decide +kernel
theorem dX9_raise_69 : decode cX9_raise 69 = .ok (.idiv, 1) := by decide +kernel
theorem dX9_raise_70 : decode cX9_raise 70 = .ok (.iadd, 1) := by decide +kernel
theorem dX9_raise_71 : decode cX9_raise 71 = .ok (.iconst 1, 1) := by decide +kernel
theorem dX9_raise_72 : decode cX9_raise 72 = .ok (.iload 5, 2) := by decide +kernel
theorem dX9_raise_74 : decode cX9_raise 74 = .ok (.iconst 5, 1) := by decide +kernel
theorem dX9_raise_75 : decode cX9_raise 75 = .ok (.irem, 1) := by decide +kernel
theorem dX9_raise_76 : decode cX9_raise 76 = .ok (.ishl, 1) := by decide +kernel
theorem dX9_raise_77 : decode cX9_raise 77 = .ok (.bipush 9, 2) := by decide +kernel
theorem dX9_raise_79 : decode cX9_raise 79 = .ok (.invokestatic 56, 3) := by decide +kernel
theorem dX9_raise_82 : decode cX9_raise 82 = .ok (.aload_n 0, 1) := by decide +kernel
theorem dX9_raise_83 : decode cX9_raise 83 = .ok (.iload_n 1, 1) := by decide +kernel
theorem dX9_raise_84 : decode cX9_raise 84 = .ok (.invokevirtual 176, 3) := by decide +kernel
theorem dX9_raise_87 : decode cX9_raise 87 = .ok (.istore 6, 2) := by decide +kernel
theorem dX9_raise_89 : decode cX9_raise 89 = .ok (.iload 6, 2) := by decide +kernel
theorem dX9_raise_91 : decode cX9_raise 91 = .ok (.iload 4, 2) := by decide +kernel
theorem dX9_raise_93 : decode cX9_raise 93 = .ok (.if_icmp .ge 18, 3) := by decide +kernel
theorem dX9_raise_96 : decode cX9_raise 96 = .ok (.bipush 10, 2) := by decide +kernel
theorem dX9_raise_98 : decode cX9_raise 98 = .ok (.iload 5, 2) := by decide +kernel
theorem dX9_raise_100 : decode cX9_raise 100 = .ok (.iconst 5, 1) := by decide +kernel
theorem dX9_raise_101 : decode cX9_raise 101 = .ok (.idiv, 1) := by decide +kernel
theorem dX9_raise_102 : decode cX9_raise 102 = .ok (.imul, 1) := by decide +kernel
theorem dX9_raise_103 : decode cX9_raise 103 = .ok (.iload 5, 2) := by decide +kernel
theorem dX9_raise_105 : decode cX9_raise 105 = .ok (.iconst 5, 1) := by decide +kernel
theorem dX9_raise_106 : decode cX9_raise 106 = .ok (.irem, 1) := by decide +kernel
theorem dX9_raise_107 : decode cX9_raise 107 = .ok (.iadd, 1) := by decide +kernel
theorem dX9_raise_108 : decode cX9_raise 108 = .ok (.goto 4, 3) := by decide +kernel
theorem dX9_raise_111 : decode cX9_raise 111 = .ok (.iload_n 3, 1) := by decide +kernel
theorem dX9_raise_112 : decode cX9_raise 112 = .ok (.istore_n 3, 1) := by decide +kernel
theorem dX9_raise_113 : decode cX9_raise 113 = .ok (.iload 6, 2) := by decide +kernel
theorem dX9_raise_115 : decode cX9_raise 115 = .ok (.iload 4, 2) := by decide +kernel
theorem dX9_raise_117 : decode cX9_raise 117 = .ok (.if_icmp .ge 8, 3) := by decide +kernel
theorem dX9_raise_120 : decode cX9_raise 120 = .ok (.iload 6, 2) := by decide +kernel
theorem dX9_raise_122 : decode cX9_raise 122 = .ok (.goto 5, 3) := by decide +kernel
theorem dX9_raise_125 : decode cX9_raise 125 = .ok (.iload 4, 2) := by decide +kernel
theorem dX9_raise_127 : decode cX9_raise 127 = .ok (.istore 4, 2) := by decide +kernel
theorem dX9_raise_129 : decode cX9_raise 129 = .ok (.iinc 5 1, 3) := by decide +kernel
theorem dX9_raise_132 : decode cX9_raise 132 = .ok (.goto (-91), 3) := by decide +kernel
theorem dX9_raise_135 : decode cX9_raise 135 = .ok (.iload 4, 2) := by decide +kernel
theorem dX9_raise_137 : decode cX9_raise 137 = .ok (.bipush 40, 2) := by decide +kernel
theorem dX9_raise_139 : decode cX9_raise 139 = .ok (.if_icmp .le 8, 3) := by decide +kernel
theorem dX9_raise_142 : decode cX9_raise 142 = .ok (.bipush (-4), 2) := by decide +kernel
theorem dX9_raise_144 : decode cX9_raise 144 = .ok (.goto 13, 3) := by decide +kernel
theorem dX9_raise_147 : decode cX9_raise 147 = .ok (.iload_n 2, 1) := by decide +kernel
theorem dX9_raise_148 : decode cX9_raise 148 = .ok (.ifCond .ne 7, 3) := by decide +kernel
theorem dX9_raise_151 : decode cX9_raise 151 = .ok (.iload_n 3, 1) := by decide +kernel
theorem dX9_raise_152 : decode cX9_raise 152 = .ok (.goto 5, 3) := by decide +kernel
theorem dX9_raise_155 : decode cX9_raise 155 = .ok (.iload 4, 2) := by decide +kernel
theorem dX9_raise_157 : decode cX9_raise 157 = .ok (.ireturn, 1) := by decide +kernel
theorem dX9_isOrder_0 : decode cX9_isOrder 0 = .ok (.iload_n 1, 1) := by decide +kernel
theorem dX9_isOrder_1 : decode cX9_isOrder 1 = .ok (.istore_n 2, 1) := by decide +kernel
theorem dX9_isOrder_2 : decode cX9_isOrder 2 = .ok (.iconst 0, 1) := by decide +kernel
theorem dX9_isOrder_3 : decode cX9_isOrder 3 = .ok (.istore_n 3, 1) := by decide +kernel
theorem dX9_isOrder_4 : decode cX9_isOrder 4 = .ok (.aload_n 0, 1) := by decide +kernel
theorem dX9_isOrder_5 : decode cX9_isOrder 5 = .ok (.getfield 67, 3) := by decide +kernel
theorem dX9_isOrder_8 : decode cX9_isOrder 8 = .ok (.iconst 1, 1) := by decide +kernel
theorem dX9_isOrder_9 : decode cX9_isOrder 9 = .ok (.isub, 1) := by decide +kernel
theorem dX9_isOrder_10 : decode cX9_isOrder 10 = .ok (.istore 4, 2) := by decide +kernel
theorem dX9_isOrder_12 : decode cX9_isOrder 12 = .ok (.iload 4, 2) := by decide +kernel
theorem dX9_isOrder_14 : decode cX9_isOrder 14 = .ok (.ifCond .lt 41, 3) := by decide +kernel
theorem dX9_isOrder_17 : decode cX9_isOrder 17 = .ok (.aload_n 0, 1) := by decide +kernel
theorem dX9_isOrder_18 : decode cX9_isOrder 18 = .ok (.getfield 43, 3) := by decide +kernel
theorem dX9_isOrder_21 : decode cX9_isOrder 21 = .ok (.iload 4, 2) := by decide +kernel
theorem dX9_isOrder_23 : decode cX9_isOrder 23 = .ok (.iload_n 2, 1) := by decide +kernel
theorem dX9_isOrder_24 : decode cX9_isOrder 24 = .ok (.aload_n 0, 1) := by decide +kernel
theorem dX9_isOrder_25 : decode cX9_isOrder 25 = .ok (.getfield 67, 3) := by decide +kernel
theorem dX9_isOrder_28 : decode cX9_isOrder 28 = .ok (.irem, 1) := by decide +kernel
theorem dX9_isOrder_29 : decode cX9_isOrder 29 = .ok (.iastore, 1) := by decide +kernel
theorem dX9_isOrder_30 : decode cX9_isOrder 30 = .ok (.iload_n 2, 1) := by decide +kernel
theorem dX9_isOrder_31 : decode cX9_isOrder 31 = .ok (.aload_n 0, 1) := by decide +kernel
theorem dX9_isOrder_32 : decode cX9_isOrder 32 = .ok (.getfield 67, 3) := by decide +kernel
theorem dX9_isOrder_35 : decode cX9_isOrder 35 = .ok (.idiv, 1) := by decide +kernel
theorem dX9_isOrder_36 : decode cX9_isOrder 36 = .ok (.istore_n 2, 1) := by decide +kernel
theorem dX9_isOrder_37 : decode cX9_isOrder 37 = .ok (.iload_n 3, 1) := by decide +kernel
theorem dX9_isOrder_38 : decode cX9_isOrder 38 = .ok (.iconst 1, 1) := by decide +kernel
theorem dX9_isOrder_39 : decode cX9_isOrder 39 = .ok (.aload_n 0, 1) := by decide +kernel
theorem dX9_isOrder_40 : decode cX9_isOrder 40 = .ok (.getfield 43, 3) := by decide +kernel
theorem dX9_isOrder_43 : decode cX9_isOrder 43 = .ok (.iload 4, 2) := by decide +kernel
theorem dX9_isOrder_45 : decode cX9_isOrder 45 = .ok (.iaload, 1) := by decide +kernel
theorem dX9_isOrder_46 : decode cX9_isOrder 46 = .ok (.ishl, 1) := by decide +kernel
theorem dX9_isOrder_47 : decode cX9_isOrder 47 = .ok (.ior, 1) := by decide +kernel
theorem dX9_isOrder_48 : decode cX9_isOrder 48 = .ok (.istore_n 3, 1) := by decide +kernel
theorem dX9_isOrder_49 : decode cX9_isOrder 49 = .ok (.iinc 4 (-1), 3) := by decide +kernel
theorem dX9_isOrder_52 : decode cX9_isOrder 52 = .ok (.goto (-40), 3) := by decide +kernel
theorem dX9_isOrder_55 : decode cX9_isOrder 55 = .ok (.iload_n 3, 1) := by decide +kernel
theorem dX9_isOrder_56 : decode cX9_isOrder 56 = .ok (.iconst 1, 1) := by decide +kernel
theorem dX9_isOrder_57 : decode cX9_isOrder 57 = .ok (.aload_n 0, 1) := by decide +kernel
theorem dX9_isOrder_58 : decode cX9_isOrder 58 = .ok (.getfield 67, 3) := by decide +kernel
theorem dX9_isOrder_61 : decode cX9_isOrder 61 = .ok (.ishl, 1) := by decide +kernel
theorem dX9_isOrder_62 : decode cX9_isOrder 62 = .ok (.iconst 1, 1) := by decide +kernel
theorem dX9_isOrder_63 : decode cX9_isOrder 63 = .ok (.isub, 1) := by decide +kernel
theorem dX9_isOrder_64 : decode cX9_isOrder 64 = .ok (.if_icmp .ne 7, 3) := by decide +kernel
theorem dX9_isOrder_67 : decode cX9_isOrder 67 = .ok (.iconst 1, 1) := by decide +kernel
theorem dX9_isOrder_68 : decode cX9_isOrder 68 = .ok (.goto 4, 3) := by decide +kernel
theorem dX9_isOrder_71 : decode cX9_isOrder 71 = .ok (.iconst 0, 1) := by decide +kernel
theorem dX9_isOrder_72 : decode cX9_isOrder 72 = .ok (.ireturn, 1) := by decide +kernel
theorem dX9_order_0 : decode cX9_order 0 = .ok (.iload_n 1, 1) := by decide +kernel
theorem dX9_order_1 : decode cX9_order 1 = .ok (.iconst 1, 1) := by decide +kernel
theorem dX9_order_2 : decode cX9_order 2 = .ok (.bipush 40, 2) := by decide +kernel
theorem dX9_order_4 : decode cX9_order 4 = .ok (.invokestatic 70, 3) := by decide +kernel
theorem dX9_order_7 : decode cX9_order 7 = .ok (.ifCond .eq 17, 3) := by decide +kernel
theorem dX9_order_10 : decode cX9_order 10 = .ok (.iload_n 2, 1) := by decide +kernel
theorem dX9_order_11 : decode cX9_order 11 = .ok (.iconst (-1), 1) := by decide +kernel
theorem dX9_order_12 : decode cX9_order 12 = .ok (.aload_n 0, 1) := by decide +kernel
theorem dX9_order_13 : decode cX9_order 13 = .ok (.getfield 67, 3) := by decide +kernel
theorem dX9_order_16 : decode cX9_order 16 = .ok (.iconst 1, 1) := by decide +kernel
theorem dX9_order_17 : decode cX9_order 17 = .ok (.isub, 1) := by decide +kernel
theorem dX9_order_18 : decode cX9_order 18 = .ok (.invokestatic 70, 3) := by decide +kernel
theorem dX9_order_21 : decode cX9_order 21 = .ok (.ifCond .ne 5, 3) := by decide +kernel
theorem dX9_order_24 : decode cX9_order 24 = .ok (.iconst (-1), 1) := by decide +kernel
theorem dX9_order_25 : decode cX9_order 25 = .ok (.ireturn, 1) := by decide +kernel
theorem dX9_order_26 : decode cX9_order 26 = .ok (.iconst 1, 1) := by decide +kernel
theorem dX9_order_27 : decode cX9_order 27 = .ok (.istore_n 3, 1) := by decide +kernel
theorem dX9_order_28 : decode cX9_order 28 = .ok (.iconst 0, 1) := by decide +kernel
theorem dX9_order_29 : decode cX9_order 29 = .ok (.istore 4, 2) := by decide +kernel
theorem dX9_order_31 : decode cX9_order 31 = .ok (.iload 4, 2) := by decide +kernel
theorem dX9_order_33 : decode cX9_order 33 = .ok (.aload_n 0, 1) := by decide +kernel
theorem dX9_order_34 : decode cX9_order 34 = .ok (.getfield 67, 3) := by decide +kernel
theorem dX9_order_37 : decode cX9_order 37 = .ok (.if_icmp .ge 16, 3) := by decide +kernel
theorem dX9_order_40 : decode cX9_order 40 = .ok (.iload_n 3, 1) := by decide +kernel
theorem dX9_order_41 : decode cX9_order 41 = .ok (.aload_n 0, 1) := by decide +kernel
theorem dX9_order_42 : decode cX9_order 42 = .ok (.getfield 67, 3) := by decide +kernel
theorem dX9_order_45 : decode cX9_order 45 = .ok (.imul, 1) := by decide +kernel
theorem dX9_order_46 : decode cX9_order 46 = .ok (.istore_n 3, 1) := by decide +kernel
theorem dX9_order_47 : decode cX9_order 47 = .ok (.iinc 4 1, 3) := by decide +kernel
theorem dX9_order_50 : decode cX9_order 50 = .ok (.goto (-19), 3) := by decide +kernel
theorem dX9_order_53 : decode cX9_order 53 = .ok (.iconst (-1), 1) := by decide +kernel
theorem dX9_order_54 : decode cX9_order 54 = .ok (.istore 4, 2) := by decide +kernel
theorem dX9_order_56 : decode cX9_order 56 = .ok (.iconst 0, 1) := by decide +kernel
theorem dX9_order_57 : decode cX9_order 57 = .ok (.istore 5, 2) := by decide +kernel
theorem dX9_order_59 : decode cX9_order 59 = .ok (.iload 5, 2) := by decide +kernel
theorem dX9_order_61 : decode cX9_order 61 = .ok (.iload_n 3, 1) := by decide +kernel
theorem dX9_order_62 : decode cX9_order 62 = .ok (.if_icmp .ge 112, 3) := by decide +kernel
theorem dX9_order_65 : decode cX9_order 65 = .ok (.aload_n 0, 1) := by decide +kernel
theorem dX9_order_66 : decode cX9_order 66 = .ok (.iload 5, 2) := by decide +kernel
theorem dX9_order_68 : decode cX9_order 68 = .ok (.invokevirtual 179, 3) := by decide +kernel
theorem dX9_order_71 : decode cX9_order 71 = .ok (.ifCond .eq 97, 3) := by decide +kernel
theorem dX9_order_74 : decode cX9_order 74 = .ok (.aload_n 0, 1) := by decide +kernel
theorem dX9_order_75 : decode cX9_order 75 = .ok (.aload_n 0, 1) := by decide +kernel
theorem dX9_order_76 : decode cX9_order 76 = .ok (.getfield 13, 3) := by decide +kernel
theorem dX9_order_79 : decode cX9_order 79 = .ok (.invokevirtual 166, 3) := by decide +kernel
theorem dX9_order_82 : decode cX9_order 82 = .ok (.aload_n 0, 1) := by decide +kernel
theorem dX9_order_83 : decode cX9_order 83 = .ok (.getfield 40, 3) := by decide +kernel
theorem dX9_order_86 : decode cX9_order 86 = .ok (.iconst 4, 1) := by decide +kernel
theorem dX9_order_87 : decode cX9_order 87 = .ok (.aload_n 0, 1) := by decide +kernel
theorem dX9_order_88 : decode cX9_order 88 = .ok (.getfield 43, 3) := by decide +kernel
theorem dX9_order_91 : decode cX9_order 91 = .ok (.aload_n 0, 1) := by decide +kernel
theorem dX9_order_92 : decode cX9_order 92 = .ok (.getfield 67, 3) := by decide +kernel
theorem dX9_order_95 : decode cX9_order 95 = .ok (.invokestatic 117, 3) := by decide +kernel
theorem dX9_order_98 : decode cX9_order 98 = .ok (.aload_n 0, 1) := by decide +kernel
theorem dX9_order_99 : decode cX9_order 99 = .ok (.getfield 40, 3) := by decide +kernel
theorem dX9_order_102 : decode cX9_order 102 = .ok (.iconst 1, 1) := by decide +kernel
theorem dX9_order_103 : decode cX9_order 103 = .ok (.aload_n 0, 1) := by decide +kernel
theorem dX9_order_104 : decode cX9_order 104 = .ok (.getfield 43, 3) := by decide +kernel
theorem dX9_order_107 : decode cX9_order 107 = .ok (.iconst 0, 1) := by decide +kernel
theorem dX9_order_108 : decode cX9_order 108 = .ok (.iaload, 1) := by decide +kernel
theorem dX9_order_109 : decode cX9_order 109 = .ok (.aload_n 0, 1) := by decide +kernel
theorem dX9_order_110 : decode cX9_order 110 = .ok (.getfield 13, 3) := by decide +kernel
theorem dX9_order_113 : decode cX9_order 113 = .ok (.iconst 4, 1) := by decide +kernel
theorem dX9_order_114 : decode cX9_order 114 = .ok (.iaload, 1) := by decide +kernel
theorem dX9_order_115 : decode cX9_order 115 = .ok (.if_icmp .ne 12, 3) := by decide +kernel
theorem dX9_order_118 : decode cX9_order 118 = .ok (.aload_n 0, 1) := by decide +kernel
theorem dX9_order_119 : decode cX9_order 119 = .ok (.getfield 13, 3) := by decide +kernel
theorem dX9_order_122 : decode cX9_order 122 = .ok (.iconst 1, 1) := by decide +kernel
theorem dX9_order_123 : decode cX9_order 123 = .ok (.iaload, 1) := by decide +kernel
theorem dX9_order_124 : decode cX9_order 124 = .ok (.goto 4, 3) := by decide +kernel
theorem dX9_order_127 : decode cX9_order 127 = .ok (.iconst 0, 1) := by decide +kernel
theorem dX9_order_128 : decode cX9_order 128 = .ok (.iastore, 1) := by decide +kernel
theorem dX9_order_129 : decode cX9_order 129 = .ok (.aload_n 0, 1) := by decide +kernel
theorem dX9_order_130 : decode cX9_order 130 = .ok (.iload_n 1, 1) := by decide +kernel
theorem dX9_order_131 : decode cX9_order 131 = .ok (.invokevirtual 170, 3) := by decide +kernel
theorem dX9_order_134 : decode cX9_order 134 = .ok (.istore 6, 2) := by decide +kernel
theorem dX9_order_136 : decode cX9_order 136 = .ok (.iload 4, 2) := by decide +kernel
theorem dX9_order_138 : decode cX9_order 138 = .ok (.ifCond .lt 10, 3) := by decide +kernel
theorem dX9_order_141 : decode cX9_order 141 = .ok (.iload 6, 2) := by decide +kernel
theorem dX9_order_143 : decode cX9_order 143 = .ok (.iload 4, 2) := by decide +kernel
theorem dX9_order_145 : decode cX9_order 145 = .ok (.if_icmp .ge 23, 3) := by decide +kernel
theorem dX9_order_148 : decode cX9_order 148 = .ok (.iload 6, 2) := by decide +kernel
theorem dX9_order_150 : decode cX9_order 150 = .ok (.istore 4, 2) := by decide +kernel
theorem dX9_order_152 : decode cX9_order 152 = .ok (.aload_n 0, 1) := by decide +kernel
theorem dX9_order_153 : decode cX9_order 153 = .ok (.getfield 46, 3) := by decide +kernel
theorem dX9_order_156 : decode cX9_order 156 = .ok (.iconst 0, 1) := by decide +kernel
theorem dX9_order_157 : decode cX9_order 157 = .ok (.aload_n 0, 1) := by decide +kernel
theorem dX9_order_158 : decode cX9_order 158 = .ok (.getfield 43, 3) := by decide +kernel
theorem dX9_order_161 : decode cX9_order 161 = .ok (.aload_n 0, 1) := by decide +kernel
theorem dX9_order_162 : decode cX9_order 162 = .ok (.getfield 67, 3) := by decide +kernel
theorem dX9_order_165 : decode cX9_order 165 = .ok (.invokestatic 117, 3) := by decide +kernel
theorem dX9_order_168 : decode cX9_order 168 = .ok (.iinc 5 1, 3) := by decide +kernel
theorem dX9_order_171 : decode cX9_order 171 = .ok (.goto (-112), 3) := by decide +kernel
theorem dX9_order_174 : decode cX9_order 174 = .ok (.iload_n 2, 1) := by decide +kernel
theorem dX9_order_175 : decode cX9_order 175 = .ok (.ifCond .ge 8, 3) := by decide +kernel
theorem dX9_order_178 : decode cX9_order 178 = .ok (.iload 4, 2) := by decide +kernel
theorem dX9_order_180 : decode cX9_order 180 = .ok (.goto 9, 3) := by decide +kernel
theorem dX9_order_183 : decode cX9_order 183 = .ok (.aload_n 0, 1) := by decide +kernel
theorem dX9_order_184 : decode cX9_order 184 = .ok (.getfield 46, 3) := by decide +kernel
theorem dX9_order_187 : decode cX9_order 187 = .ok (.iload_n 2, 1) := by decide +kernel
theorem dX9_order_188 : decode cX9_order 188 = .ok (.iaload, 1) := by decide +kernel
theorem dX9_order_189 : decode cX9_order 189 = .ok (.ireturn, 1) := by decide +kernel
theorem dX9_away_0 : decode cX9_away 0 = .ok (.iload_n 1, 1) := by decide +kernel
theorem dX9_away_1 : decode cX9_away 1 = .ok (.iconst 0, 1) := by decide +kernel
theorem dX9_away_2 : decode cX9_away 2 = .ok (.iconst 1, 1) := by decide +kernel
theorem dX9_away_3 : decode cX9_away 3 = .ok (.invokestatic 70, 3) := by decide +kernel
theorem dX9_away_6 : decode cX9_away 6 = .ok (.ifCond .ne 5, 3) := by decide +kernel
theorem dX9_away_9 : decode cX9_away 9 = .ok (.iconst (-1), 1) := by decide +kernel
theorem dX9_away_10 : decode cX9_away 10 = .ok (.ireturn, 1) := by decide +kernel
theorem dX9_away_11 : decode cX9_away 11 = .ok (.bipush (-4), 2) := by decide +kernel
theorem dX9_away_13 : decode cX9_away 13 = .ok (.istore_n 2, 1) := by decide +kernel
theorem dX9_away_14 : decode cX9_away 14 = .ok (.bipush (-4), 2) := by decide +kernel
theorem dX9_away_16 : decode cX9_away 16 = .ok (.istore_n 3, 1) := by decide +kernel
theorem dX9_away_17 : decode cX9_away 17 = .ok (.iconst 0, 1) := by decide +kernel
theorem dX9_away_18 : decode cX9_away 18 = .ok (.istore 4, 2) := by decide +kernel
theorem dX9_away_20 : decode cX9_away 20 = .ok (.iload 4, 2) := by decide +kernel
theorem dX9_away_22 : decode cX9_away 22 = .ok (.aload_n 0, 1) := by decide +kernel
theorem dX9_away_23 : decode cX9_away 23 = .ok (.getfield 13, 3) := by decide +kernel
theorem dX9_away_26 : decode cX9_away 26 = .ok (.iconst 2, 1) := by decide +kernel
theorem dX9_away_27 : decode cX9_away 27 = .ok (.iaload, 1) := by decide +kernel
theorem dX9_away_28 : decode cX9_away 28 = .ok (.if_icmp .ge 90, 3) := by decide +kernel
theorem dX9_away_31 : decode cX9_away 31 = .ok (.aload_n 0, 1) := by decide +kernel
theorem dX9_away_32 : decode cX9_away 32 = .ok (.getfield 13, 3) := by decide +kernel
theorem dX9_away_35 : decode cX9_away 35 = .ok (.iconst 3, 1) := by decide +kernel
theorem dX9_away_36 : decode cX9_away 36 = .ok (.iaload, 1) := by decide +kernel
theorem dX9_away_37 : decode cX9_away 37 = .ok (.iload 4, 2) := by decide +kernel
theorem dX9_away_39 : decode cX9_away 39 = .ok (.invokestatic 136, 3) := by decide +kernel
theorem dX9_away_42 : decode cX9_away 42 = .ok (.ifCond .ne 70, 3) := by decide +kernel
theorem dX9_away_45 : decode cX9_away 45 = .ok (.aload_n 0, 1) := by decide +kernel
theorem dX9_away_46 : decode cX9_away 46 = .ok (.aload_n 0, 1) := by decide +kernel
theorem dX9_away_47 : decode cX9_away 47 = .ok (.getfield 13, 3) := by decide +kernel
theorem dX9_away_50 : decode cX9_away 50 = .ok (.invokevirtual 166, 3) := by decide +kernel
theorem dX9_away_53 : decode cX9_away 53 = .ok (.aload_n 0, 1) := by decide +kernel
theorem dX9_away_54 : decode cX9_away 54 = .ok (.getfield 40, 3) := by decide +kernel
theorem dX9_away_57 : decode cX9_away 57 = .ok (.iconst 3, 1) := by decide +kernel
theorem dX9_away_58 : decode cX9_away 58 = .ok (.dup2, 1) := by decide +kernel
theorem dX9_away_59 : decode cX9_away 59 = .ok (.iaload, 1) := by decide +kernel
theorem dX9_away_60 : decode cX9_away 60 = .ok (.iconst 1, 1) := by decide +kernel
theorem dX9_away_61 : decode cX9_away 61 = .ok (.iload 4, 2) := by decide +kernel
theorem dX9_away_63 : decode cX9_away 63 = .ok (.ishl, 1) := by decide +kernel
theorem dX9_away_64 : decode cX9_away 64 = .ok (.ior, 1) := by decide +kernel
theorem dX9_away_65 : decode cX9_away 65 = .ok (.iastore, 1) := by decide +kernel
theorem dX9_away_66 : decode cX9_away 66 = .ok (.aload_n 0, 1) := by decide +kernel
theorem dX9_away_67 : decode cX9_away 67 = .ok (.invokevirtual 173, 3) := by decide +kernel
theorem dX9_away_70 : decode cX9_away 70 = .ok (.istore 5, 2) := by decide +kernel
theorem dX9_away_72 : decode cX9_away 72 = .ok (.iload 5, 2) := by decide +kernel
theorem dX9_away_74 : decode cX9_away 74 = .ok (.ifCond .ge 8, 3) := by decide +kernel
theorem dX9_away_77 : decode cX9_away 77 = .ok (.bipush 41, 2) := by decide +kernel
theorem dX9_away_79 : decode cX9_away 79 = .ok (.goto 5, 3) := by decide +kernel
theorem dX9_away_82 : decode cX9_away 82 = .ok (.iload 5, 2) := by decide +kernel
theorem dX9_away_84 : decode cX9_away 84 = .ok (.istore 5, 2) := by decide +kernel
theorem dX9_away_86 : decode cX9_away 86 = .ok (.iload 5, 2) := by decide +kernel
theorem dX9_away_88 : decode cX9_away 88 = .ok (.iload_n 3, 1) := by decide +kernel
theorem dX9_away_89 : decode cX9_away 89 = .ok (.if_icmp .le 8, 3) := by decide +kernel
theorem dX9_away_92 : decode cX9_away 92 = .ok (.iload 4, 2) := by decide +kernel
theorem dX9_away_94 : decode cX9_away 94 = .ok (.goto 4, 3) := by decide +kernel
theorem dX9_away_97 : decode cX9_away 97 = .ok (.iload_n 2, 1) := by decide +kernel
theorem dX9_away_98 : decode cX9_away 98 = .ok (.istore_n 2, 1) := by decide +kernel
theorem dX9_away_99 : decode cX9_away 99 = .ok (.iload 5, 2) := by decide +kernel
theorem dX9_away_101 : decode cX9_away 101 = .ok (.iload_n 3, 1) := by decide +kernel
theorem dX9_away_102 : decode cX9_away 102 = .ok (.if_icmp .le 8, 3) := by decide +kernel
theorem dX9_away_105 : decode cX9_away 105 = .ok (.iload 5, 2) := by decide +kernel
theorem dX9_away_107 : decode cX9_away 107 = .ok (.goto 4, 3) := by decide +kernel
theorem dX9_away_110 : decode cX9_away 110 = .ok (.iload_n 3, 1) := by decide +kernel
theorem dX9_away_111 : decode cX9_away 111 = .ok (.istore_n 3, 1) := by decide +kernel
theorem dX9_away_112 : decode cX9_away 112 = .ok (.iinc 4 1, 3) := by decide +kernel
theorem dX9_away_115 : decode cX9_away 115 = .ok (.goto (-95), 3) := by decide +kernel
theorem dX9_away_118 : decode cX9_away 118 = .ok (.iload_n 1, 1) := by decide +kernel
theorem dX9_away_119 : decode cX9_away 119 = .ok (.ifCond .ne 7, 3) := by decide +kernel
theorem dX9_away_122 : decode cX9_away 122 = .ok (.iload_n 2, 1) := by decide +kernel
theorem dX9_away_123 : decode cX9_away 123 = .ok (.goto 4, 3) := by decide +kernel
theorem dX9_away_126 : decode cX9_away 126 = .ok (.iload_n 3, 1) := by decide +kernel
theorem dX9_away_127 : decode cX9_away 127 = .ok (.ireturn, 1) := by decide +kernel
theorem dX9_seen_0 : decode cX9_seen 0 = .ok (.aload_n 0, 1) := by decide +kernel
theorem dX9_seen_1 : decode cX9_seen 1 = .ok (.iload_n 1, 1) := by decide +kernel
theorem dX9_seen_2 : decode cX9_seen 2 = .ok (.invokevirtual 157, 3) := by decide +kernel
theorem dX9_seen_5 : decode cX9_seen 5 = .ok (.ifCond .eq 13, 3) := by decide +kernel
theorem dX9_seen_8 : decode cX9_seen 8 = .ok (.iload_n 2, 1) := by decide +kernel
theorem dX9_seen_9 : decode cX9_seen 9 = .ok (.iconst 0, 1) := by decide +kernel
theorem dX9_seen_10 : decode cX9_seen 10 = .ok (.bipush 60, 2) := by decide +kernel
theorem dX9_seen_12 : decode cX9_seen 12 = .ok (.invokestatic 70, 3) := by decide +kernel
theorem dX9_seen_15 : decode cX9_seen 15 = .ok (.ifCond .ne 5, 3) := by decide +kernel
theorem dX9_seen_18 : decode cX9_seen 18 = .ok (.iconst (-1), 1) := by decide +kernel
theorem dX9_seen_19 : decode cX9_seen 19 = .ok (.ireturn, 1) := by decide +kernel
theorem dX9_seen_20 : decode cX9_seen 20 = .ok (.aload_n 0, 1) := by decide +kernel
theorem dX9_seen_21 : decode cX9_seen 21 = .ok (.getfield 127, 3) := by decide +kernel
theorem dX9_seen_24 : decode cX9_seen 24 = .ok (.bipush 8, 2) := by decide +kernel
theorem dX9_seen_26 : decode cX9_seen 26 = .ok (.if_icmp .ne 6, 3) := by decide +kernel
theorem dX9_seen_29 : decode cX9_seen 29 = .ok (.bipush (-3), 2) := by decide +kernel
theorem dX9_seen_31 : decode cX9_seen 31 = .ok (.ireturn, 1) := by decide +kernel
theorem dX9_seen_32 : decode cX9_seen 32 = .ok (.aload_n 0, 1) := by decide +kernel
theorem dX9_seen_33 : decode cX9_seen 33 = .ok (.getfield 25, 3) := by decide +kernel
theorem dX9_seen_36 : decode cX9_seen 36 = .ok (.iconst 2, 1) := by decide +kernel
theorem dX9_seen_37 : decode cX9_seen 37 = .ok (.aload_n 0, 1) := by decide +kernel
theorem dX9_seen_38 : decode cX9_seen 38 = .ok (.getfield 127, 3) := by decide +kernel
theorem dX9_seen_41 : decode cX9_seen 41 = .ok (.imul, 1) := by decide +kernel
theorem dX9_seen_42 : decode cX9_seen 42 = .ok (.iload_n 1, 1) := by decide +kernel
theorem dX9_seen_43 : decode cX9_seen 43 = .ok (.iastore, 1) := by decide +kernel
theorem dX9_seen_44 : decode cX9_seen 44 = .ok (.aload_n 0, 1) := by decide +kernel
theorem dX9_seen_45 : decode cX9_seen 45 = .ok (.getfield 25, 3) := by decide +kernel
theorem dX9_seen_48 : decode cX9_seen 48 = .ok (.iconst 2, 1) := by decide +kernel
theorem dX9_seen_49 : decode cX9_seen 49 = .ok (.aload_n 0, 1) := by decide +kernel
theorem dX9_seen_50 : decode cX9_seen 50 = .ok (.getfield 127, 3) := by decide +kernel
theorem dX9_seen_53 : decode cX9_seen 53 = .ok (.imul, 1) := by decide +kernel
theorem dX9_seen_54 : decode cX9_seen 54 = .ok (.iconst 1, 1) := by decide +kernel
theorem dX9_seen_55 : decode cX9_seen 55 = .ok (.iadd, 1) := by decide +kernel
theorem dX9_seen_56 : decode cX9_seen 56 = .ok (.iload_n 2, 1) := by decide +kernel
theorem dX9_seen_57 : decode cX9_seen 57 = .ok (.iastore, 1) := by decide +kernel
theorem dX9_seen_58 : decode cX9_seen 58 = .ok (.aload_n 0, 1) := by decide +kernel
theorem dX9_seen_59 : decode cX9_seen 59 = .ok (.dup, 1) := by decide +kernel
theorem dX9_seen_60 : decode cX9_seen 60 = .ok (.getfield 127, 3) := by decide +kernel
theorem dX9_seen_63 : decode cX9_seen 63 = .ok (.iconst 1, 1) := by decide +kernel
theorem dX9_seen_64 : decode cX9_seen 64 = .ok (.iadd, 1) := by decide +kernel
theorem dX9_seen_65 : decode cX9_seen 65 = .ok (.putfield 127, 3) := by decide +kernel
theorem dX9_seen_68 : decode cX9_seen 68 = .ok (.aload_n 0, 1) := by decide +kernel
theorem dX9_seen_69 : decode cX9_seen 69 = .ok (.getfield 127, 3) := by decide +kernel
theorem dX9_seen_72 : decode cX9_seen 72 = .ok (.ireturn, 1) := by decide +kernel
theorem dX9_forget_0 : decode cX9_forget 0 = .ok (.aload_n 0, 1) := by decide +kernel
theorem dX9_forget_1 : decode cX9_forget 1 = .ok (.getfield 127, 3) := by decide +kernel
theorem dX9_forget_4 : decode cX9_forget 4 = .ok (.istore_n 1, 1) := by decide +kernel
theorem dX9_forget_5 : decode cX9_forget 5 = .ok (.aload_n 0, 1) := by decide +kernel
theorem dX9_forget_6 : decode cX9_forget 6 = .ok (.iconst 0, 1) := by decide +kernel
theorem dX9_forget_7 : decode cX9_forget 7 = .ok (.putfield 127, 3) := by decide +kernel
theorem dX9_forget_10 : decode cX9_forget 10 = .ok (.iload_n 1, 1) := by decide +kernel
theorem dX9_forget_11 : decode cX9_forget 11 = .ok (.ireturn, 1) := by decide +kernel
theorem dX9_tastes_0 : decode cX9_tastes 0 = .ok (.aload_n 0, 1) := by decide +kernel
theorem dX9_tastes_1 : decode cX9_tastes 1 = .ok (.iload_n 1, 1) := by decide +kernel
theorem dX9_tastes_2 : decode cX9_tastes 2 = .ok (.invokevirtual 157, 3) := by decide +kernel
theorem dX9_tastes_5 : decode cX9_tastes 5 = .ok (.ifCond .eq 12, 3) := by decide +kernel
theorem dX9_tastes_8 : decode cX9_tastes 8 = .ok (.iload_n 2, 1) := by decide +kernel
theorem dX9_tastes_9 : decode cX9_tastes 9 = .ok (.iconst 0, 1) := by decide +kernel
theorem dX9_tastes_10 : decode cX9_tastes 10 = .ok (.iconst 1, 1) := by decide +kernel
theorem dX9_tastes_11 : decode cX9_tastes 11 = .ok (.invokestatic 70, 3) := by decide +kernel
theorem dX9_tastes_14 : decode cX9_tastes 14 = .ok (.ifCond .ne 5, 3) := by decide +kernel
theorem dX9_tastes_17 : decode cX9_tastes 17 = .ok (.iconst (-1), 1) := by decide +kernel
theorem dX9_tastes_18 : decode cX9_tastes 18 = .ok (.ireturn, 1) := by decide +kernel
theorem dX9_tastes_19 : decode cX9_tastes 19 = .ok (.aload_n 0, 1) := by decide +kernel
theorem dX9_tastes_20 : decode cX9_tastes 20 = .ok (.getfield 7, 3) := by decide +kernel
theorem dX9_tastes_23 : decode cX9_tastes 23 = .ok (.iconst 3, 1) := by decide +kernel
theorem dX9_tastes_24 : decode cX9_tastes 24 = .ok (.iload_n 1, 1) := by decide +kernel
theorem dX9_tastes_25 : decode cX9_tastes 25 = .ok (.imul, 1) := by decide +kernel
theorem dX9_tastes_26 : decode cX9_tastes 26 = .ok (.iconst 1, 1) := by decide +kernel
theorem dX9_tastes_27 : decode cX9_tastes 27 = .ok (.iadd, 1) := by decide +kernel
theorem dX9_tastes_28 : decode cX9_tastes 28 = .ok (.iaload, 1) := by decide +kernel
theorem dX9_tastes_29 : decode cX9_tastes 29 = .ok (.istore_n 3, 1) := by decide +kernel
theorem dX9_tastes_30 : decode cX9_tastes 30 = .ok (.iconst 0, 1) := by decide +kernel
theorem dX9_tastes_31 : decode cX9_tastes 31 = .ok (.istore 4, 2) := by decide +kernel
theorem dX9_tastes_33 : decode cX9_tastes 33 = .ok (.bipush (-4), 2) := by decide +kernel
theorem dX9_tastes_35 : decode cX9_tastes 35 = .ok (.istore 5, 2) := by decide +kernel
theorem dX9_tastes_37 : decode cX9_tastes 37 = .ok (.bipush 31, 2) := by decide +kernel
theorem dX9_tastes_39 : decode cX9_tastes 39 = .ok (.istore 6, 2) := by decide +kernel
theorem dX9_tastes_41 : decode cX9_tastes 41 = .ok (.iload 6, 2) := by decide +kernel
theorem dX9_tastes_43 : decode cX9_tastes 43 = .ok (.ifCond .lt 146, 3) := by decide +kernel
theorem dX9_tastes_46 : decode cX9_tastes 46 = .ok (.aload_n 0, 1) := by decide +kernel
theorem dX9_tastes_47 : decode cX9_tastes 47 = .ok (.getfield 7, 3) := by decide +kernel
theorem dX9_tastes_50 : decode cX9_tastes 50 = .ok (.iconst 3, 1) := by decide +kernel
theorem dX9_tastes_51 : decode cX9_tastes 51 = .ok (.iload_n 1, 1) := by decide +kernel
theorem dX9_tastes_52 : decode cX9_tastes 52 = .ok (.imul, 1) := by decide +kernel
theorem dX9_tastes_53 : decode cX9_tastes 53 = .ok (.iconst 1, 1) := by decide +kernel
theorem dX9_tastes_54 : decode cX9_tastes 54 = .ok (.iadd, 1) := by decide +kernel
theorem dX9_tastes_55 : decode cX9_tastes 55 = .ok (.iload 6, 2) := by decide +kernel
theorem dX9_tastes_57 : decode cX9_tastes 57 = .ok (.iastore, 1) := by decide +kernel
theorem dX9_tastes_58 : decode cX9_tastes 58 = .ok (.aload_n 0, 1) := by decide +kernel
theorem dX9_tastes_59 : decode cX9_tastes 59 = .ok (.aload_n 0, 1) := by decide +kernel
theorem dX9_tastes_60 : decode cX9_tastes 60 = .ok (.getfield 16, 3) := by decide +kernel
theorem dX9_tastes_63 : decode cX9_tastes 63 = .ok (.invokevirtual 166, 3) := by decide +kernel
theorem dX9_tastes_66 : decode cX9_tastes 66 = .ok (.iconst 1, 1) := by decide +kernel
theorem dX9_tastes_67 : decode cX9_tastes 67 = .ok (.istore 7, 2) := by decide +kernel
theorem dX9_tastes_69 : decode cX9_tastes 69 = .ok (.iconst 0, 1) := by decide +kernel
theorem dX9_tastes_70 : decode cX9_tastes 70 = .ok (.istore 8, 2) := by decide +kernel
theorem dX9_tastes_72 : decode cX9_tastes 72 = .ok (.iload 8, 2) := by decide +kernel
theorem dX9_tastes_74 : decode cX9_tastes 74 = .ok (.bipush 60, 2) := by decide +kernel
theorem dX9_tastes_76 : decode cX9_tastes 76 = .ok (.if_icmp .gt 78, 3) := by decide +kernel
theorem dX9_tastes_79 : decode cX9_tastes 79 = .ok (.iconst 0, 1) := by decide +kernel
theorem dX9_tastes_80 : decode cX9_tastes 80 = .ok (.istore 9, 2) := by decide +kernel
theorem dX9_tastes_82 : decode cX9_tastes 82 = .ok (.iload 9, 2) := by decide +kernel
theorem dX9_tastes_84 : decode cX9_tastes 84 = .ok (.aload_n 0, 1) := by decide +kernel
theorem dX9_tastes_85 : decode cX9_tastes 85 = .ok (.getfield 127, 3) := by decide +kernel
theorem dX9_tastes_88 : decode cX9_tastes 88 = .ok (.if_icmp .ge 55, 3) := by decide +kernel
theorem dX9_tastes_91 : decode cX9_tastes 91 = .ok (.iload 7, 2) := by decide +kernel
theorem dX9_tastes_93 : decode cX9_tastes 93 = .ok (.ifCond .eq 41, 3) := by decide +kernel
theorem dX9_tastes_96 : decode cX9_tastes 96 = .ok (.aload_n 0, 1) := by decide +kernel
theorem dX9_tastes_97 : decode cX9_tastes 97 = .ok (.getfield 25, 3) := by decide +kernel
theorem dX9_tastes_100 : decode cX9_tastes 100 = .ok (.iconst 2, 1) := by decide +kernel
theorem dX9_tastes_101 : decode cX9_tastes 101 = .ok (.iload 9, 2) := by decide +kernel
theorem dX9_tastes_103 : decode cX9_tastes 103 = .ok (.imul, 1) := by decide +kernel
theorem dX9_tastes_104 : decode cX9_tastes 104 = .ok (.iconst 1, 1) := by decide +kernel
theorem dX9_tastes_105 : decode cX9_tastes 105 = .ok (.iadd, 1) := by decide +kernel
theorem dX9_tastes_106 : decode cX9_tastes 106 = .ok (.iaload, 1) := by decide +kernel
theorem dX9_tastes_107 : decode cX9_tastes 107 = .ok (.iload 8, 2) := by decide +kernel
theorem dX9_tastes_109 : decode cX9_tastes 109 = .ok (.if_icmp .ne 21, 3) := by decide +kernel
theorem dX9_tastes_112 : decode cX9_tastes 112 = .ok (.aload_n 0, 1) := by decide +kernel
theorem dX9_tastes_113 : decode cX9_tastes 113 = .ok (.getfield 25, 3) := by decide +kernel
theorem dX9_tastes_116 : decode cX9_tastes 116 = .ok (.iconst 2, 1) := by decide +kernel
theorem dX9_tastes_117 : decode cX9_tastes 117 = .ok (.iload 9, 2) := by decide +kernel
theorem dX9_tastes_119 : decode cX9_tastes 119 = .ok (.imul, 1) := by decide +kernel
theorem dX9_tastes_120 : decode cX9_tastes 120 = .ok (.iaload, 1) := by decide +kernel
theorem dX9_tastes_121 : decode cX9_tastes 121 = .ok (.aload_n 0, 1) := by decide +kernel
theorem dX9_tastes_122 : decode cX9_tastes 122 = .ok (.getfield 40, 3) := by decide +kernel
theorem dX9_tastes_125 : decode cX9_tastes 125 = .ok (.iconst 4, 1) := by decide +kernel
theorem dX9_tastes_126 : decode cX9_tastes 126 = .ok (.iaload, 1) := by decide +kernel
theorem dX9_tastes_127 : decode cX9_tastes 127 = .ok (.if_icmp .ne 7, 3) := by decide +kernel
theorem dX9_tastes_130 : decode cX9_tastes 130 = .ok (.iconst 1, 1) := by decide +kernel
theorem dX9_tastes_131 : decode cX9_tastes 131 = .ok (.goto 4, 3) := by decide +kernel
theorem dX9_tastes_134 : decode cX9_tastes 134 = .ok (.iconst 0, 1) := by decide +kernel
theorem dX9_tastes_135 : decode cX9_tastes 135 = .ok (.istore 7, 2) := by decide +kernel
theorem dX9_tastes_137 : decode cX9_tastes 137 = .ok (.iinc 9 1, 3) := by decide +kernel
theorem dX9_tastes_140 : decode cX9_tastes 140 = .ok (.goto (-58), 3) := by decide +kernel
theorem dX9_tastes_143 : decode cX9_tastes 143 = .ok (.aload_n 0, 1) := by decide +kernel
theorem dX9_tastes_144 : decode cX9_tastes 144 = .ok (.invokevirtual 154, 3) := by decide +kernel
theorem dX9_tastes_147 : decode cX9_tastes 147 = .ok (.pop, 1) := by decide +kernel
theorem dX9_tastes_148 : decode cX9_tastes 148 = .ok (.iinc 8 1, 3) := by decide +kernel
theorem dX9_tastes_151 : decode cX9_tastes 151 = .ok (.goto (-79), 3) := by decide +kernel
theorem dX9_tastes_154 : decode cX9_tastes 154 = .ok (.iload 4, 2) := by decide +kernel
theorem dX9_tastes_156 : decode cX9_tastes 156 = .ok (.iload 7, 2) := by decide +kernel
theorem dX9_tastes_158 : decode cX9_tastes 158 = .ok (.ifCond .eq 7, 3) := by decide +kernel
theorem dX9_tastes_161 : decode cX9_tastes 161 = .ok (.iconst 1, 1) := by decide +kernel
theorem dX9_tastes_162 : decode cX9_tastes 162 = .ok (.goto 4, 3) := by decide +kernel
theorem dX9_tastes_165 : decode cX9_tastes 165 = .ok (.iconst 0, 1) := by decide +kernel
theorem dX9_tastes_166 : decode cX9_tastes 166 = .ok (.iadd, 1) := by decide +kernel
theorem dX9_tastes_167 : decode cX9_tastes 167 = .ok (.istore 4, 2) := by decide +kernel
theorem dX9_tastes_169 : decode cX9_tastes 169 = .ok (.iload 7, 2) := by decide +kernel
theorem dX9_tastes_171 : decode cX9_tastes 171 = .ok (.ifCond .eq 8, 3) := by decide +kernel
theorem dX9_tastes_174 : decode cX9_tastes 174 = .ok (.iload 6, 2) := by decide +kernel
theorem dX9_tastes_176 : decode cX9_tastes 176 = .ok (.goto 5, 3) := by decide +kernel
theorem dX9_tastes_179 : decode cX9_tastes 179 = .ok (.iload 5, 2) := by decide +kernel
theorem dX9_tastes_181 : decode cX9_tastes 181 = .ok (.istore 5, 2) := by decide +kernel
theorem dX9_tastes_183 : decode cX9_tastes 183 = .ok (.iinc 6 (-1), 3) := by decide +kernel
theorem dX9_tastes_186 : decode cX9_tastes 186 = .ok (.goto (-145), 3) := by decide +kernel
theorem dX9_tastes_189 : decode cX9_tastes 189 = .ok (.aload_n 0, 1) := by decide +kernel
theorem dX9_tastes_190 : decode cX9_tastes 190 = .ok (.getfield 7, 3) := by decide +kernel
theorem dX9_tastes_193 : decode cX9_tastes 193 = .ok (.iconst 3, 1) := by decide +kernel
theorem dX9_tastes_194 : decode cX9_tastes 194 = .ok (.iload_n 1, 1) := by decide +kernel
theorem dX9_tastes_195 : decode cX9_tastes 195 = .ok (.imul, 1) := by decide +kernel
theorem dX9_tastes_196 : decode cX9_tastes 196 = .ok (.iconst 1, 1) := by decide +kernel
theorem dX9_tastes_197 : decode cX9_tastes 197 = .ok (.iadd, 1) := by decide +kernel
theorem dX9_tastes_198 : decode cX9_tastes 198 = .ok (.iload_n 3, 1) := by decide +kernel
theorem dX9_tastes_199 : decode cX9_tastes 199 = .ok (.iastore, 1) := by decide +kernel
theorem dX9_tastes_200 : decode cX9_tastes 200 = .ok (.iload_n 2, 1) := by decide +kernel
theorem dX9_tastes_201 : decode cX9_tastes 201 = .ok (.ifCond .ne 8, 3) := by decide +kernel
theorem dX9_tastes_204 : decode cX9_tastes 204 = .ok (.iload 4, 2) := by decide +kernel
theorem dX9_tastes_206 : decode cX9_tastes 206 = .ok (.goto 5, 3) := by decide +kernel
theorem dX9_tastes_209 : decode cX9_tastes 209 = .ok (.iload 5, 2) := by decide +kernel
theorem dX9_tastes_211 : decode cX9_tastes 211 = .ok (.ireturn, 1) := by decide +kernel
theorem dX9_lasts_0 : decode cX9_lasts 0 = .ok (.iload_n 1, 1) := by decide +kernel
theorem dX9_lasts_1 : decode cX9_lasts 1 = .ok (.iconst 0, 1) := by decide +kernel
theorem dX9_lasts_2 : decode cX9_lasts 2 = .ok (.bipush 6, 2) := by decide +kernel
theorem dX9_lasts_4 : decode cX9_lasts 4 = .ok (.invokestatic 70, 3) := by decide +kernel
theorem dX9_lasts_7 : decode cX9_lasts 7 = .ok (.ifCond .eq 44, 3) := by decide +kernel
theorem dX9_lasts_10 : decode cX9_lasts 10 = .ok (.iload_n 2, 1) := by decide +kernel
theorem dX9_lasts_11 : decode cX9_lasts 11 = .ok (.iconst 1, 1) := by decide +kernel
theorem dX9_lasts_12 : decode cX9_lasts 12 = .ok (.bipush 31, 2) := by decide +kernel
theorem dX9_lasts_14 : decode cX9_lasts 14 = .ok (.invokestatic 70, 3) := by decide +kernel
theorem dX9_lasts_17 : decode cX9_lasts 17 = .ok (.ifCond .eq 34, 3) := by decide +kernel
theorem dX9_lasts_20 : decode cX9_lasts 20 = .ok (.iload_n 3, 1) := by decide +kernel
theorem dX9_lasts_21 : decode cX9_lasts 21 = .ok (.iconst 1, 1) := by decide +kernel
theorem dX9_lasts_22 : decode cX9_lasts 22 = .ok (.bipush 9, 2) := by decide +kernel
theorem dX9_lasts_24 : decode cX9_lasts 24 = .ok (.invokestatic 70, 3) := by decide +kernel
theorem dX9_lasts_27 : decode cX9_lasts 27 = .ok (.ifCond .eq 24, 3) := by decide +kernel
theorem dX9_lasts_30 : decode cX9_lasts 30 = .ok (.iload 4, 2) := by decide +kernel
theorem dX9_lasts_32 : decode cX9_lasts 32 = .ok (.iconst 0, 1) := by decide +kernel
theorem dX9_lasts_33 : decode cX9_lasts 33 = .ok (.bipush 10, 2) := by decide +kernel
theorem dX9_lasts_35 : decode cX9_lasts 35 = .ok (.invokestatic 70, 3) := by decide +kernel
theorem dX9_lasts_38 : decode cX9_lasts 38 = .ok (.ifCond .eq 13, 3) := by decide +kernel
theorem dX9_lasts_41 : decode cX9_lasts 41 = .ok (.iload 5, 2) := by decide +kernel
theorem dX9_lasts_43 : decode cX9_lasts 43 = .ok (.iconst 0, 1) := by decide +kernel
theorem dX9_lasts_44 : decode cX9_lasts 44 = .ok (.iconst 1, 1) := by decide +kernel
theorem dX9_lasts_45 : decode cX9_lasts 45 = .ok (.invokestatic 70, 3) := by decide +kernel
theorem dX9_lasts_48 : decode cX9_lasts 48 = .ok (.ifCond .ne 5, 3) := by decide +kernel
theorem dX9_lasts_51 : decode cX9_lasts 51 = .ok (.iconst (-1), 1) := by decide +kernel
theorem dX9_lasts_52 : decode cX9_lasts 52 = .ok (.ireturn, 1) := by decide +kernel
theorem dX9_lasts_53 : decode cX9_lasts 53 = .ok (.iconst 0, 1) := by decide +kernel
theorem dX9_lasts_54 : decode cX9_lasts 54 = .ok (.istore 6, 2) := by decide +kernel
theorem dX9_lasts_56 : decode cX9_lasts 56 = .ok (.iconst 1, 1) := by decide +kernel
theorem dX9_lasts_57 : decode cX9_lasts 57 = .ok (.istore 7, 2) := by decide +kernel
theorem dX9_lasts_59 : decode cX9_lasts 59 = .ok (.iconst 0, 1) := by decide +kernel
theorem dX9_lasts_60 : decode cX9_lasts 60 = .ok (.istore 8, 2) := by decide +kernel
theorem dX9_lasts_62 : decode cX9_lasts 62 = .ok (.iload 8, 2) := by decide +kernel
theorem dX9_lasts_64 : decode cX9_lasts 64 = .ok (.iload_n 1, 1) := by decide +kernel
theorem dX9_lasts_65 : decode cX9_lasts 65 = .ok (.if_icmp .ge 16, 3) := by decide +kernel
theorem dX9_lasts_68 : decode cX9_lasts 68 = .ok (.iload 7, 2) := by decide +kernel
theorem dX9_lasts_70 : decode cX9_lasts 70 = .ok (.bipush 10, 2) := by decide +kernel
theorem dX9_lasts_72 : decode cX9_lasts 72 = .ok (.imul, 1) := by decide +kernel
theorem dX9_lasts_73 : decode cX9_lasts 73 = .ok (.istore 7, 2) := by decide +kernel
theorem dX9_lasts_75 : decode cX9_lasts 75 = .ok (.iinc 8 1, 3) := by decide +kernel
theorem dX9_lasts_78 : decode cX9_lasts 78 = .ok (.goto (-16), 3) := by decide +kernel
theorem dX9_lasts_81 : decode cX9_lasts 81 = .ok (.iconst 0, 1) := by decide +kernel
theorem dX9_lasts_82 : decode cX9_lasts 82 = .ok (.istore 8, 2) := by decide +kernel
theorem dX9_lasts_84 : decode cX9_lasts 84 = .ok (.iload 8, 2) := by decide +kernel
theorem dX9_lasts_86 : decode cX9_lasts 86 = .ok (.iconst 1, 1) := by decide +kernel
theorem dX9_lasts_87 : decode cX9_lasts 87 = .ok (.iload_n 1, 1) := by decide +kernel
theorem dX9_lasts_88 : decode cX9_lasts 88 = .ok (.ishl, 1) := by decide +kernel
theorem dX9_lasts_89 : decode cX9_lasts 89 = .ok (.if_icmp .ge 122, 3) := by decide +kernel
theorem dX9_lasts_92 : decode cX9_lasts 92 = .ok (.iconst 1, 1) := by decide +kernel
theorem dX9_lasts_93 : decode cX9_lasts 93 = .ok (.istore 9, 2) := by decide +kernel
theorem dX9_lasts_95 : decode cX9_lasts 95 = .ok (.iconst 0, 1) := by decide +kernel
theorem dX9_lasts_96 : decode cX9_lasts 96 = .ok (.istore 10, 2) := by decide +kernel
theorem dX9_lasts_98 : decode cX9_lasts 98 = .ok (.aload_n 0, 1) := by decide +kernel
theorem dX9_lasts_99 : decode cX9_lasts 99 = .ok (.aload_n 0, 1) := by decide +kernel
theorem dX9_lasts_100 : decode cX9_lasts 100 = .ok (.getfield 13, 3) := by decide +kernel
theorem dX9_lasts_103 : decode cX9_lasts 103 = .ok (.invokevirtual 166, 3) := by decide +kernel
theorem dX9_lasts_106 : decode cX9_lasts 106 = .ok (.aload_n 0, 1) := by decide +kernel
theorem dX9_lasts_107 : decode cX9_lasts 107 = .ok (.iload_n 2, 1) := by decide +kernel
theorem dX9_lasts_108 : decode cX9_lasts 108 = .ok (.putfield 144, 3) := by decide +kernel
theorem dX9_lasts_111 : decode cX9_lasts 111 = .ok (.iconst 0, 1) := by decide +kernel
theorem dX9_lasts_112 : decode cX9_lasts 112 = .ok (.istore 11, 2) := by decide +kernel
theorem dX9_lasts_114 : decode cX9_lasts 114 = .ok (.iload 11, 2) := by decide +kernel
theorem dX9_lasts_116 : decode cX9_lasts 116 = .ok (.iload_n 1, 1) := by decide +kernel
theorem dX9_lasts_117 : decode cX9_lasts 117 = .ok (.if_icmp .ge 72, 3) := by decide +kernel
theorem dX9_lasts_120 : decode cX9_lasts 120 = .ok (.aload_n 0, 1) := by decide +kernel
theorem dX9_lasts_121 : decode cX9_lasts 121 = .ok (.iload 8, 2) := by decide +kernel
theorem dX9_lasts_123 : decode cX9_lasts 123 = .ok (.iload 11, 2) := by decide +kernel
theorem dX9_lasts_125 : decode cX9_lasts 125 = .ok (.invokestatic 136, 3) := by decide +kernel
theorem dX9_lasts_128 : decode cX9_lasts 128 = .ok (.ifCond .eq 7, 3) := by decide +kernel
theorem dX9_lasts_131 : decode cX9_lasts 131 = .ok (.iload_n 3, 1) := by decide +kernel
theorem dX9_lasts_132 : decode cX9_lasts 132 = .ok (.goto 4, 3) := by decide +kernel
theorem dX9_lasts_135 : decode cX9_lasts 135 = .ok (.iconst 0, 1) := by decide +kernel
theorem dX9_lasts_136 : decode cX9_lasts 136 = .ok (.putfield 130, 3) := by decide +kernel
theorem dX9_lasts_139 : decode cX9_lasts 139 = .ok (.iload 9, 2) := by decide +kernel
theorem dX9_lasts_141 : decode cX9_lasts 141 = .ok (.iload 8, 2) := by decide +kernel
theorem dX9_lasts_143 : decode cX9_lasts 143 = .ok (.iload 11, 2) := by decide +kernel
theorem dX9_lasts_145 : decode cX9_lasts 145 = .ok (.invokestatic 136, 3) := by decide +kernel
theorem dX9_lasts_148 : decode cX9_lasts 148 = .ok (.ifCond .eq 8, 3) := by decide +kernel
theorem dX9_lasts_151 : decode cX9_lasts 151 = .ok (.iload 4, 2) := by decide +kernel
theorem dX9_lasts_153 : decode cX9_lasts 153 = .ok (.goto 8, 3) := by decide +kernel
theorem dX9_lasts_156 : decode cX9_lasts 156 = .ok (.bipush 10, 2) := by decide +kernel
theorem dX9_lasts_158 : decode cX9_lasts 158 = .ok (.iload 4, 2) := by decide +kernel
theorem dX9_lasts_160 : decode cX9_lasts 160 = .ok (.isub, 1) := by decide +kernel
theorem dX9_lasts_161 : decode cX9_lasts 161 = .ok (.imul, 1) := by decide +kernel
theorem dX9_lasts_162 : decode cX9_lasts 162 = .ok (.istore 9, 2) := by decide +kernel
theorem dX9_lasts_164 : decode cX9_lasts 164 = .ok (.aload_n 0, 1) := by decide +kernel
theorem dX9_lasts_165 : decode cX9_lasts 165 = .ok (.invokevirtual 154, 3) := by decide +kernel
theorem dX9_lasts_168 : decode cX9_lasts 168 = .ok (.ifCond .ne 8, 3) := by decide +kernel
theorem dX9_lasts_171 : decode cX9_lasts 171 = .ok (.iload 10, 2) := by decide +kernel
theorem dX9_lasts_173 : decode cX9_lasts 173 = .ok (.ifCond .eq 7, 3) := by decide +kernel
theorem dX9_lasts_176 : decode cX9_lasts 176 = .ok (.iconst 1, 1) := by decide +kernel
theorem dX9_lasts_177 : decode cX9_lasts 177 = .ok (.goto 4, 3) := by decide +kernel
theorem dX9_lasts_180 : decode cX9_lasts 180 = .ok (.iconst 0, 1) := by decide +kernel
theorem dX9_lasts_181 : decode cX9_lasts 181 = .ok (.istore 10, 2) := by decide +kernel
theorem dX9_lasts_183 : decode cX9_lasts 183 = .ok (.iinc 11 1, 3) := by decide +kernel
theorem dX9_lasts_186 : decode cX9_lasts 186 = .ok (.goto (-72), 3) := by decide +kernel
theorem dX9_lasts_189 : decode cX9_lasts 189 = .ok (.iload 6, 2) := by decide +kernel
theorem dX9_lasts_191 : decode cX9_lasts 191 = .ok (.iload 10, 2) := by decide +kernel
theorem dX9_lasts_193 : decode cX9_lasts 193 = .ok (.ifCond .eq 7, 3) := by decide +kernel
theorem dX9_lasts_196 : decode cX9_lasts 196 = .ok (.iconst 0, 1) := by decide +kernel
theorem dX9_lasts_197 : decode cX9_lasts 197 = .ok (.goto 5, 3) := by decide +kernel
theorem dX9_lasts_200 : decode cX9_lasts 200 = .ok (.iload 9, 2) := by decide +kernel
theorem dX9_lasts_202 : decode cX9_lasts 202 = .ok (.iadd, 1) := by decide +kernel
theorem dX9_lasts_203 : decode cX9_lasts 203 = .ok (.istore 6, 2) := by decide +kernel
theorem dX9_lasts_205 : decode cX9_lasts 205 = .ok (.iinc 8 1, 3) := by decide +kernel
theorem dX9_lasts_208 : decode cX9_lasts 208 = .ok (.goto (-124), 3) := by decide +kernel
theorem dX9_lasts_211 : decode cX9_lasts 211 = .ok (.iload 6, 2) := by decide +kernel
theorem dX9_lasts_213 : decode cX9_lasts 213 = .ok (.istore 8, 2) := by decide +kernel
theorem dX9_lasts_215 : decode cX9_lasts 215 = .ok (.iload 7, 2) := by decide +kernel
theorem dX9_lasts_217 : decode cX9_lasts 217 = .ok (.istore 9, 2) := by decide +kernel
theorem dX9_lasts_219 : decode cX9_lasts 219 = .ok (.iload 9, 2) := by decide +kernel
theorem dX9_lasts_221 : decode cX9_lasts 221 = .ok (.ifCond .le 21, 3) := by decide +kernel
theorem dX9_lasts_224 : decode cX9_lasts 224 = .ok (.iload 8, 2) := by decide +kernel
theorem dX9_lasts_226 : decode cX9_lasts 226 = .ok (.iload 9, 2) := by decide +kernel
theorem dX9_lasts_228 : decode cX9_lasts 228 = .ok (.irem, 1) := by decide +kernel
theorem dX9_lasts_229 : decode cX9_lasts 229 = .ok (.istore 10, 2) := by decide +kernel
theorem dX9_lasts_231 : decode cX9_lasts 231 = .ok (.iload 9, 2) := by decide +kernel
theorem dX9_lasts_233 : decode cX9_lasts 233 = .ok (.istore 8, 2) := by decide +kernel
theorem dX9_lasts_235 : decode cX9_lasts 235 = .ok (.iload 10, 2) := by decide +kernel
theorem dX9_lasts_237 : decode cX9_lasts 237 = .ok (.istore 9, 2) := by decide +kernel
theorem dX9_lasts_239 : decode cX9_lasts 239 = .ok (.goto (-20), 3) := by decide +kernel
theorem dX9_lasts_242 : decode cX9_lasts 242 = .ok (.iload 5, 2) := by decide +kernel
theorem dX9_lasts_244 : decode cX9_lasts 244 = .ok (.ifCond .ne 8, 3) := by decide +kernel
theorem dX9_lasts_247 : decode cX9_lasts 247 = .ok (.iload 6, 2) := by decide +kernel
theorem dX9_lasts_249 : decode cX9_lasts 249 = .ok (.goto 5, 3) := by decide +kernel
theorem dX9_lasts_252 : decode cX9_lasts 252 = .ok (.iload 7, 2) := by decide +kernel
theorem dX9_lasts_254 : decode cX9_lasts 254 = .ok (.iload 8, 2) := by decide +kernel
theorem dX9_lasts_256 : decode cX9_lasts 256 = .ok (.idiv, 1) := by decide +kernel
theorem dX9_lasts_257 : decode cX9_lasts 257 = .ok (.ireturn, 1) := by decide +kernel
theorem dX9_content_0 : decode cX9_content 0 = .ok (.iload_n 1, 1) := by decide +kernel
theorem dX9_content_1 : decode cX9_content 1 = .ok (.iconst 0, 1) := by decide +kernel
theorem dX9_content_2 : decode cX9_content 2 = .ok (.bipush 40, 2) := by decide +kernel
theorem dX9_content_4 : decode cX9_content 4 = .ok (.invokestatic 70, 3) := by decide +kernel
theorem dX9_content_7 : decode cX9_content 7 = .ok (.ifCond .ne 5, 3) := by decide +kernel
theorem dX9_content_10 : decode cX9_content 10 = .ok (.iconst (-1), 1) := by decide +kernel
theorem dX9_content_11 : decode cX9_content 11 = .ok (.ireturn, 1) := by decide +kernel
theorem dX9_content_12 : decode cX9_content 12 = .ok (.aload_n 0, 1) := by decide +kernel
theorem dX9_content_13 : decode cX9_content 13 = .ok (.aload_n 0, 1) := by decide +kernel
theorem dX9_content_14 : decode cX9_content 14 = .ok (.getfield 13, 3) := by decide +kernel
theorem dX9_content_17 : decode cX9_content 17 = .ok (.invokevirtual 166, 3) := by decide +kernel
theorem dX9_content_20 : decode cX9_content 20 = .ok (.aload_n 0, 1) := by decide +kernel
theorem dX9_content_21 : decode cX9_content 21 = .ok (.getfield 40, 3) := by decide +kernel
theorem dX9_content_24 : decode cX9_content 24 = .ok (.iconst 0, 1) := by decide +kernel
theorem dX9_content_25 : decode cX9_content 25 = .ok (.dup2, 1) := by decide +kernel
theorem dX9_content_26 : decode cX9_content 26 = .ok (.iaload, 1) := by decide +kernel
theorem dX9_content_27 : decode cX9_content 27 = .ok (.iload_n 1, 1) := by decide +kernel
theorem dX9_content_28 : decode cX9_content 28 = .ok (.iadd, 1) := by decide +kernel
theorem dX9_content_29 : decode cX9_content 29 = .ok (.iastore, 1) := by decide +kernel
theorem dX9_content_30 : decode cX9_content 30 = .ok (.iconst 0, 1) := by decide +kernel
theorem dX9_content_31 : decode cX9_content 31 = .ok (.istore_n 2, 1) := by decide +kernel
theorem dX9_content_32 : decode cX9_content 32 = .ok (.iconst 0, 1) := by decide +kernel
theorem dX9_content_33 : decode cX9_content 33 = .ok (.istore_n 3, 1) := by decide +kernel
theorem dX9_content_34 : decode cX9_content 34 = .ok (.iload_n 3, 1) := by decide +kernel
theorem dX9_content_35 : decode cX9_content 35 = .ok (.aload_n 0, 1) := by decide +kernel
theorem dX9_content_36 : decode cX9_content 36 = .ok (.getfield 67, 3) := by decide +kernel
theorem dX9_content_39 : decode cX9_content 39 = .ok (.if_icmp .ge 33, 3) := by decide +kernel
theorem dX9_content_42 : decode cX9_content 42 = .ok (.iload_n 2, 1) := by decide +kernel
theorem dX9_content_43 : decode cX9_content 43 = .ok (.aload_n 0, 1) := by decide +kernel
theorem dX9_content_44 : decode cX9_content 44 = .ok (.iload_n 3, 1) := by decide +kernel
theorem dX9_content_45 : decode cX9_content 45 = .ok (.aload_n 0, 1) := by decide +kernel
theorem dX9_content_46 : decode cX9_content 46 = .ok (.iload_n 3, 1) := by decide +kernel
theorem dX9_content_47 : decode cX9_content 47 = .ok (.iconst 0, 1) := by decide +kernel
theorem dX9_content_48 : decode cX9_content 48 = .ok (.invokevirtual 147, 3) := by decide +kernel
theorem dX9_content_51 : decode cX9_content 51 = .ok (.invokevirtual 151, 3) := by decide +kernel
theorem dX9_content_54 : decode cX9_content 54 = .ok (.ifCond .eq 9, 3) := by decide +kernel
theorem dX9_content_57 : decode cX9_content 57 = .ok (.iconst 1, 1) := by decide +kernel
theorem dX9_content_58 : decode cX9_content 58 = .ok (.iload_n 3, 1) := by decide +kernel
theorem dX9_content_59 : decode cX9_content 59 = .ok (.ishl, 1) := by decide +kernel
theorem dX9_content_60 : decode cX9_content 60 = .ok (.goto 4, 3) := by decide +kernel
theorem dX9_content_63 : decode cX9_content 63 = .ok (.iconst 0, 1) := by decide +kernel
theorem dX9_content_64 : decode cX9_content 64 = .ok (.ior, 1) := by decide +kernel
theorem dX9_content_65 : decode cX9_content 65 = .ok (.istore_n 2, 1) := by decide +kernel
theorem dX9_content_66 : decode cX9_content 66 = .ok (.iinc 3 1, 3) := by decide +kernel
theorem dX9_content_69 : decode cX9_content 69 = .ok (.goto (-35), 3) := by decide +kernel
theorem dX9_content_72 : decode cX9_content 72 = .ok (.iload_n 2, 1) := by decide +kernel
theorem dX9_content_73 : decode cX9_content 73 = .ok (.ireturn, 1) := by decide +kernel
theorem dX9_dull_0 : decode cX9_dull 0 = .ok (.iload_n 1, 1) := by decide +kernel
theorem dX9_dull_1 : decode cX9_dull 1 = .ok (.iconst 0, 1) := by decide +kernel
theorem dX9_dull_2 : decode cX9_dull 2 = .ok (.iconst 1, 1) := by decide +kernel
theorem dX9_dull_3 : decode cX9_dull 3 = .ok (.invokestatic 70, 3) := by decide +kernel
theorem dX9_dull_6 : decode cX9_dull 6 = .ok (.ifCond .ne 5, 3) := by decide +kernel
theorem dX9_dull_9 : decode cX9_dull 9 = .ok (.iconst (-1), 1) := by decide +kernel
theorem dX9_dull_10 : decode cX9_dull 10 = .ok (.ireturn, 1) := by decide +kernel
theorem dX9_dull_11 : decode cX9_dull 11 = .ok (.aload_n 0, 1) := by decide +kernel
theorem dX9_dull_12 : decode cX9_dull 12 = .ok (.aload_n 0, 1) := by decide +kernel
theorem dX9_dull_13 : decode cX9_dull 13 = .ok (.getfield 13, 3) := by decide +kernel
theorem dX9_dull_16 : decode cX9_dull 16 = .ok (.invokevirtual 166, 3) := by decide +kernel
theorem dX9_dull_19 : decode cX9_dull 19 = .ok (.iconst 0, 1) := by decide +kernel
theorem dX9_dull_20 : decode cX9_dull 20 = .ok (.istore_n 2, 1) := by decide +kernel
theorem dX9_dull_21 : decode cX9_dull 21 = .ok (.bipush (-4), 2) := by decide +kernel
theorem dX9_dull_23 : decode cX9_dull 23 = .ok (.istore_n 3, 1) := by decide +kernel
theorem dX9_dull_24 : decode cX9_dull 24 = .ok (.iconst 0, 1) := by decide +kernel
theorem dX9_dull_25 : decode cX9_dull 25 = .ok (.istore 4, 2) := by decide +kernel
theorem dX9_dull_27 : decode cX9_dull 27 = .ok (.iconst 0, 1) := by decide +kernel
theorem dX9_dull_28 : decode cX9_dull 28 = .ok (.istore 5, 2) := by decide +kernel
theorem dX9_dull_30 : decode cX9_dull 30 = .ok (.iload 5, 2) := by decide +kernel
theorem dX9_dull_32 : decode cX9_dull 32 = .ok (.bipush 40, 2) := by decide +kernel
theorem dX9_dull_34 : decode cX9_dull 34 = .ok (.if_icmp .ge 57, 3) := by decide +kernel
theorem dX9_dull_37 : decode cX9_dull 37 = .ok (.aload_n 0, 1) := by decide +kernel
theorem dX9_dull_38 : decode cX9_dull 38 = .ok (.invokevirtual 154, 3) := by decide +kernel
theorem dX9_dull_41 : decode cX9_dull 41 = .ok (.ifCond .eq 7, 3) := by decide +kernel
theorem dX9_dull_44 : decode cX9_dull 44 = .ok (.iconst 0, 1) := by decide +kernel
theorem dX9_dull_45 : decode cX9_dull 45 = .ok (.goto 7, 3) := by decide +kernel
theorem dX9_dull_48 : decode cX9_dull 48 = .ok (.iload 4, 2) := by decide +kernel
theorem dX9_dull_50 : decode cX9_dull 50 = .ok (.iconst 1, 1) := by decide +kernel
theorem dX9_dull_51 : decode cX9_dull 51 = .ok (.iadd, 1) := by decide +kernel
theorem dX9_dull_52 : decode cX9_dull 52 = .ok (.istore 4, 2) := by decide +kernel
theorem dX9_dull_54 : decode cX9_dull 54 = .ok (.iload 4, 2) := by decide +kernel
theorem dX9_dull_56 : decode cX9_dull 56 = .ok (.iload_n 2, 1) := by decide +kernel
theorem dX9_dull_57 : decode cX9_dull 57 = .ok (.if_icmp .le 13, 3) := by decide +kernel
theorem dX9_dull_60 : decode cX9_dull 60 = .ok (.iload 5, 2) := by decide +kernel
theorem dX9_dull_62 : decode cX9_dull 62 = .ok (.iload 4, 2) := by decide +kernel
theorem dX9_dull_64 : decode cX9_dull 64 = .ok (.isub, 1) := by decide +kernel
theorem dX9_dull_65 : decode cX9_dull 65 = .ok (.iconst 1, 1) := by decide +kernel
theorem dX9_dull_66 : decode cX9_dull 66 = .ok (.iadd, 1) := by decide +kernel
theorem dX9_dull_67 : decode cX9_dull 67 = .ok (.goto 4, 3) := by decide +kernel
theorem dX9_dull_70 : decode cX9_dull 70 = .ok (.iload_n 3, 1) := by decide +kernel
theorem dX9_dull_71 : decode cX9_dull 71 = .ok (.istore_n 3, 1) := by decide +kernel
theorem dX9_dull_72 : decode cX9_dull 72 = .ok (.iload 4, 2) := by decide +kernel
theorem dX9_dull_74 : decode cX9_dull 74 = .ok (.iload_n 2, 1) := by decide +kernel
theorem dX9_dull_75 : decode cX9_dull 75 = .ok (.if_icmp .le 8, 3) := by decide +kernel
theorem dX9_dull_78 : decode cX9_dull 78 = .ok (.iload 4, 2) := by decide +kernel
theorem dX9_dull_80 : decode cX9_dull 80 = .ok (.goto 4, 3) := by decide +kernel
theorem dX9_dull_83 : decode cX9_dull 83 = .ok (.iload_n 2, 1) := by decide +kernel
theorem dX9_dull_84 : decode cX9_dull 84 = .ok (.istore_n 2, 1) := by decide +kernel
theorem dX9_dull_85 : decode cX9_dull 85 = .ok (.iinc 5 1, 3) := by decide +kernel
theorem dX9_dull_88 : decode cX9_dull 88 = .ok (.goto (-58), 3) := by decide +kernel
theorem dX9_dull_91 : decode cX9_dull 91 = .ok (.iload_n 1, 1) := by decide +kernel
theorem dX9_dull_92 : decode cX9_dull 92 = .ok (.ifCond .ne 7, 3) := by decide +kernel
theorem dX9_dull_95 : decode cX9_dull 95 = .ok (.iload_n 2, 1) := by decide +kernel
theorem dX9_dull_96 : decode cX9_dull 96 = .ok (.goto 4, 3) := by decide +kernel
theorem dX9_dull_99 : decode cX9_dull 99 = .ok (.iload_n 3, 1) := by decide +kernel
theorem dX9_dull_100 : decode cX9_dull 100 = .ok (.ireturn, 1) := by decide +kernel
theorem dX9_year_0 : decode cX9_year 0 = .ok (.iload_n 1, 1) := by decide +kernel
theorem dX9_year_1 : decode cX9_year 1 = .ok (.iconst 0, 1) := by decide +kernel
theorem dX9_year_2 : decode cX9_year 2 = .ok (.sipush 9999, 3) := by decide +kernel
theorem dX9_year_5 : decode cX9_year 5 = .ok (.invokestatic 70, 3) := by decide +kernel
theorem dX9_year_8 : decode cX9_year 8 = .ok (.ifCond .eq 22, 3) := by decide +kernel
theorem dX9_year_11 : decode cX9_year 11 = .ok (.iload_n 2, 1) := by decide +kernel
theorem dX9_year_12 : decode cX9_year 12 = .ok (.iconst 1, 1) := by decide +kernel
theorem dX9_year_13 : decode cX9_year 13 = .ok (.bipush 60, 2) := by decide +kernel
theorem dX9_year_15 : decode cX9_year 15 = .ok (.invokestatic 70, 3) := by decide +kernel
theorem dX9_year_18 : decode cX9_year 18 = .ok (.ifCond .eq 12, 3) := by decide +kernel
theorem dX9_year_21 : decode cX9_year 21 = .ok (.iload_n 3, 1) := by decide +kernel
theorem dX9_year_22 : decode cX9_year 22 = .ok (.iconst 0, 1) := by decide +kernel
theorem dX9_year_23 : decode cX9_year 23 = .ok (.iconst 1, 1) := by decide +kernel
theorem dX9_year_24 : decode cX9_year 24 = .ok (.invokestatic 70, 3) := by decide +kernel
theorem dX9_year_27 : decode cX9_year 27 = .ok (.ifCond .ne 5, 3) := by decide +kernel
theorem dX9_year_30 : decode cX9_year 30 = .ok (.iconst (-1), 1) := by decide +kernel
theorem dX9_year_31 : decode cX9_year 31 = .ok (.ireturn, 1) := by decide +kernel
theorem dX9_year_32 : decode cX9_year 32 = .ok (.aload_n 0, 1) := by decide +kernel
theorem dX9_year_33 : decode cX9_year 33 = .ok (.aload_n 0, 1) := by decide +kernel
theorem dX9_year_34 : decode cX9_year 34 = .ok (.getfield 13, 3) := by decide +kernel
theorem dX9_year_37 : decode cX9_year 37 = .ok (.invokevirtual 166, 3) := by decide +kernel
theorem dX9_year_40 : decode cX9_year 40 = .ok (.iconst 0, 1) := by decide +kernel
theorem dX9_year_41 : decode cX9_year 41 = .ok (.istore 4, 2) := by decide +kernel
theorem dX9_year_43 : decode cX9_year 43 = .ok (.iconst 0, 1) := by decide +kernel
theorem dX9_year_44 : decode cX9_year 44 = .ok (.istore 5, 2) := by decide +kernel
theorem dX9_year_46 : decode cX9_year 46 = .ok (.iload 5, 2) := by decide +kernel
theorem dX9_year_48 : decode cX9_year 48 = .ok (.iload_n 2, 1) := by decide +kernel
theorem dX9_year_49 : decode cX9_year 49 = .ok (.if_icmp .ge 97, 3) := by decide +kernel
theorem dX9_year_52 : decode cX9_year 52 = .ok (.ldc2_w 182, 3) := by decide +kernel
theorem dX9_year_55 : decode cX9_year 55 = .ok (.iload_n 1, 1) := by decide +kernel
end
section
theorem dX9_year_56 : decode cX9_year 56 = .ok (.i2l, 1) := by decide +kernel
theorem dX9_year_57 : decode cX9_year 57 = .ok (.lmul, 1) := by decide +kernel
theorem dX9_year_58 : decode cX9_year 58 = .ok (.ldc2_w 184, 3) := by decide +kernel
theorem dX9_year_61 : decode cX9_year 61 = .ok (.iload 5, 2) := by decide +kernel
theorem dX9_year_63 : decode cX9_year 63 = .ok (.i2l, 1) := by decide +kernel
theorem dX9_year_64 : decode cX9_year 64 = .ok (.lmul, 1) := by decide +kernel
theorem dX9_year_65 : decode cX9_year 65 = .ok (.ladd, 1) := by decide +kernel
theorem dX9_year_66 : decode cX9_year 66 = .ok (.lconst 1, 1) := by decide +kernel
theorem dX9_year_67 : decode cX9_year 67 = .ok (.ladd, 1) := by decide +kernel
theorem dX9_year_68 : decode cX9_year 68 = .ok (.lstore 6, 2) := by decide +kernel
theorem dX9_year_70 : decode cX9_year 70 = .ok (.lload 6, 2) := by decide +kernel
theorem dX9_year_72 : decode cX9_year 72 = .ok (.lload 6, 2) := by decide +kernel
theorem dX9_year_74 : decode cX9_year 74 = .ok (.lmul, 1) := by decide +kernel
theorem dX9_year_75 : decode cX9_year 75 = .ok (.ldc2_w 186, 3) := by decide +kernel
theorem dX9_year_78 : decode cX9_year 78 = .ok (.lrem, 1) := by decide +kernel
theorem dX9_year_79 : decode cX9_year 79 = .ok (.ldc2_w 188, 3) := by decide +kernel
theorem dX9_year_82 : decode cX9_year 82 = .ok (.ldiv, 1) := by decide +kernel
theorem dX9_year_83 : decode cX9_year 83 = .ok (.l2i, 1) := by decide +kernel
theorem dX9_year_84 : decode cX9_year 84 = .ok (.istore 8, 2) := by decide +kernel
theorem dX9_year_86 : decode cX9_year 86 = .ok (.aload_n 0, 1) := by decide +kernel
theorem dX9_year_87 : decode cX9_year 87 = .ok (.iconst 1, 1) := by decide +kernel
theorem dX9_year_88 : decode cX9_year 88 = .ok (.iload 8, 2) := by decide +kernel
theorem dX9_year_90 : decode cX9_year 90 = .ok (.iconst 4, 1) := by decide +kernel
theorem dX9_year_91 : decode cX9_year 91 = .ok (.idiv, 1) := by decide +kernel
theorem dX9_year_92 : decode cX9_year 92 = .ok (.iconst 5, 1) := by decide +kernel
theorem dX9_year_93 : decode cX9_year 93 = .ok (.irem, 1) := by decide +kernel
theorem dX9_year_94 : decode cX9_year 94 = .ok (.ishl, 1) := by decide +kernel
theorem dX9_year_95 : decode cX9_year 95 = .ok (.putfield 144, 3) := by decide +kernel
theorem dX9_year_98 : decode cX9_year 98 = .ok (.aload_n 0, 1) := by decide +kernel
theorem dX9_year_99 : decode cX9_year 99 = .ok (.iload 8, 2) := by decide +kernel
theorem dX9_year_101 : decode cX9_year 101 = .ok (.iconst 3, 1) := by decide +kernel
theorem dX9_year_102 : decode cX9_year 102 = .ok (.irem, 1) := by decide +kernel
theorem dX9_year_103 : decode cX9_year 103 = .ok (.ifCond .ne 16, 3) := by decide +kernel
theorem dX9_year_106 : decode cX9_year 106 = .ok (.iload 8, 2) := by decide +kernel
theorem dX9_year_108 : decode cX9_year 108 = .ok (.bipush 32, 2) := by decide +kernel
theorem dX9_year_110 : decode cX9_year 110 = .ok (.idiv, 1) := by decide +kernel
theorem dX9_year_111 : decode cX9_year 111 = .ok (.bipush 9, 2) := by decide +kernel
theorem dX9_year_113 : decode cX9_year 113 = .ok (.irem, 1) := by decide +kernel
theorem dX9_year_114 : decode cX9_year 114 = .ok (.iconst 1, 1) := by decide +kernel
theorem dX9_year_115 : decode cX9_year 115 = .ok (.iadd, 1) := by decide +kernel
theorem dX9_year_116 : decode cX9_year 116 = .ok (.goto 4, 3) := by decide +kernel
theorem dX9_year_119 : decode cX9_year 119 = .ok (.iconst 0, 1) := by decide +kernel
theorem dX9_year_120 : decode cX9_year 120 = .ok (.putfield 130, 3) := by decide +kernel
theorem dX9_year_123 : decode cX9_year 123 = .ok (.iload 4, 2) := by decide +kernel
theorem dX9_year_125 : decode cX9_year 125 = .ok (.aload_n 0, 1) := by decide +kernel
theorem dX9_year_126 : decode cX9_year 126 = .ok (.invokevirtual 154, 3) := by decide +kernel
theorem dX9_year_129 : decode cX9_year 129 = .ok (.ifCond .eq 7, 3) := by decide +kernel
theorem dX9_year_132 : decode cX9_year 132 = .ok (.iconst 1, 1) := by decide +kernel
theorem dX9_year_133 : decode cX9_year 133 = .ok (.goto 4, 3) := by decide +kernel
theorem dX9_year_136 : decode cX9_year 136 = .ok (.iconst 0, 1) := by decide +kernel
theorem dX9_year_137 : decode cX9_year 137 = .ok (.iadd, 1) := by decide +kernel
theorem dX9_year_138 : decode cX9_year 138 = .ok (.istore 4, 2) := by decide +kernel
theorem dX9_year_140 : decode cX9_year 140 = .ok (.iinc 5 1, 3) := by decide +kernel
theorem dX9_year_143 : decode cX9_year 143 = .ok (.goto (-97), 3) := by decide +kernel
theorem dX9_year_146 : decode cX9_year 146 = .ok (.iload_n 3, 1) := by decide +kernel
theorem dX9_year_147 : decode cX9_year 147 = .ok (.ifCond .ne 8, 3) := by decide +kernel
theorem dX9_year_150 : decode cX9_year 150 = .ok (.iload 4, 2) := by decide +kernel
theorem dX9_year_152 : decode cX9_year 152 = .ok (.goto 9, 3) := by decide +kernel
theorem dX9_year_155 : decode cX9_year 155 = .ok (.aload_n 0, 1) := by decide +kernel
theorem dX9_year_156 : decode cX9_year 156 = .ok (.getfield 40, 3) := by decide +kernel
theorem dX9_year_159 : decode cX9_year 159 = .ok (.iconst 4, 1) := by decide +kernel
theorem dX9_year_160 : decode cX9_year 160 = .ok (.iaload, 1) := by decide +kernel
theorem dX9_year_161 : decode cX9_year 161 = .ok (.ireturn, 1) := by decide +kernel
theorem dX9_keep_0 : decode cX9_keep 0 = .ok (.aload_n 0, 1) := by decide +kernel
theorem dX9_keep_1 : decode cX9_keep 1 = .ok (.getfield 124, 3) := by decide +kernel
theorem dX9_keep_4 : decode cX9_keep 4 = .ok (.iconst 2, 1) := by decide +kernel
theorem dX9_keep_5 : decode cX9_keep 5 = .ok (.if_icmp .ne 6, 3) := by decide +kernel
theorem dX9_keep_8 : decode cX9_keep 8 = .ok (.bipush (-3), 2) := by decide +kernel
theorem dX9_keep_10 : decode cX9_keep 10 = .ok (.ireturn, 1) := by decide +kernel
theorem dX9_keep_11 : decode cX9_keep 11 = .ok (.aload_n 0, 1) := by decide +kernel
theorem dX9_keep_12 : decode cX9_keep 12 = .ok (.getfield 22, 3) := by decide +kernel
theorem dX9_keep_15 : decode cX9_keep 15 = .ok (.bipush 46, 2) := by decide +kernel
theorem dX9_keep_17 : decode cX9_keep 17 = .ok (.aload_n 0, 1) := by decide +kernel
theorem dX9_keep_18 : decode cX9_keep 18 = .ok (.getfield 124, 3) := by decide +kernel
theorem dX9_keep_21 : decode cX9_keep 21 = .ok (.imul, 1) := by decide +kernel
theorem dX9_keep_22 : decode cX9_keep 22 = .ok (.aload_n 0, 1) := by decide +kernel
theorem dX9_keep_23 : decode cX9_keep 23 = .ok (.getfield 13, 3) := by decide +kernel
theorem dX9_keep_26 : decode cX9_keep 26 = .ok (.bipush 46, 2) := by decide +kernel
theorem dX9_keep_28 : decode cX9_keep 28 = .ok (.invokestatic 117, 3) := by decide +kernel
theorem dX9_keep_31 : decode cX9_keep 31 = .ok (.aload_n 0, 1) := by decide +kernel
theorem dX9_keep_32 : decode cX9_keep 32 = .ok (.dup, 1) := by decide +kernel
theorem dX9_keep_33 : decode cX9_keep 33 = .ok (.getfield 124, 3) := by decide +kernel
theorem dX9_keep_36 : decode cX9_keep 36 = .ok (.iconst 1, 1) := by decide +kernel
theorem dX9_keep_37 : decode cX9_keep 37 = .ok (.iadd, 1) := by decide +kernel
theorem dX9_keep_38 : decode cX9_keep 38 = .ok (.putfield 124, 3) := by decide +kernel
theorem dX9_keep_41 : decode cX9_keep 41 = .ok (.aload_n 0, 1) := by decide +kernel
theorem dX9_keep_42 : decode cX9_keep 42 = .ok (.getfield 124, 3) := by decide +kernel
theorem dX9_keep_45 : decode cX9_keep 45 = .ok (.ireturn, 1) := by decide +kernel
theorem dX9_back_0 : decode cX9_back 0 = .ok (.aload_n 0, 1) := by decide +kernel
theorem dX9_back_1 : decode cX9_back 1 = .ok (.getfield 124, 3) := by decide +kernel
theorem dX9_back_4 : decode cX9_back 4 = .ok (.ifCond .ne 6, 3) := by decide +kernel
theorem dX9_back_7 : decode cX9_back 7 = .ok (.bipush (-2), 2) := by decide +kernel
theorem dX9_back_9 : decode cX9_back 9 = .ok (.ireturn, 1) := by decide +kernel
theorem dX9_back_10 : decode cX9_back 10 = .ok (.aload_n 0, 1) := by decide +kernel
theorem dX9_back_11 : decode cX9_back 11 = .ok (.dup, 1) := by decide +kernel
theorem dX9_back_12 : decode cX9_back 12 = .ok (.getfield 124, 3) := by decide +kernel
theorem dX9_back_15 : decode cX9_back 15 = .ok (.iconst 1, 1) := by decide +kernel
theorem dX9_back_16 : decode cX9_back 16 = .ok (.isub, 1) := by decide +kernel
theorem dX9_back_17 : decode cX9_back 17 = .ok (.putfield 124, 3) := by decide +kernel
theorem dX9_back_20 : decode cX9_back 20 = .ok (.iconst 0, 1) := by decide +kernel
theorem dX9_back_21 : decode cX9_back 21 = .ok (.istore_n 1, 1) := by decide +kernel
theorem dX9_back_22 : decode cX9_back 22 = .ok (.iload_n 1, 1) := by decide +kernel
theorem dX9_back_23 : decode cX9_back 23 = .ok (.bipush 46, 2) := by decide +kernel
theorem dX9_back_25 : decode cX9_back 25 = .ok (.if_icmp .ge 29, 3) := by decide +kernel
theorem dX9_back_28 : decode cX9_back 28 = .ok (.aload_n 0, 1) := by decide +kernel
theorem dX9_back_29 : decode cX9_back 29 = .ok (.getfield 13, 3) := by decide +kernel
theorem dX9_back_32 : decode cX9_back 32 = .ok (.iload_n 1, 1) := by decide +kernel
theorem dX9_back_33 : decode cX9_back 33 = .ok (.aload_n 0, 1) := by decide +kernel
theorem dX9_back_34 : decode cX9_back 34 = .ok (.getfield 22, 3) := by decide +kernel
theorem dX9_back_37 : decode cX9_back 37 = .ok (.bipush 46, 2) := by decide +kernel
theorem dX9_back_39 : decode cX9_back 39 = .ok (.aload_n 0, 1) := by decide +kernel
theorem dX9_back_40 : decode cX9_back 40 = .ok (.getfield 124, 3) := by decide +kernel
theorem dX9_back_43 : decode cX9_back 43 = .ok (.imul, 1) := by decide +kernel
theorem dX9_back_44 : decode cX9_back 44 = .ok (.iload_n 1, 1) := by decide +kernel
theorem dX9_back_45 : decode cX9_back 45 = .ok (.iadd, 1) := by decide +kernel
theorem dX9_back_46 : decode cX9_back 46 = .ok (.iaload, 1) := by decide +kernel
theorem dX9_back_47 : decode cX9_back 47 = .ok (.iastore, 1) := by decide +kernel
theorem dX9_back_48 : decode cX9_back 48 = .ok (.iinc 1 1, 3) := by decide +kernel
theorem dX9_back_51 : decode cX9_back 51 = .ok (.goto (-29), 3) := by decide +kernel
theorem dX9_back_54 : decode cX9_back 54 = .ok (.aload_n 0, 1) := by decide +kernel
theorem dX9_back_55 : decode cX9_back 55 = .ok (.iconst 0, 1) := by decide +kernel
theorem dX9_back_56 : decode cX9_back 56 = .ok (.putfield 121, 3) := by decide +kernel
theorem dX9_back_59 : decode cX9_back 59 = .ok (.aload_n 0, 1) := by decide +kernel
theorem dX9_back_60 : decode cX9_back 60 = .ok (.getfield 124, 3) := by decide +kernel
theorem dX9_back_63 : decode cX9_back 63 = .ok (.ireturn, 1) := by decide +kernel
theorem dX9_count_0 : decode cX9_count 0 = .ok (.iload_n 1, 1) := by decide +kernel
theorem dX9_count_1 : decode cX9_count 1 = .ok (.tableswitch 105 0 8 #[51, 56, 63, 70, 80, 85, 90, 95, 100], 51) := by decide +kernel
theorem dX9_count_52 : decode cX9_count 52 = .ok (.aload_n 0, 1) := by decide +kernel
theorem dX9_count_53 : decode cX9_count 53 = .ok (.getfield 67, 3) := by decide +kernel
theorem dX9_count_56 : decode cX9_count 56 = .ok (.ireturn, 1) := by decide +kernel
theorem dX9_count_57 : decode cX9_count 57 = .ok (.aload_n 0, 1) := by decide +kernel
theorem dX9_count_58 : decode cX9_count 58 = .ok (.getfield 13, 3) := by decide +kernel
theorem dX9_count_61 : decode cX9_count 61 = .ok (.iconst 2, 1) := by decide +kernel
theorem dX9_count_62 : decode cX9_count 62 = .ok (.iaload, 1) := by decide +kernel
theorem dX9_count_63 : decode cX9_count 63 = .ok (.ireturn, 1) := by decide +kernel
theorem dX9_count_64 : decode cX9_count 64 = .ok (.aload_n 0, 1) := by decide +kernel
theorem dX9_count_65 : decode cX9_count 65 = .ok (.getfield 13, 3) := by decide +kernel
theorem dX9_count_68 : decode cX9_count 68 = .ok (.iconst 0, 1) := by decide +kernel
theorem dX9_count_69 : decode cX9_count 69 = .ok (.iaload, 1) := by decide +kernel
theorem dX9_count_70 : decode cX9_count 70 = .ok (.ireturn, 1) := by decide +kernel
theorem dX9_count_71 : decode cX9_count 71 = .ok (.aload_n 0, 1) := by decide +kernel
theorem dX9_count_72 : decode cX9_count 72 = .ok (.getfield 13, 3) := by decide +kernel
theorem dX9_count_75 : decode cX9_count 75 = .ok (.iconst 3, 1) := by decide +kernel
theorem dX9_count_76 : decode cX9_count 76 = .ok (.iaload, 1) := by decide +kernel
theorem dX9_count_77 : decode cX9_count 77 = .ok (.invokestatic 133, 3) := by decide +kernel
theorem dX9_count_80 : decode cX9_count 80 = .ok (.ireturn, 1) := by decide +kernel
theorem dX9_count_81 : decode cX9_count 81 = .ok (.aload_n 0, 1) := by decide +kernel
theorem dX9_count_82 : decode cX9_count 82 = .ok (.getfield 127, 3) := by decide +kernel
theorem dX9_count_85 : decode cX9_count 85 = .ok (.ireturn, 1) := by decide +kernel
theorem dX9_count_86 : decode cX9_count 86 = .ok (.aload_n 0, 1) := by decide +kernel
theorem dX9_count_87 : decode cX9_count 87 = .ok (.getfield 121, 3) := by decide +kernel
theorem dX9_count_90 : decode cX9_count 90 = .ok (.ireturn, 1) := by decide +kernel
theorem dX9_count_91 : decode cX9_count 91 = .ok (.aload_n 0, 1) := by decide +kernel
theorem dX9_count_92 : decode cX9_count 92 = .ok (.getfield 124, 3) := by decide +kernel
theorem dX9_count_95 : decode cX9_count 95 = .ok (.ireturn, 1) := by decide +kernel
theorem dX9_count_96 : decode cX9_count 96 = .ok (.aload_n 0, 1) := by decide +kernel
theorem dX9_count_97 : decode cX9_count 97 = .ok (.getfield 74, 3) := by decide +kernel
theorem dX9_count_100 : decode cX9_count 100 = .ok (.ireturn, 1) := by decide +kernel
theorem dX9_count_101 : decode cX9_count 101 = .ok (.aload_n 0, 1) := by decide +kernel
theorem dX9_count_102 : decode cX9_count 102 = .ok (.getfield 114, 3) := by decide +kernel
theorem dX9_count_105 : decode cX9_count 105 = .ok (.ireturn, 1) := by decide +kernel
theorem dX9_count_106 : decode cX9_count 106 = .ok (.iconst (-1), 1) := by decide +kernel
theorem dX9_count_107 : decode cX9_count 107 = .ok (.ireturn, 1) := by decide +kernel
theorem dJ6_bitCount_0f7a4_0 : decode cJ6_bitCount_0f7a4 0 = .ok (.iload_n 0, 1) := by decide +kernel
theorem dJ6_bitCount_0f7a4_1 : decode cJ6_bitCount_0f7a4 1 = .ok (.iload_n 0, 1) := by decide +kernel
theorem dJ6_bitCount_0f7a4_2 : decode cJ6_bitCount_0f7a4 2 = .ok (.iconst 1, 1) := by decide +kernel
theorem dJ6_bitCount_0f7a4_3 : decode cJ6_bitCount_0f7a4 3 = .ok (.iushr, 1) := by decide +kernel
theorem dJ6_bitCount_0f7a4_4 : decode cJ6_bitCount_0f7a4 4 = .ok (.ldc_w 265, 3) := by decide +kernel
theorem dJ6_bitCount_0f7a4_7 : decode cJ6_bitCount_0f7a4 7 = .ok (.iand, 1) := by decide +kernel
theorem dJ6_bitCount_0f7a4_8 : decode cJ6_bitCount_0f7a4 8 = .ok (.isub, 1) := by decide +kernel
theorem dJ6_bitCount_0f7a4_9 : decode cJ6_bitCount_0f7a4 9 = .ok (.istore_n 0, 1) := by decide +kernel
theorem dJ6_bitCount_0f7a4_10 : decode cJ6_bitCount_0f7a4 10 = .ok (.iload_n 0, 1) := by decide +kernel
theorem dJ6_bitCount_0f7a4_11 : decode cJ6_bitCount_0f7a4 11 = .ok (.ldc_w 266, 3) := by decide +kernel
theorem dJ6_bitCount_0f7a4_14 : decode cJ6_bitCount_0f7a4 14 = .ok (.iand, 1) := by decide +kernel
theorem dJ6_bitCount_0f7a4_15 : decode cJ6_bitCount_0f7a4 15 = .ok (.iload_n 0, 1) := by decide +kernel
theorem dJ6_bitCount_0f7a4_16 : decode cJ6_bitCount_0f7a4 16 = .ok (.iconst 2, 1) := by decide +kernel
theorem dJ6_bitCount_0f7a4_17 : decode cJ6_bitCount_0f7a4 17 = .ok (.iushr, 1) := by decide +kernel
theorem dJ6_bitCount_0f7a4_18 : decode cJ6_bitCount_0f7a4 18 = .ok (.ldc_w 266, 3) := by decide +kernel
theorem dJ6_bitCount_0f7a4_21 : decode cJ6_bitCount_0f7a4 21 = .ok (.iand, 1) := by decide +kernel
theorem dJ6_bitCount_0f7a4_22 : decode cJ6_bitCount_0f7a4 22 = .ok (.iadd, 1) := by decide +kernel
theorem dJ6_bitCount_0f7a4_23 : decode cJ6_bitCount_0f7a4 23 = .ok (.istore_n 0, 1) := by decide +kernel
theorem dJ6_bitCount_0f7a4_24 : decode cJ6_bitCount_0f7a4 24 = .ok (.iload_n 0, 1) := by decide +kernel
theorem dJ6_bitCount_0f7a4_25 : decode cJ6_bitCount_0f7a4 25 = .ok (.iload_n 0, 1) := by decide +kernel
theorem dJ6_bitCount_0f7a4_26 : decode cJ6_bitCount_0f7a4 26 = .ok (.iconst 4, 1) := by decide +kernel
theorem dJ6_bitCount_0f7a4_27 : decode cJ6_bitCount_0f7a4 27 = .ok (.iushr, 1) := by decide +kernel
theorem dJ6_bitCount_0f7a4_28 : decode cJ6_bitCount_0f7a4 28 = .ok (.iadd, 1) := by decide +kernel
theorem dJ6_bitCount_0f7a4_29 : decode cJ6_bitCount_0f7a4 29 = .ok (.ldc_w 267, 3) := by decide +kernel
theorem dJ6_bitCount_0f7a4_32 : decode cJ6_bitCount_0f7a4 32 = .ok (.iand, 1) := by decide +kernel
theorem dJ6_bitCount_0f7a4_33 : decode cJ6_bitCount_0f7a4 33 = .ok (.istore_n 0, 1) := by decide +kernel
theorem dJ6_bitCount_0f7a4_34 : decode cJ6_bitCount_0f7a4 34 = .ok (.iload_n 0, 1) := by decide +kernel
theorem dJ6_bitCount_0f7a4_35 : decode cJ6_bitCount_0f7a4 35 = .ok (.iload_n 0, 1) := by decide +kernel
theorem dJ6_bitCount_0f7a4_36 : decode cJ6_bitCount_0f7a4 36 = .ok (.bipush 8, 2) := by decide +kernel
theorem dJ6_bitCount_0f7a4_38 : decode cJ6_bitCount_0f7a4 38 = .ok (.iushr, 1) := by decide +kernel
theorem dJ6_bitCount_0f7a4_39 : decode cJ6_bitCount_0f7a4 39 = .ok (.iadd, 1) := by decide +kernel
theorem dJ6_bitCount_0f7a4_40 : decode cJ6_bitCount_0f7a4 40 = .ok (.istore_n 0, 1) := by decide +kernel
theorem dJ6_bitCount_0f7a4_41 : decode cJ6_bitCount_0f7a4 41 = .ok (.iload_n 0, 1) := by decide +kernel
theorem dJ6_bitCount_0f7a4_42 : decode cJ6_bitCount_0f7a4 42 = .ok (.iload_n 0, 1) := by decide +kernel
theorem dJ6_bitCount_0f7a4_43 : decode cJ6_bitCount_0f7a4 43 = .ok (.bipush 16, 2) := by decide +kernel
theorem dJ6_bitCount_0f7a4_45 : decode cJ6_bitCount_0f7a4 45 = .ok (.iushr, 1) := by decide +kernel
theorem dJ6_bitCount_0f7a4_46 : decode cJ6_bitCount_0f7a4 46 = .ok (.iadd, 1) := by decide +kernel
theorem dJ6_bitCount_0f7a4_47 : decode cJ6_bitCount_0f7a4 47 = .ok (.istore_n 0, 1) := by decide +kernel
theorem dJ6_bitCount_0f7a4_48 : decode cJ6_bitCount_0f7a4 48 = .ok (.iload_n 0, 1) := by decide +kernel
theorem dJ6_bitCount_0f7a4_49 : decode cJ6_bitCount_0f7a4 49 = .ok (.bipush 63, 2) := by decide +kernel
theorem dJ6_bitCount_0f7a4_51 : decode cJ6_bitCount_0f7a4 51 = .ok (.iand, 1) := by decide +kernel
theorem dJ6_bitCount_0f7a4_52 : decode cJ6_bitCount_0f7a4 52 = .ok (.ireturn, 1) := by decide +kernel
theorem dJ9_max_7cf53_0 : decode cJ9_max_7cf53 0 = .ok (.iload_n 0, 1) := by decide +kernel
theorem dJ9_max_7cf53_1 : decode cJ9_max_7cf53 1 = .ok (.iload_n 1, 1) := by decide +kernel
theorem dJ9_max_7cf53_2 : decode cJ9_max_7cf53 2 = .ok (.if_icmp .lt 7, 3) := by decide +kernel
theorem dJ9_max_7cf53_5 : decode cJ9_max_7cf53 5 = .ok (.iload_n 0, 1) := by decide +kernel
theorem dJ9_max_7cf53_6 : decode cJ9_max_7cf53 6 = .ok (.goto 4, 3) := by decide +kernel
theorem dJ9_max_7cf53_9 : decode cJ9_max_7cf53 9 = .ok (.iload_n 1, 1) := by decide +kernel
theorem dJ9_max_7cf53_10 : decode cJ9_max_7cf53 10 = .ok (.ireturn, 1) := by decide +kernel
theorem dJ9_min_7cf53_0 : decode cJ9_min_7cf53 0 = .ok (.iload_n 0, 1) := by decide +kernel
theorem dJ9_min_7cf53_1 : decode cJ9_min_7cf53 1 = .ok (.iload_n 1, 1) := by decide +kernel
theorem dJ9_min_7cf53_2 : decode cJ9_min_7cf53 2 = .ok (.if_icmp .gt 7, 3) := by decide +kernel
theorem dJ9_min_7cf53_5 : decode cJ9_min_7cf53 5 = .ok (.iload_n 0, 1) := by decide +kernel
theorem dJ9_min_7cf53_6 : decode cJ9_min_7cf53 6 = .ok (.goto 4, 3) := by decide +kernel
theorem dJ9_min_7cf53_9 : decode cJ9_min_7cf53 9 = .ok (.iload_n 1, 1) := by decide +kernel
theorem dJ9_min_7cf53_10 : decode cJ9_min_7cf53 10 = .ok (.ireturn, 1) := by decide +kernel
theorem dJ0_length_8abf5_0 : decode cJ0_length_8abf5 0 = .ok (.aload_n 0, 1) := by decide +kernel
theorem dJ0_length_8abf5_1 : decode cJ0_length_8abf5 1 = .ok (.getfield 9, 3) := by decide +kernel
theorem dJ0_length_8abf5_4 : decode cJ0_length_8abf5 4 = .ok (.arraylength, 1) := by decide +kernel
theorem dJ0_length_8abf5_5 : decode cJ0_length_8abf5 5 = .ok (.aload_n 0, 1) := by decide +kernel
theorem dJ0_length_8abf5_6 : decode cJ0_length_8abf5 6 = .ok (.invokevirtual 335, 3) := by decide +kernel
theorem dJ0_length_8abf5_9 : decode cJ0_length_8abf5 9 = .ok (.ishr, 1) := by decide +kernel
theorem dJ0_length_8abf5_10 : decode cJ0_length_8abf5 10 = .ok (.ireturn, 1) := by decide +kernel
theorem dJ0_charAt_5068e_0 : decode cJ0_charAt_5068e 0 = .ok (.aload_n 0, 1) := by decide +kernel
theorem dJ0_charAt_5068e_1 : decode cJ0_charAt_5068e 1 = .ok (.invokevirtual 492, 3) := by decide +kernel
theorem dJ0_charAt_5068e_4 : decode cJ0_charAt_5068e 4 = .ok (.ifCond .eq 12, 3) := by decide +kernel
theorem dJ0_charAt_5068e_7 : decode cJ0_charAt_5068e 7 = .ok (.aload_n 0, 1) := by decide +kernel
theorem dJ0_charAt_5068e_8 : decode cJ0_charAt_5068e 8 = .ok (.getfield 9, 3) := by decide +kernel
theorem dJ0_charAt_5068e_11 : decode cJ0_charAt_5068e 11 = .ok (.iload_n 1, 1) := by decide +kernel
theorem dJ0_charAt_5068e_12 : decode cJ0_charAt_5068e 12 = .ok (.invokestatic 495, 3) := by decide +kernel
theorem dJ0_charAt_5068e_15 : decode cJ0_charAt_5068e 15 = .ok (.ireturn, 1) := by decide +kernel
theorem dJ0_charAt_5068e_16 : decode cJ0_charAt_5068e 16 = .ok (.aload_n 0, 1) := by decide +kernel
theorem dJ0_charAt_5068e_17 : decode cJ0_charAt_5068e 17 = .ok (.getfield 9, 3) := by decide +kernel
theorem dJ0_charAt_5068e_20 : decode cJ0_charAt_5068e 20 = .ok (.iload_n 1, 1) := by decide +kernel
theorem dJ0_charAt_5068e_21 : decode cJ0_charAt_5068e 21 = .ok (.invokestatic 498, 3) := by decide +kernel
theorem dJ0_charAt_5068e_24 : decode cJ0_charAt_5068e 24 = .ok (.ireturn, 1) := by decide +kernel
theorem dJ0_coder_7d493_0 : decode cJ0_coder_7d493 0 = .ok (.getstatic 38, 3) := by decide +kernel
theorem dJ0_coder_7d493_3 : decode cJ0_coder_7d493 3 = .ok (.ifCond .eq 10, 3) := by decide +kernel
theorem dJ0_coder_7d493_6 : decode cJ0_coder_7d493 6 = .ok (.aload_n 0, 1) := by decide +kernel
theorem dJ0_coder_7d493_7 : decode cJ0_coder_7d493 7 = .ok (.getfield 15, 3) := by decide +kernel
theorem dJ0_coder_7d493_10 : decode cJ0_coder_7d493 10 = .ok (.goto 4, 3) := by decide +kernel
theorem dJ0_coder_7d493_13 : decode cJ0_coder_7d493 13 = .ok (.iconst 1, 1) := by decide +kernel
theorem dJ0_coder_7d493_14 : decode cJ0_coder_7d493 14 = .ok (.ireturn, 1) := by decide +kernel
theorem dJ0_isLatin1_aae02_0 : decode cJ0_isLatin1_aae02 0 = .ok (.getstatic 38, 3) := by decide +kernel
theorem dJ0_isLatin1_aae02_3 : decode cJ0_isLatin1_aae02 3 = .ok (.ifCond .eq 14, 3) := by decide +kernel
theorem dJ0_isLatin1_aae02_6 : decode cJ0_isLatin1_aae02 6 = .ok (.aload_n 0, 1) := by decide +kernel
theorem dJ0_isLatin1_aae02_7 : decode cJ0_isLatin1_aae02 7 = .ok (.getfield 15, 3) := by decide +kernel
theorem dJ0_isLatin1_aae02_10 : decode cJ0_isLatin1_aae02 10 = .ok (.ifCond .ne 7, 3) := by decide +kernel
theorem dJ0_isLatin1_aae02_13 : decode cJ0_isLatin1_aae02 13 = .ok (.iconst 1, 1) := by decide +kernel
theorem dJ0_isLatin1_aae02_14 : decode cJ0_isLatin1_aae02 14 = .ok (.goto 4, 3) := by decide +kernel
theorem dJ0_isLatin1_aae02_17 : decode cJ0_isLatin1_aae02 17 = .ok (.iconst 0, 1) := by decide +kernel
theorem dJ0_isLatin1_aae02_18 : decode cJ0_isLatin1_aae02 18 = .ok (.ireturn, 1) := by decide +kernel
theorem dJ0_checkIndex_df160_0 : decode cJ0_checkIndex_df160 0 = .ok (.iload_n 0, 1) := by decide +kernel
theorem dJ0_checkIndex_df160_1 : decode cJ0_checkIndex_df160 1 = .ok (.iload_n 1, 1) := by decide +kernel
theorem dJ0_checkIndex_df160_2 : decode cJ0_checkIndex_df160 2 = .ok (.getstatic 1053, 3) := by decide +kernel
theorem dJ0_checkIndex_df160_5 : decode cJ0_checkIndex_df160 5 = .ok (.invokestatic 1059, 3) := by decide +kernel
theorem dJ0_checkIndex_df160_8 : decode cJ0_checkIndex_df160 8 = .ok (.pop, 1) := by decide +kernel
theorem dJ0_checkIndex_df160_9 : decode cJ0_checkIndex_df160 9 = .ok (.return_, 1) := by decide +kernel
theorem dJ1_charAt_3b067_0 : decode cJ1_charAt_3b067 0 = .ok (.iload_n 1, 1) := by decide +kernel
theorem dJ1_charAt_3b067_1 : decode cJ1_charAt_3b067 1 = .ok (.aload_n 0, 1) := by decide +kernel
theorem dJ1_charAt_3b067_2 : decode cJ1_charAt_3b067 2 = .ok (.arraylength, 1) := by decide +kernel
theorem dJ1_charAt_3b067_3 : decode cJ1_charAt_3b067 3 = .ok (.invokestatic 9, 3) := by decide +kernel
theorem dJ1_charAt_3b067_6 : decode cJ1_charAt_3b067 6 = .ok (.aload_n 0, 1) := by decide +kernel
theorem dJ1_charAt_3b067_7 : decode cJ1_charAt_3b067 7 = .ok (.iload_n 1, 1) := by decide +kernel
theorem dJ1_charAt_3b067_8 : decode cJ1_charAt_3b067 8 = .ok (.baload, 1) := by decide +kernel
theorem dJ1_charAt_3b067_9 : decode cJ1_charAt_3b067 9 = .ok (.sipush 255, 3) := by decide +kernel
theorem dJ1_charAt_3b067_12 : decode cJ1_charAt_3b067 12 = .ok (.iand, 1) := by decide +kernel
theorem dJ1_charAt_3b067_13 : decode cJ1_charAt_3b067 13 = .ok (.i2c, 1) := by decide +kernel
theorem dJ1_charAt_3b067_14 : decode cJ1_charAt_3b067 14 = .ok (.ireturn, 1) := by decide +kernel
theorem dJ2_getChar_3b067_0 : decode cJ2_getChar_3b067 0 = .ok (.getstatic 44, 3) := by decide +kernel
theorem dJ2_getChar_3b067_3 : decode cJ2_getChar_3b067 3 = .ok (.ifCond .ne 25, 3) := by decide +kernel
theorem dJ2_getChar_3b067_6 : decode cJ2_getChar_3b067 6 = .ok (.iload_n 1, 1) := by decide +kernel
theorem dJ2_getChar_3b067_7 : decode cJ2_getChar_3b067 7 = .ok (.ifCond .lt 11, 3) := by decide +kernel
theorem dJ2_getChar_3b067_10 : decode cJ2_getChar_3b067 10 = .ok (.iload_n 1, 1) := by decide +kernel
theorem dJ2_getChar_3b067_11 : decode cJ2_getChar_3b067 11 = .ok (.aload_n 0, 1) := by decide +kernel
theorem dJ2_getChar_3b067_12 : decode cJ2_getChar_3b067 12 = .ok (.invokestatic 48, 3) := by decide +kernel
theorem dJ2_getChar_3b067_15 : decode cJ2_getChar_3b067 15 = .ok (.if_icmp .lt 13, 3) := by decide +kernel
theorem dJ2_getChar_3b067_18 : decode cJ2_getChar_3b067 18 = .ok (.new 52, 3) := by decide +kernel
theorem dJ2_getChar_3b067_21 : decode cJ2_getChar_3b067 21 = .ok (.dup, 1) := by decide +kernel
theorem dJ2_getChar_3b067_22 : decode cJ2_getChar_3b067 22 = .ok (.ldc 54, 2) := by decide +kernel
theorem dJ2_getChar_3b067_24 : decode cJ2_getChar_3b067 24 = .ok (.invokespecial 56, 3) := by decide +kernel
theorem dJ2_getChar_3b067_27 : decode cJ2_getChar_3b067 27 = .ok (.athrow, 1) := by decide +kernel
theorem dJ2_getChar_3b067_28 : decode cJ2_getChar_3b067 28 = .ok (.iload_n 1, 1) := by decide +kernel
theorem dJ2_getChar_3b067_29 : decode cJ2_getChar_3b067 29 = .ok (.iconst 1, 1) := by decide +kernel
theorem dJ2_getChar_3b067_30 : decode cJ2_getChar_3b067 30 = .ok (.ishl, 1) := by decide +kernel
theorem dJ2_getChar_3b067_31 : decode cJ2_getChar_3b067 31 = .ok (.istore_n 1, 1) := by decide +kernel
theorem dJ2_getChar_3b067_32 : decode cJ2_getChar_3b067 32 = .ok (.aload_n 0, 1) := by decide +kernel
theorem dJ2_getChar_3b067_33 : decode cJ2_getChar_3b067 33 = .ok (.iload_n 1, 1) := by decide +kernel
theorem dJ2_getChar_3b067_34 : decode cJ2_getChar_3b067 34 = .ok (.iinc 1 1, 3) := by decide +kernel
theorem dJ2_getChar_3b067_37 : decode cJ2_getChar_3b067 37 = .ok (.baload, 1) := by decide +kernel
theorem dJ2_getChar_3b067_38 : decode cJ2_getChar_3b067 38 = .ok (.sipush 255, 3) := by decide +kernel
theorem dJ2_getChar_3b067_41 : decode cJ2_getChar_3b067 41 = .ok (.iand, 1) := by decide +kernel
theorem dJ2_getChar_3b067_42 : decode cJ2_getChar_3b067 42 = .ok (.getstatic 59, 3) := by decide +kernel
theorem dJ2_getChar_3b067_45 : decode cJ2_getChar_3b067 45 = .ok (.ishl, 1) := by decide +kernel
theorem dJ2_getChar_3b067_46 : decode cJ2_getChar_3b067 46 = .ok (.aload_n 0, 1) := by decide +kernel
theorem dJ2_getChar_3b067_47 : decode cJ2_getChar_3b067 47 = .ok (.iload_n 1, 1) := by decide +kernel
theorem dJ2_getChar_3b067_48 : decode cJ2_getChar_3b067 48 = .ok (.baload, 1) := by decide +kernel
theorem dJ2_getChar_3b067_49 : decode cJ2_getChar_3b067 49 = .ok (.sipush 255, 3) := by decide +kernel
theorem dJ2_getChar_3b067_52 : decode cJ2_getChar_3b067 52 = .ok (.iand, 1) := by decide +kernel
theorem dJ2_getChar_3b067_53 : decode cJ2_getChar_3b067 53 = .ok (.getstatic 63, 3) := by decide +kernel
theorem dJ2_getChar_3b067_56 : decode cJ2_getChar_3b067 56 = .ok (.ishl, 1) := by decide +kernel
theorem dJ2_getChar_3b067_57 : decode cJ2_getChar_3b067 57 = .ok (.ior, 1) := by decide +kernel
theorem dJ2_getChar_3b067_58 : decode cJ2_getChar_3b067 58 = .ok (.i2c, 1) := by decide +kernel
theorem dJ2_getChar_3b067_59 : decode cJ2_getChar_3b067 59 = .ok (.ireturn, 1) := by decide +kernel
theorem dJ2_length_9d52b_0 : decode cJ2_length_9d52b 0 = .ok (.aload_n 0, 1) := by decide +kernel
theorem dJ2_length_9d52b_1 : decode cJ2_length_9d52b 1 = .ok (.arraylength, 1) := by decide +kernel
theorem dJ2_length_9d52b_2 : decode cJ2_length_9d52b 2 = .ok (.iconst 1, 1) := by decide +kernel
theorem dJ2_length_9d52b_3 : decode cJ2_length_9d52b 3 = .ok (.ishr, 1) := by decide +kernel
theorem dJ2_length_9d52b_4 : decode cJ2_length_9d52b 4 = .ok (.ireturn, 1) := by decide +kernel
theorem dJ2_charAt_3b067_0 : decode cJ2_charAt_3b067 0 = .ok (.iload_n 1, 1) := by decide +kernel
theorem dJ2_charAt_3b067_1 : decode cJ2_charAt_3b067 1 = .ok (.aload_n 0, 1) := by decide +kernel
theorem dJ2_charAt_3b067_2 : decode cJ2_charAt_3b067 2 = .ok (.invokestatic 67, 3) := by decide +kernel
theorem dJ2_charAt_3b067_5 : decode cJ2_charAt_3b067 5 = .ok (.aload_n 0, 1) := by decide +kernel
theorem dJ2_charAt_3b067_6 : decode cJ2_charAt_3b067 6 = .ok (.iload_n 1, 1) := by decide +kernel
theorem dJ2_charAt_3b067_7 : decode cJ2_charAt_3b067 7 = .ok (.invokestatic 71, 3) := by decide +kernel
theorem dJ2_charAt_3b067_10 : decode cJ2_charAt_3b067 10 = .ok (.ireturn, 1) := by decide +kernel
theorem dJ2_checkIndex_2214a_0 : decode cJ2_checkIndex_2214a 0 = .ok (.iload_n 0, 1) := by decide +kernel
theorem dJ2_checkIndex_2214a_1 : decode cJ2_checkIndex_2214a 1 = .ok (.aload_n 1, 1) := by decide +kernel
theorem dJ2_checkIndex_2214a_2 : decode cJ2_checkIndex_2214a 2 = .ok (.invokestatic 48, 3) := by decide +kernel
theorem dJ2_checkIndex_2214a_5 : decode cJ2_checkIndex_2214a 5 = .ok (.invokestatic 414, 3) := by decide +kernel
theorem dJ2_checkIndex_2214a_8 : decode cJ2_checkIndex_2214a 8 = .ok (.return_, 1) := by decide +kernel
theorem dJ7_fill_53178_0 : decode cJ7_fill_53178 0 = .ok (.iconst 0, 1) := by decide +kernel
theorem dJ7_fill_53178_1 : decode cJ7_fill_53178 1 = .ok (.istore_n 2, 1) := by decide +kernel
theorem dJ7_fill_53178_2 : decode cJ7_fill_53178 2 = .ok (.aload_n 0, 1) := by decide +kernel
theorem dJ7_fill_53178_3 : decode cJ7_fill_53178 3 = .ok (.arraylength, 1) := by decide +kernel
theorem dJ7_fill_53178_4 : decode cJ7_fill_53178 4 = .ok (.istore_n 3, 1) := by decide +kernel
theorem dJ7_fill_53178_5 : decode cJ7_fill_53178 5 = .ok (.iload_n 2, 1) := by decide +kernel
theorem dJ7_fill_53178_6 : decode cJ7_fill_53178 6 = .ok (.iload_n 3, 1) := by decide +kernel
theorem dJ7_fill_53178_7 : decode cJ7_fill_53178 7 = .ok (.if_icmp .ge 13, 3) := by decide +kernel
theorem dJ7_fill_53178_10 : decode cJ7_fill_53178 10 = .ok (.aload_n 0, 1) := by decide +kernel
theorem dJ7_fill_53178_11 : decode cJ7_fill_53178 11 = .ok (.iload_n 2, 1) := by decide +kernel
theorem dJ7_fill_53178_12 : decode cJ7_fill_53178 12 = .ok (.iload_n 1, 1) := by decide +kernel
theorem dJ7_fill_53178_13 : decode cJ7_fill_53178 13 = .ok (.iastore, 1) := by decide +kernel
theorem dJ7_fill_53178_14 : decode cJ7_fill_53178 14 = .ok (.iinc 2 1, 3) := by decide +kernel
theorem dJ7_fill_53178_17 : decode cJ7_fill_53178 17 = .ok (.goto (-12), 3) := by decide +kernel
theorem dJ7_fill_53178_20 : decode cJ7_fill_53178 20 = .ok (.return_, 1) := by decide +kernel
theorem dJ3_checkIndex_8e157_0 : decode cJ3_checkIndex_8e157 0 = .ok (.iload_n 0, 1) := by decide +kernel
theorem dJ3_checkIndex_8e157_1 : decode cJ3_checkIndex_8e157 1 = .ok (.ifCond .lt 8, 3) := by decide +kernel
theorem dJ3_checkIndex_8e157_4 : decode cJ3_checkIndex_8e157 4 = .ok (.iload_n 0, 1) := by decide +kernel
theorem dJ3_checkIndex_8e157_5 : decode cJ3_checkIndex_8e157 5 = .ok (.iload_n 1, 1) := by decide +kernel
theorem dJ3_checkIndex_8e157_6 : decode cJ3_checkIndex_8e157 6 = .ok (.if_icmp .lt 10, 3) := by decide +kernel
theorem dJ3_checkIndex_8e157_9 : decode cJ3_checkIndex_8e157 9 = .ok (.aload_n 2, 1) := by decide +kernel
theorem dJ3_checkIndex_8e157_10 : decode cJ3_checkIndex_8e157 10 = .ok (.iload_n 0, 1) := by decide +kernel
theorem dJ3_checkIndex_8e157_11 : decode cJ3_checkIndex_8e157 11 = .ok (.iload_n 1, 1) := by decide +kernel
theorem dJ3_checkIndex_8e157_12 : decode cJ3_checkIndex_8e157 12 = .ok (.invokestatic 95, 3) := by decide +kernel
theorem dJ3_checkIndex_8e157_15 : decode cJ3_checkIndex_8e157 15 = .ok (.athrow, 1) := by decide +kernel
theorem dJ3_checkIndex_8e157_16 : decode cJ3_checkIndex_8e157 16 = .ok (.iload_n 0, 1) := by decide +kernel
theorem dJ3_checkIndex_8e157_17 : decode cJ3_checkIndex_8e157 17 = .ok (.ireturn, 1) := by decide +kernel
theorem dL_law_0 : decode cL_law 0 = .ok (.new 7, 3) := by decide +kernel
theorem dL_law_3 : decode cL_law 3 = .ok (.dup, 1) := by decide +kernel
theorem dL_law_4 : decode cL_law 4 = .ok (.invokespecial 9, 3) := by decide +kernel
theorem dL_law_7 : decode cL_law 7 = .ok (.astore_n 1, 1) := by decide +kernel
theorem dL_law_8 : decode cL_law 8 = .ok (.new 10, 3) := by decide +kernel
theorem dL_law_11 : decode cL_law 11 = .ok (.dup, 1) := by decide +kernel
theorem dL_law_12 : decode cL_law 12 = .ok (.invokespecial 12, 3) := by decide +kernel
theorem dL_law_15 : decode cL_law 15 = .ok (.astore_n 2, 1) := by decide +kernel
theorem dL_law_16 : decode cL_law 16 = .ok (.iconst 0, 1) := by decide +kernel
theorem dL_law_17 : decode cL_law 17 = .ok (.istore_n 3, 1) := by decide +kernel
theorem dL_law_18 : decode cL_law 18 = .ok (.iload_n 3, 1) := by decide +kernel
theorem dL_law_19 : decode cL_law 19 = .ok (.aload_n 0, 1) := by decide +kernel
theorem dL_law_20 : decode cL_law 20 = .ok (.arraylength, 1) := by decide +kernel
theorem dL_law_21 : decode cL_law 21 = .ok (.bipush 6, 2) := by decide +kernel
theorem dL_law_23 : decode cL_law 23 = .ok (.isub, 1) := by decide +kernel
theorem dL_law_24 : decode cL_law 24 = .ok (.if_icmp .gt 802, 3) := by decide +kernel
theorem dL_law_27 : decode cL_law 27 = .ok (.aload_n 0, 1) := by decide +kernel
theorem dL_law_28 : decode cL_law 28 = .ok (.iload_n 3, 1) := by decide +kernel
theorem dL_law_29 : decode cL_law 29 = .ok (.iaload, 1) := by decide +kernel
theorem dL_law_30 : decode cL_law 30 = .ok (.bipush 31, 2) := by decide +kernel
theorem dL_law_32 : decode cL_law 32 = .ok (.iand, 1) := by decide +kernel
theorem dL_law_33 : decode cL_law 33 = .ok (.tableswitch 787 0 25 #[119, 142, 155, 168, 181, 214, 247, 270, 293, 336, 349, 382, 395, 418, 451, 484, 507, 540, 553, 586, 649, 672, 695, 738, 751, 764], 119) := by decide +kernel
theorem dL_law_152 : decode cL_law 152 = .ok (.aload_n 1, 1) := by decide +kernel
theorem dL_law_153 : decode cL_law 153 = .ok (.aload_n 0, 1) := by decide +kernel
theorem dL_law_154 : decode cL_law 154 = .ok (.iload_n 3, 1) := by decide +kernel
theorem dL_law_155 : decode cL_law 155 = .ok (.iconst 1, 1) := by decide +kernel
theorem dL_law_156 : decode cL_law 156 = .ok (.iadd, 1) := by decide +kernel
theorem dL_law_157 : decode cL_law 157 = .ok (.iaload, 1) := by decide +kernel
theorem dL_law_158 : decode cL_law 158 = .ok (.invokevirtual 13, 3) := by decide +kernel
theorem dL_law_161 : decode cL_law 161 = .ok (.aload_n 2, 1) := by decide +kernel
theorem dL_law_162 : decode cL_law 162 = .ok (.aload_n 0, 1) := by decide +kernel
theorem dL_law_163 : decode cL_law 163 = .ok (.iload_n 3, 1) := by decide +kernel
theorem dL_law_164 : decode cL_law 164 = .ok (.iconst 1, 1) := by decide +kernel
theorem dL_law_165 : decode cL_law 165 = .ok (.iadd, 1) := by decide +kernel
theorem dL_law_166 : decode cL_law 166 = .ok (.iaload, 1) := by decide +kernel
theorem dL_law_167 : decode cL_law 167 = .ok (.invokevirtual 17, 3) := by decide +kernel
theorem dL_law_170 : decode cL_law 170 = .ok (.if_icmp .eq 650, 3) := by decide +kernel
theorem dL_law_173 : decode cL_law 173 = .ok (.iconst 0, 1) := by decide +kernel
theorem dL_law_174 : decode cL_law 174 = .ok (.ireturn, 1) := by decide +kernel
theorem dL_law_175 : decode cL_law 175 = .ok (.aload_n 1, 1) := by decide +kernel
theorem dL_law_176 : decode cL_law 176 = .ok (.invokevirtual 18, 3) := by decide +kernel
theorem dL_law_179 : decode cL_law 179 = .ok (.aload_n 2, 1) := by decide +kernel
theorem dL_law_180 : decode cL_law 180 = .ok (.invokevirtual 22, 3) := by decide +kernel
theorem dL_law_183 : decode cL_law 183 = .ok (.if_icmp .eq 637, 3) := by decide +kernel
theorem dL_law_186 : decode cL_law 186 = .ok (.iconst 0, 1) := by decide +kernel
theorem dL_law_187 : decode cL_law 187 = .ok (.ireturn, 1) := by decide +kernel
theorem dL_law_188 : decode cL_law 188 = .ok (.aload_n 1, 1) := by decide +kernel
theorem dL_law_189 : decode cL_law 189 = .ok (.invokevirtual 23, 3) := by decide +kernel
theorem dL_law_192 : decode cL_law 192 = .ok (.aload_n 2, 1) := by decide +kernel
theorem dL_law_193 : decode cL_law 193 = .ok (.invokevirtual 26, 3) := by decide +kernel
theorem dL_law_196 : decode cL_law 196 = .ok (.if_icmp .eq 624, 3) := by decide +kernel
theorem dL_law_199 : decode cL_law 199 = .ok (.iconst 0, 1) := by decide +kernel
theorem dL_law_200 : decode cL_law 200 = .ok (.ireturn, 1) := by decide +kernel
theorem dL_law_201 : decode cL_law 201 = .ok (.aload_n 1, 1) := by decide +kernel
theorem dL_law_202 : decode cL_law 202 = .ok (.invokevirtual 27, 3) := by decide +kernel
theorem dL_law_205 : decode cL_law 205 = .ok (.aload_n 2, 1) := by decide +kernel
theorem dL_law_206 : decode cL_law 206 = .ok (.invokevirtual 30, 3) := by decide +kernel
theorem dL_law_209 : decode cL_law 209 = .ok (.if_icmp .eq 611, 3) := by decide +kernel
theorem dL_law_212 : decode cL_law 212 = .ok (.iconst 0, 1) := by decide +kernel
theorem dL_law_213 : decode cL_law 213 = .ok (.ireturn, 1) := by decide +kernel
theorem dL_law_214 : decode cL_law 214 = .ok (.aload_n 1, 1) := by decide +kernel
theorem dL_law_215 : decode cL_law 215 = .ok (.aload_n 0, 1) := by decide +kernel
theorem dL_law_216 : decode cL_law 216 = .ok (.iload_n 3, 1) := by decide +kernel
theorem dL_law_217 : decode cL_law 217 = .ok (.iconst 1, 1) := by decide +kernel
theorem dL_law_218 : decode cL_law 218 = .ok (.iadd, 1) := by decide +kernel
theorem dL_law_219 : decode cL_law 219 = .ok (.iaload, 1) := by decide +kernel
theorem dL_law_220 : decode cL_law 220 = .ok (.aload_n 0, 1) := by decide +kernel
theorem dL_law_221 : decode cL_law 221 = .ok (.iload_n 3, 1) := by decide +kernel
theorem dL_law_222 : decode cL_law 222 = .ok (.iconst 2, 1) := by decide +kernel
theorem dL_law_223 : decode cL_law 223 = .ok (.iadd, 1) := by decide +kernel
theorem dL_law_224 : decode cL_law 224 = .ok (.iaload, 1) := by decide +kernel
theorem dL_law_225 : decode cL_law 225 = .ok (.invokevirtual 31, 3) := by decide +kernel
theorem dL_law_228 : decode cL_law 228 = .ok (.aload_n 2, 1) := by decide +kernel
theorem dL_law_229 : decode cL_law 229 = .ok (.aload_n 0, 1) := by decide +kernel
theorem dL_law_230 : decode cL_law 230 = .ok (.iload_n 3, 1) := by decide +kernel
theorem dL_law_231 : decode cL_law 231 = .ok (.iconst 1, 1) := by decide +kernel
theorem dL_law_232 : decode cL_law 232 = .ok (.iadd, 1) := by decide +kernel
theorem dL_law_233 : decode cL_law 233 = .ok (.iaload, 1) := by decide +kernel
theorem dL_law_234 : decode cL_law 234 = .ok (.aload_n 0, 1) := by decide +kernel
theorem dL_law_235 : decode cL_law 235 = .ok (.iload_n 3, 1) := by decide +kernel
theorem dL_law_236 : decode cL_law 236 = .ok (.iconst 2, 1) := by decide +kernel
theorem dL_law_237 : decode cL_law 237 = .ok (.iadd, 1) := by decide +kernel
theorem dL_law_238 : decode cL_law 238 = .ok (.iaload, 1) := by decide +kernel
theorem dL_law_239 : decode cL_law 239 = .ok (.invokevirtual 35, 3) := by decide +kernel
theorem dL_law_242 : decode cL_law 242 = .ok (.if_icmp .eq 578, 3) := by decide +kernel
theorem dL_law_245 : decode cL_law 245 = .ok (.iconst 0, 1) := by decide +kernel
theorem dL_law_246 : decode cL_law 246 = .ok (.ireturn, 1) := by decide +kernel
theorem dL_law_247 : decode cL_law 247 = .ok (.aload_n 1, 1) := by decide +kernel
theorem dL_law_248 : decode cL_law 248 = .ok (.aload_n 0, 1) := by decide +kernel
theorem dL_law_249 : decode cL_law 249 = .ok (.iload_n 3, 1) := by decide +kernel
theorem dL_law_250 : decode cL_law 250 = .ok (.iconst 1, 1) := by decide +kernel
theorem dL_law_251 : decode cL_law 251 = .ok (.iadd, 1) := by decide +kernel
theorem dL_law_252 : decode cL_law 252 = .ok (.iaload, 1) := by decide +kernel
theorem dL_law_253 : decode cL_law 253 = .ok (.aload_n 0, 1) := by decide +kernel
theorem dL_law_254 : decode cL_law 254 = .ok (.iload_n 3, 1) := by decide +kernel
theorem dL_law_255 : decode cL_law 255 = .ok (.iconst 2, 1) := by decide +kernel
theorem dL_law_256 : decode cL_law 256 = .ok (.iadd, 1) := by decide +kernel
theorem dL_law_257 : decode cL_law 257 = .ok (.iaload, 1) := by decide +kernel
theorem dL_law_258 : decode cL_law 258 = .ok (.invokevirtual 36, 3) := by decide +kernel
theorem dL_law_261 : decode cL_law 261 = .ok (.aload_n 2, 1) := by decide +kernel
theorem dL_law_262 : decode cL_law 262 = .ok (.aload_n 0, 1) := by decide +kernel
theorem dL_law_263 : decode cL_law 263 = .ok (.iload_n 3, 1) := by decide +kernel
theorem dL_law_264 : decode cL_law 264 = .ok (.iconst 1, 1) := by decide +kernel
theorem dL_law_265 : decode cL_law 265 = .ok (.iadd, 1) := by decide +kernel
theorem dL_law_266 : decode cL_law 266 = .ok (.iaload, 1) := by decide +kernel
theorem dL_law_267 : decode cL_law 267 = .ok (.aload_n 0, 1) := by decide +kernel
theorem dL_law_268 : decode cL_law 268 = .ok (.iload_n 3, 1) := by decide +kernel
theorem dL_law_269 : decode cL_law 269 = .ok (.iconst 2, 1) := by decide +kernel
theorem dL_law_270 : decode cL_law 270 = .ok (.iadd, 1) := by decide +kernel
theorem dL_law_271 : decode cL_law 271 = .ok (.iaload, 1) := by decide +kernel
theorem dL_law_272 : decode cL_law 272 = .ok (.invokevirtual 39, 3) := by decide +kernel
theorem dL_law_275 : decode cL_law 275 = .ok (.if_icmp .eq 545, 3) := by decide +kernel
theorem dL_law_278 : decode cL_law 278 = .ok (.iconst 0, 1) := by decide +kernel
theorem dL_law_279 : decode cL_law 279 = .ok (.ireturn, 1) := by decide +kernel
theorem dL_law_280 : decode cL_law 280 = .ok (.aload_n 1, 1) := by decide +kernel
theorem dL_law_281 : decode cL_law 281 = .ok (.aload_n 0, 1) := by decide +kernel
theorem dL_law_282 : decode cL_law 282 = .ok (.iload_n 3, 1) := by decide +kernel
theorem dL_law_283 : decode cL_law 283 = .ok (.iconst 1, 1) := by decide +kernel
theorem dL_law_284 : decode cL_law 284 = .ok (.iadd, 1) := by decide +kernel
theorem dL_law_285 : decode cL_law 285 = .ok (.iaload, 1) := by decide +kernel
theorem dL_law_286 : decode cL_law 286 = .ok (.invokevirtual 40, 3) := by decide +kernel
theorem dL_law_289 : decode cL_law 289 = .ok (.aload_n 2, 1) := by decide +kernel
theorem dL_law_290 : decode cL_law 290 = .ok (.aload_n 0, 1) := by decide +kernel
theorem dL_law_291 : decode cL_law 291 = .ok (.iload_n 3, 1) := by decide +kernel
theorem dL_law_292 : decode cL_law 292 = .ok (.iconst 1, 1) := by decide +kernel
theorem dL_law_293 : decode cL_law 293 = .ok (.iadd, 1) := by decide +kernel
theorem dL_law_294 : decode cL_law 294 = .ok (.iaload, 1) := by decide +kernel
theorem dL_law_295 : decode cL_law 295 = .ok (.invokevirtual 43, 3) := by decide +kernel
theorem dL_law_298 : decode cL_law 298 = .ok (.if_icmp .eq 522, 3) := by decide +kernel
theorem dL_law_301 : decode cL_law 301 = .ok (.iconst 0, 1) := by decide +kernel
theorem dL_law_302 : decode cL_law 302 = .ok (.ireturn, 1) := by decide +kernel
theorem dL_law_303 : decode cL_law 303 = .ok (.aload_n 1, 1) := by decide +kernel
theorem dL_law_304 : decode cL_law 304 = .ok (.aload_n 0, 1) := by decide +kernel
theorem dL_law_305 : decode cL_law 305 = .ok (.iload_n 3, 1) := by decide +kernel
theorem dL_law_306 : decode cL_law 306 = .ok (.iconst 1, 1) := by decide +kernel
theorem dL_law_307 : decode cL_law 307 = .ok (.iadd, 1) := by decide +kernel
theorem dL_law_308 : decode cL_law 308 = .ok (.iaload, 1) := by decide +kernel
theorem dL_law_309 : decode cL_law 309 = .ok (.invokevirtual 44, 3) := by decide +kernel
theorem dL_law_312 : decode cL_law 312 = .ok (.aload_n 2, 1) := by decide +kernel
theorem dL_law_313 : decode cL_law 313 = .ok (.aload_n 0, 1) := by decide +kernel
theorem dL_law_314 : decode cL_law 314 = .ok (.iload_n 3, 1) := by decide +kernel
theorem dL_law_315 : decode cL_law 315 = .ok (.iconst 1, 1) := by decide +kernel
theorem dL_law_316 : decode cL_law 316 = .ok (.iadd, 1) := by decide +kernel
theorem dL_law_317 : decode cL_law 317 = .ok (.iaload, 1) := by decide +kernel
theorem dL_law_318 : decode cL_law 318 = .ok (.invokevirtual 47, 3) := by decide +kernel
theorem dL_law_321 : decode cL_law 321 = .ok (.if_icmp .eq 499, 3) := by decide +kernel
theorem dL_law_324 : decode cL_law 324 = .ok (.iconst 0, 1) := by decide +kernel
theorem dL_law_325 : decode cL_law 325 = .ok (.ireturn, 1) := by decide +kernel
theorem dL_law_326 : decode cL_law 326 = .ok (.aload_n 1, 1) := by decide +kernel
theorem dL_law_327 : decode cL_law 327 = .ok (.aload_n 0, 1) := by decide +kernel
theorem dL_law_328 : decode cL_law 328 = .ok (.iload_n 3, 1) := by decide +kernel
theorem dL_law_329 : decode cL_law 329 = .ok (.iconst 1, 1) := by decide +kernel
theorem dL_law_330 : decode cL_law 330 = .ok (.iadd, 1) := by decide +kernel
theorem dL_law_331 : decode cL_law 331 = .ok (.iaload, 1) := by decide +kernel
theorem dL_law_332 : decode cL_law 332 = .ok (.aload_n 0, 1) := by decide +kernel
theorem dL_law_333 : decode cL_law 333 = .ok (.iload_n 3, 1) := by decide +kernel
theorem dL_law_334 : decode cL_law 334 = .ok (.iconst 2, 1) := by decide +kernel
theorem dL_law_335 : decode cL_law 335 = .ok (.iadd, 1) := by decide +kernel
theorem dL_law_336 : decode cL_law 336 = .ok (.iaload, 1) := by decide +kernel
theorem dL_law_337 : decode cL_law 337 = .ok (.aload_n 0, 1) := by decide +kernel
theorem dL_law_338 : decode cL_law 338 = .ok (.iload_n 3, 1) := by decide +kernel
theorem dL_law_339 : decode cL_law 339 = .ok (.iconst 3, 1) := by decide +kernel
theorem dL_law_340 : decode cL_law 340 = .ok (.iadd, 1) := by decide +kernel
theorem dL_law_341 : decode cL_law 341 = .ok (.iaload, 1) := by decide +kernel
theorem dL_law_342 : decode cL_law 342 = .ok (.invokevirtual 48, 3) := by decide +kernel
theorem dL_law_345 : decode cL_law 345 = .ok (.aload_n 2, 1) := by decide +kernel
theorem dL_law_346 : decode cL_law 346 = .ok (.aload_n 0, 1) := by decide +kernel
theorem dL_law_347 : decode cL_law 347 = .ok (.iload_n 3, 1) := by decide +kernel
theorem dL_law_348 : decode cL_law 348 = .ok (.iconst 1, 1) := by decide +kernel
theorem dL_law_349 : decode cL_law 349 = .ok (.iadd, 1) := by decide +kernel
theorem dL_law_350 : decode cL_law 350 = .ok (.iaload, 1) := by decide +kernel
theorem dL_law_351 : decode cL_law 351 = .ok (.aload_n 0, 1) := by decide +kernel
theorem dL_law_352 : decode cL_law 352 = .ok (.iload_n 3, 1) := by decide +kernel
theorem dL_law_353 : decode cL_law 353 = .ok (.iconst 2, 1) := by decide +kernel
theorem dL_law_354 : decode cL_law 354 = .ok (.iadd, 1) := by decide +kernel
theorem dL_law_355 : decode cL_law 355 = .ok (.iaload, 1) := by decide +kernel
theorem dL_law_356 : decode cL_law 356 = .ok (.aload_n 0, 1) := by decide +kernel
theorem dL_law_357 : decode cL_law 357 = .ok (.iload_n 3, 1) := by decide +kernel
theorem dL_law_358 : decode cL_law 358 = .ok (.iconst 3, 1) := by decide +kernel
theorem dL_law_359 : decode cL_law 359 = .ok (.iadd, 1) := by decide +kernel
theorem dL_law_360 : decode cL_law 360 = .ok (.iaload, 1) := by decide +kernel
theorem dL_law_361 : decode cL_law 361 = .ok (.invokevirtual 52, 3) := by decide +kernel
theorem dL_law_364 : decode cL_law 364 = .ok (.if_icmp .eq 456, 3) := by decide +kernel
theorem dL_law_367 : decode cL_law 367 = .ok (.iconst 0, 1) := by decide +kernel
theorem dL_law_368 : decode cL_law 368 = .ok (.ireturn, 1) := by decide +kernel
theorem dL_law_369 : decode cL_law 369 = .ok (.aload_n 1, 1) := by decide +kernel
theorem dL_law_370 : decode cL_law 370 = .ok (.invokevirtual 53, 3) := by decide +kernel
theorem dL_law_373 : decode cL_law 373 = .ok (.aload_n 2, 1) := by decide +kernel
theorem dL_law_374 : decode cL_law 374 = .ok (.invokevirtual 56, 3) := by decide +kernel
theorem dL_law_377 : decode cL_law 377 = .ok (.if_icmp .eq 443, 3) := by decide +kernel
theorem dL_law_380 : decode cL_law 380 = .ok (.iconst 0, 1) := by decide +kernel
theorem dL_law_381 : decode cL_law 381 = .ok (.ireturn, 1) := by decide +kernel
theorem dL_law_382 : decode cL_law 382 = .ok (.aload_n 1, 1) := by decide +kernel
theorem dL_law_383 : decode cL_law 383 = .ok (.aload_n 0, 1) := by decide +kernel
theorem dL_law_384 : decode cL_law 384 = .ok (.iload_n 3, 1) := by decide +kernel
theorem dL_law_385 : decode cL_law 385 = .ok (.iconst 1, 1) := by decide +kernel
theorem dL_law_386 : decode cL_law 386 = .ok (.iadd, 1) := by decide +kernel
theorem dL_law_387 : decode cL_law 387 = .ok (.iaload, 1) := by decide +kernel
theorem dL_law_388 : decode cL_law 388 = .ok (.aload_n 0, 1) := by decide +kernel
theorem dL_law_389 : decode cL_law 389 = .ok (.iload_n 3, 1) := by decide +kernel
theorem dL_law_390 : decode cL_law 390 = .ok (.iconst 2, 1) := by decide +kernel
theorem dL_law_391 : decode cL_law 391 = .ok (.iadd, 1) := by decide +kernel
theorem dL_law_392 : decode cL_law 392 = .ok (.iaload, 1) := by decide +kernel
theorem dL_law_393 : decode cL_law 393 = .ok (.invokevirtual 57, 3) := by decide +kernel
theorem dL_law_396 : decode cL_law 396 = .ok (.aload_n 2, 1) := by decide +kernel
theorem dL_law_397 : decode cL_law 397 = .ok (.aload_n 0, 1) := by decide +kernel
theorem dL_law_398 : decode cL_law 398 = .ok (.iload_n 3, 1) := by decide +kernel
theorem dL_law_399 : decode cL_law 399 = .ok (.iconst 1, 1) := by decide +kernel
theorem dL_law_400 : decode cL_law 400 = .ok (.iadd, 1) := by decide +kernel
theorem dL_law_401 : decode cL_law 401 = .ok (.iaload, 1) := by decide +kernel
theorem dL_law_402 : decode cL_law 402 = .ok (.aload_n 0, 1) := by decide +kernel
theorem dL_law_403 : decode cL_law 403 = .ok (.iload_n 3, 1) := by decide +kernel
theorem dL_law_404 : decode cL_law 404 = .ok (.iconst 2, 1) := by decide +kernel
theorem dL_law_405 : decode cL_law 405 = .ok (.iadd, 1) := by decide +kernel
theorem dL_law_406 : decode cL_law 406 = .ok (.iaload, 1) := by decide +kernel
theorem dL_law_407 : decode cL_law 407 = .ok (.invokevirtual 60, 3) := by decide +kernel
theorem dL_law_410 : decode cL_law 410 = .ok (.if_icmp .eq 410, 3) := by decide +kernel
theorem dL_law_413 : decode cL_law 413 = .ok (.iconst 0, 1) := by decide +kernel
theorem dL_law_414 : decode cL_law 414 = .ok (.ireturn, 1) := by decide +kernel
theorem dL_law_415 : decode cL_law 415 = .ok (.aload_n 1, 1) := by decide +kernel
theorem dL_law_416 : decode cL_law 416 = .ok (.invokevirtual 61, 3) := by decide +kernel
theorem dL_law_419 : decode cL_law 419 = .ok (.aload_n 2, 1) := by decide +kernel
theorem dL_law_420 : decode cL_law 420 = .ok (.invokevirtual 64, 3) := by decide +kernel
theorem dL_law_423 : decode cL_law 423 = .ok (.if_icmp .eq 397, 3) := by decide +kernel
theorem dL_law_426 : decode cL_law 426 = .ok (.iconst 0, 1) := by decide +kernel
theorem dL_law_427 : decode cL_law 427 = .ok (.ireturn, 1) := by decide +kernel
theorem dL_law_428 : decode cL_law 428 = .ok (.aload_n 1, 1) := by decide +kernel
theorem dL_law_429 : decode cL_law 429 = .ok (.aload_n 0, 1) := by decide +kernel
theorem dL_law_430 : decode cL_law 430 = .ok (.iload_n 3, 1) := by decide +kernel
theorem dL_law_431 : decode cL_law 431 = .ok (.iconst 1, 1) := by decide +kernel
theorem dL_law_432 : decode cL_law 432 = .ok (.iadd, 1) := by decide +kernel
theorem dL_law_433 : decode cL_law 433 = .ok (.iaload, 1) := by decide +kernel
theorem dL_law_434 : decode cL_law 434 = .ok (.invokevirtual 65, 3) := by decide +kernel
theorem dL_law_437 : decode cL_law 437 = .ok (.aload_n 2, 1) := by decide +kernel
theorem dL_law_438 : decode cL_law 438 = .ok (.aload_n 0, 1) := by decide +kernel
theorem dL_law_439 : decode cL_law 439 = .ok (.iload_n 3, 1) := by decide +kernel
theorem dL_law_440 : decode cL_law 440 = .ok (.iconst 1, 1) := by decide +kernel
theorem dL_law_441 : decode cL_law 441 = .ok (.iadd, 1) := by decide +kernel
theorem dL_law_442 : decode cL_law 442 = .ok (.iaload, 1) := by decide +kernel
theorem dL_law_443 : decode cL_law 443 = .ok (.invokevirtual 68, 3) := by decide +kernel
theorem dL_law_446 : decode cL_law 446 = .ok (.if_icmp .eq 374, 3) := by decide +kernel
theorem dL_law_449 : decode cL_law 449 = .ok (.iconst 0, 1) := by decide +kernel
theorem dL_law_450 : decode cL_law 450 = .ok (.ireturn, 1) := by decide +kernel
theorem dL_law_451 : decode cL_law 451 = .ok (.aload_n 1, 1) := by decide +kernel
theorem dL_law_452 : decode cL_law 452 = .ok (.aload_n 0, 1) := by decide +kernel
theorem dL_law_453 : decode cL_law 453 = .ok (.iload_n 3, 1) := by decide +kernel
theorem dL_law_454 : decode cL_law 454 = .ok (.iconst 1, 1) := by decide +kernel
theorem dL_law_455 : decode cL_law 455 = .ok (.iadd, 1) := by decide +kernel
theorem dL_law_456 : decode cL_law 456 = .ok (.iaload, 1) := by decide +kernel
theorem dL_law_457 : decode cL_law 457 = .ok (.aload_n 0, 1) := by decide +kernel
theorem dL_law_458 : decode cL_law 458 = .ok (.iload_n 3, 1) := by decide +kernel
theorem dL_law_459 : decode cL_law 459 = .ok (.iconst 2, 1) := by decide +kernel
theorem dL_law_460 : decode cL_law 460 = .ok (.iadd, 1) := by decide +kernel
theorem dL_law_461 : decode cL_law 461 = .ok (.iaload, 1) := by decide +kernel
theorem dL_law_462 : decode cL_law 462 = .ok (.invokevirtual 69, 3) := by decide +kernel
theorem dL_law_465 : decode cL_law 465 = .ok (.aload_n 2, 1) := by decide +kernel
theorem dL_law_466 : decode cL_law 466 = .ok (.aload_n 0, 1) := by decide +kernel
theorem dL_law_467 : decode cL_law 467 = .ok (.iload_n 3, 1) := by decide +kernel
theorem dL_law_468 : decode cL_law 468 = .ok (.iconst 1, 1) := by decide +kernel
theorem dL_law_469 : decode cL_law 469 = .ok (.iadd, 1) := by decide +kernel
theorem dL_law_470 : decode cL_law 470 = .ok (.iaload, 1) := by decide +kernel
theorem dL_law_471 : decode cL_law 471 = .ok (.aload_n 0, 1) := by decide +kernel
theorem dL_law_472 : decode cL_law 472 = .ok (.iload_n 3, 1) := by decide +kernel
theorem dL_law_473 : decode cL_law 473 = .ok (.iconst 2, 1) := by decide +kernel
theorem dL_law_474 : decode cL_law 474 = .ok (.iadd, 1) := by decide +kernel
theorem dL_law_475 : decode cL_law 475 = .ok (.iaload, 1) := by decide +kernel
theorem dL_law_476 : decode cL_law 476 = .ok (.invokevirtual 72, 3) := by decide +kernel
theorem dL_law_479 : decode cL_law 479 = .ok (.if_icmp .eq 341, 3) := by decide +kernel
theorem dL_law_482 : decode cL_law 482 = .ok (.iconst 0, 1) := by decide +kernel
theorem dL_law_483 : decode cL_law 483 = .ok (.ireturn, 1) := by decide +kernel
theorem dL_law_484 : decode cL_law 484 = .ok (.aload_n 1, 1) := by decide +kernel
theorem dL_law_485 : decode cL_law 485 = .ok (.aload_n 0, 1) := by decide +kernel
theorem dL_law_486 : decode cL_law 486 = .ok (.iload_n 3, 1) := by decide +kernel
theorem dL_law_487 : decode cL_law 487 = .ok (.iconst 1, 1) := by decide +kernel
theorem dL_law_488 : decode cL_law 488 = .ok (.iadd, 1) := by decide +kernel
theorem dL_law_489 : decode cL_law 489 = .ok (.iaload, 1) := by decide +kernel
theorem dL_law_490 : decode cL_law 490 = .ok (.aload_n 0, 1) := by decide +kernel
theorem dL_law_491 : decode cL_law 491 = .ok (.iload_n 3, 1) := by decide +kernel
theorem dL_law_492 : decode cL_law 492 = .ok (.iconst 2, 1) := by decide +kernel
theorem dL_law_493 : decode cL_law 493 = .ok (.iadd, 1) := by decide +kernel
theorem dL_law_494 : decode cL_law 494 = .ok (.iaload, 1) := by decide +kernel
theorem dL_law_495 : decode cL_law 495 = .ok (.invokevirtual 73, 3) := by decide +kernel
theorem dL_law_498 : decode cL_law 498 = .ok (.aload_n 2, 1) := by decide +kernel
theorem dL_law_499 : decode cL_law 499 = .ok (.aload_n 0, 1) := by decide +kernel
theorem dL_law_500 : decode cL_law 500 = .ok (.iload_n 3, 1) := by decide +kernel
theorem dL_law_501 : decode cL_law 501 = .ok (.iconst 1, 1) := by decide +kernel
theorem dL_law_502 : decode cL_law 502 = .ok (.iadd, 1) := by decide +kernel
theorem dL_law_503 : decode cL_law 503 = .ok (.iaload, 1) := by decide +kernel
theorem dL_law_504 : decode cL_law 504 = .ok (.aload_n 0, 1) := by decide +kernel
theorem dL_law_505 : decode cL_law 505 = .ok (.iload_n 3, 1) := by decide +kernel
theorem dL_law_506 : decode cL_law 506 = .ok (.iconst 2, 1) := by decide +kernel
theorem dL_law_507 : decode cL_law 507 = .ok (.iadd, 1) := by decide +kernel
theorem dL_law_508 : decode cL_law 508 = .ok (.iaload, 1) := by decide +kernel
theorem dL_law_509 : decode cL_law 509 = .ok (.invokevirtual 76, 3) := by decide +kernel
theorem dL_law_512 : decode cL_law 512 = .ok (.if_icmp .eq 308, 3) := by decide +kernel
theorem dL_law_515 : decode cL_law 515 = .ok (.iconst 0, 1) := by decide +kernel
theorem dL_law_516 : decode cL_law 516 = .ok (.ireturn, 1) := by decide +kernel
theorem dL_law_517 : decode cL_law 517 = .ok (.aload_n 1, 1) := by decide +kernel
theorem dL_law_518 : decode cL_law 518 = .ok (.aload_n 0, 1) := by decide +kernel
theorem dL_law_519 : decode cL_law 519 = .ok (.iload_n 3, 1) := by decide +kernel
theorem dL_law_520 : decode cL_law 520 = .ok (.iconst 1, 1) := by decide +kernel
theorem dL_law_521 : decode cL_law 521 = .ok (.iadd, 1) := by decide +kernel
theorem dL_law_522 : decode cL_law 522 = .ok (.iaload, 1) := by decide +kernel
theorem dL_law_523 : decode cL_law 523 = .ok (.invokevirtual 77, 3) := by decide +kernel
theorem dL_law_526 : decode cL_law 526 = .ok (.aload_n 2, 1) := by decide +kernel
theorem dL_law_527 : decode cL_law 527 = .ok (.aload_n 0, 1) := by decide +kernel
theorem dL_law_528 : decode cL_law 528 = .ok (.iload_n 3, 1) := by decide +kernel
theorem dL_law_529 : decode cL_law 529 = .ok (.iconst 1, 1) := by decide +kernel
theorem dL_law_530 : decode cL_law 530 = .ok (.iadd, 1) := by decide +kernel
theorem dL_law_531 : decode cL_law 531 = .ok (.iaload, 1) := by decide +kernel
theorem dL_law_532 : decode cL_law 532 = .ok (.invokevirtual 80, 3) := by decide +kernel
theorem dL_law_535 : decode cL_law 535 = .ok (.if_icmp .eq 285, 3) := by decide +kernel
theorem dL_law_538 : decode cL_law 538 = .ok (.iconst 0, 1) := by decide +kernel
theorem dL_law_539 : decode cL_law 539 = .ok (.ireturn, 1) := by decide +kernel
theorem dL_law_540 : decode cL_law 540 = .ok (.aload_n 1, 1) := by decide +kernel
theorem dL_law_541 : decode cL_law 541 = .ok (.aload_n 0, 1) := by decide +kernel
theorem dL_law_542 : decode cL_law 542 = .ok (.iload_n 3, 1) := by decide +kernel
theorem dL_law_543 : decode cL_law 543 = .ok (.iconst 1, 1) := by decide +kernel
theorem dL_law_544 : decode cL_law 544 = .ok (.iadd, 1) := by decide +kernel
theorem dL_law_545 : decode cL_law 545 = .ok (.iaload, 1) := by decide +kernel
theorem dL_law_546 : decode cL_law 546 = .ok (.aload_n 0, 1) := by decide +kernel
theorem dL_law_547 : decode cL_law 547 = .ok (.iload_n 3, 1) := by decide +kernel
theorem dL_law_548 : decode cL_law 548 = .ok (.iconst 2, 1) := by decide +kernel
theorem dL_law_549 : decode cL_law 549 = .ok (.iadd, 1) := by decide +kernel
theorem dL_law_550 : decode cL_law 550 = .ok (.iaload, 1) := by decide +kernel
theorem dL_law_551 : decode cL_law 551 = .ok (.invokevirtual 81, 3) := by decide +kernel
theorem dL_law_554 : decode cL_law 554 = .ok (.aload_n 2, 1) := by decide +kernel
theorem dL_law_555 : decode cL_law 555 = .ok (.aload_n 0, 1) := by decide +kernel
theorem dL_law_556 : decode cL_law 556 = .ok (.iload_n 3, 1) := by decide +kernel
theorem dL_law_557 : decode cL_law 557 = .ok (.iconst 1, 1) := by decide +kernel
theorem dL_law_558 : decode cL_law 558 = .ok (.iadd, 1) := by decide +kernel
theorem dL_law_559 : decode cL_law 559 = .ok (.iaload, 1) := by decide +kernel
theorem dL_law_560 : decode cL_law 560 = .ok (.aload_n 0, 1) := by decide +kernel
theorem dL_law_561 : decode cL_law 561 = .ok (.iload_n 3, 1) := by decide +kernel
theorem dL_law_562 : decode cL_law 562 = .ok (.iconst 2, 1) := by decide +kernel
theorem dL_law_563 : decode cL_law 563 = .ok (.iadd, 1) := by decide +kernel
theorem dL_law_564 : decode cL_law 564 = .ok (.iaload, 1) := by decide +kernel
theorem dL_law_565 : decode cL_law 565 = .ok (.invokevirtual 84, 3) := by decide +kernel
theorem dL_law_568 : decode cL_law 568 = .ok (.if_icmp .eq 252, 3) := by decide +kernel
theorem dL_law_571 : decode cL_law 571 = .ok (.iconst 0, 1) := by decide +kernel
theorem dL_law_572 : decode cL_law 572 = .ok (.ireturn, 1) := by decide +kernel
theorem dL_law_573 : decode cL_law 573 = .ok (.aload_n 1, 1) := by decide +kernel
theorem dL_law_574 : decode cL_law 574 = .ok (.invokevirtual 85, 3) := by decide +kernel
theorem dL_law_577 : decode cL_law 577 = .ok (.aload_n 2, 1) := by decide +kernel
theorem dL_law_578 : decode cL_law 578 = .ok (.invokevirtual 88, 3) := by decide +kernel
theorem dL_law_581 : decode cL_law 581 = .ok (.if_icmp .eq 239, 3) := by decide +kernel
theorem dL_law_584 : decode cL_law 584 = .ok (.iconst 0, 1) := by decide +kernel
theorem dL_law_585 : decode cL_law 585 = .ok (.ireturn, 1) := by decide +kernel
theorem dL_law_586 : decode cL_law 586 = .ok (.aload_n 1, 1) := by decide +kernel
theorem dL_law_587 : decode cL_law 587 = .ok (.aload_n 0, 1) := by decide +kernel
theorem dL_law_588 : decode cL_law 588 = .ok (.iload_n 3, 1) := by decide +kernel
theorem dL_law_589 : decode cL_law 589 = .ok (.iconst 1, 1) := by decide +kernel
theorem dL_law_590 : decode cL_law 590 = .ok (.iadd, 1) := by decide +kernel
theorem dL_law_591 : decode cL_law 591 = .ok (.iaload, 1) := by decide +kernel
theorem dL_law_592 : decode cL_law 592 = .ok (.aload_n 0, 1) := by decide +kernel
theorem dL_law_593 : decode cL_law 593 = .ok (.iload_n 3, 1) := by decide +kernel
theorem dL_law_594 : decode cL_law 594 = .ok (.iconst 2, 1) := by decide +kernel
theorem dL_law_595 : decode cL_law 595 = .ok (.iadd, 1) := by decide +kernel
theorem dL_law_596 : decode cL_law 596 = .ok (.iaload, 1) := by decide +kernel
theorem dL_law_597 : decode cL_law 597 = .ok (.invokevirtual 89, 3) := by decide +kernel
theorem dL_law_600 : decode cL_law 600 = .ok (.aload_n 2, 1) := by decide +kernel
theorem dL_law_601 : decode cL_law 601 = .ok (.aload_n 0, 1) := by decide +kernel
theorem dL_law_602 : decode cL_law 602 = .ok (.iload_n 3, 1) := by decide +kernel
theorem dL_law_603 : decode cL_law 603 = .ok (.iconst 1, 1) := by decide +kernel
theorem dL_law_604 : decode cL_law 604 = .ok (.iadd, 1) := by decide +kernel
theorem dL_law_605 : decode cL_law 605 = .ok (.iaload, 1) := by decide +kernel
theorem dL_law_606 : decode cL_law 606 = .ok (.aload_n 0, 1) := by decide +kernel
theorem dL_law_607 : decode cL_law 607 = .ok (.iload_n 3, 1) := by decide +kernel
theorem dL_law_608 : decode cL_law 608 = .ok (.iconst 2, 1) := by decide +kernel
theorem dL_law_609 : decode cL_law 609 = .ok (.iadd, 1) := by decide +kernel
theorem dL_law_610 : decode cL_law 610 = .ok (.iaload, 1) := by decide +kernel
theorem dL_law_611 : decode cL_law 611 = .ok (.invokevirtual 92, 3) := by decide +kernel
theorem dL_law_614 : decode cL_law 614 = .ok (.if_icmp .eq 206, 3) := by decide +kernel
theorem dL_law_617 : decode cL_law 617 = .ok (.iconst 0, 1) := by decide +kernel
theorem dL_law_618 : decode cL_law 618 = .ok (.ireturn, 1) := by decide +kernel
theorem dL_law_619 : decode cL_law 619 = .ok (.aload_n 1, 1) := by decide +kernel
theorem dL_law_620 : decode cL_law 620 = .ok (.aload_n 0, 1) := by decide +kernel
theorem dL_law_621 : decode cL_law 621 = .ok (.iload_n 3, 1) := by decide +kernel
theorem dL_law_622 : decode cL_law 622 = .ok (.iconst 1, 1) := by decide +kernel
theorem dL_law_623 : decode cL_law 623 = .ok (.iadd, 1) := by decide +kernel
theorem dL_law_624 : decode cL_law 624 = .ok (.iaload, 1) := by decide +kernel
theorem dL_law_625 : decode cL_law 625 = .ok (.aload_n 0, 1) := by decide +kernel
theorem dL_law_626 : decode cL_law 626 = .ok (.iload_n 3, 1) := by decide +kernel
theorem dL_law_627 : decode cL_law 627 = .ok (.iconst 2, 1) := by decide +kernel
theorem dL_law_628 : decode cL_law 628 = .ok (.iadd, 1) := by decide +kernel
theorem dL_law_629 : decode cL_law 629 = .ok (.iaload, 1) := by decide +kernel
theorem dL_law_630 : decode cL_law 630 = .ok (.aload_n 0, 1) := by decide +kernel
theorem dL_law_631 : decode cL_law 631 = .ok (.iload_n 3, 1) := by decide +kernel
theorem dL_law_632 : decode cL_law 632 = .ok (.iconst 3, 1) := by decide +kernel
theorem dL_law_633 : decode cL_law 633 = .ok (.iadd, 1) := by decide +kernel
theorem dL_law_634 : decode cL_law 634 = .ok (.iaload, 1) := by decide +kernel
theorem dL_law_635 : decode cL_law 635 = .ok (.aload_n 0, 1) := by decide +kernel
theorem dL_law_636 : decode cL_law 636 = .ok (.iload_n 3, 1) := by decide +kernel
theorem dL_law_637 : decode cL_law 637 = .ok (.iconst 4, 1) := by decide +kernel
theorem dL_law_638 : decode cL_law 638 = .ok (.iadd, 1) := by decide +kernel
theorem dL_law_639 : decode cL_law 639 = .ok (.iaload, 1) := by decide +kernel
theorem dL_law_640 : decode cL_law 640 = .ok (.aload_n 0, 1) := by decide +kernel
theorem dL_law_641 : decode cL_law 641 = .ok (.iload_n 3, 1) := by decide +kernel
theorem dL_law_642 : decode cL_law 642 = .ok (.iconst 5, 1) := by decide +kernel
theorem dL_law_643 : decode cL_law 643 = .ok (.iadd, 1) := by decide +kernel
theorem dL_law_644 : decode cL_law 644 = .ok (.iaload, 1) := by decide +kernel
theorem dL_law_645 : decode cL_law 645 = .ok (.invokevirtual 93, 3) := by decide +kernel
theorem dL_law_648 : decode cL_law 648 = .ok (.aload_n 2, 1) := by decide +kernel
theorem dL_law_649 : decode cL_law 649 = .ok (.aload_n 0, 1) := by decide +kernel
theorem dL_law_650 : decode cL_law 650 = .ok (.iload_n 3, 1) := by decide +kernel
theorem dL_law_651 : decode cL_law 651 = .ok (.iconst 1, 1) := by decide +kernel
theorem dL_law_652 : decode cL_law 652 = .ok (.iadd, 1) := by decide +kernel
theorem dL_law_653 : decode cL_law 653 = .ok (.iaload, 1) := by decide +kernel
theorem dL_law_654 : decode cL_law 654 = .ok (.aload_n 0, 1) := by decide +kernel
theorem dL_law_655 : decode cL_law 655 = .ok (.iload_n 3, 1) := by decide +kernel
theorem dL_law_656 : decode cL_law 656 = .ok (.iconst 2, 1) := by decide +kernel
theorem dL_law_657 : decode cL_law 657 = .ok (.iadd, 1) := by decide +kernel
theorem dL_law_658 : decode cL_law 658 = .ok (.iaload, 1) := by decide +kernel
theorem dL_law_659 : decode cL_law 659 = .ok (.aload_n 0, 1) := by decide +kernel
theorem dL_law_660 : decode cL_law 660 = .ok (.iload_n 3, 1) := by decide +kernel
theorem dL_law_661 : decode cL_law 661 = .ok (.iconst 3, 1) := by decide +kernel
theorem dL_law_662 : decode cL_law 662 = .ok (.iadd, 1) := by decide +kernel
theorem dL_law_663 : decode cL_law 663 = .ok (.iaload, 1) := by decide +kernel
theorem dL_law_664 : decode cL_law 664 = .ok (.aload_n 0, 1) := by decide +kernel
theorem dL_law_665 : decode cL_law 665 = .ok (.iload_n 3, 1) := by decide +kernel
theorem dL_law_666 : decode cL_law 666 = .ok (.iconst 4, 1) := by decide +kernel
theorem dL_law_667 : decode cL_law 667 = .ok (.iadd, 1) := by decide +kernel
theorem dL_law_668 : decode cL_law 668 = .ok (.iaload, 1) := by decide +kernel
theorem dL_law_669 : decode cL_law 669 = .ok (.aload_n 0, 1) := by decide +kernel
theorem dL_law_670 : decode cL_law 670 = .ok (.iload_n 3, 1) := by decide +kernel
theorem dL_law_671 : decode cL_law 671 = .ok (.iconst 5, 1) := by decide +kernel
theorem dL_law_672 : decode cL_law 672 = .ok (.iadd, 1) := by decide +kernel
theorem dL_law_673 : decode cL_law 673 = .ok (.iaload, 1) := by decide +kernel
theorem dL_law_674 : decode cL_law 674 = .ok (.invokevirtual 97, 3) := by decide +kernel
theorem dL_law_677 : decode cL_law 677 = .ok (.if_icmp .eq 143, 3) := by decide +kernel
theorem dL_law_680 : decode cL_law 680 = .ok (.iconst 0, 1) := by decide +kernel
theorem dL_law_681 : decode cL_law 681 = .ok (.ireturn, 1) := by decide +kernel
theorem dL_law_682 : decode cL_law 682 = .ok (.aload_n 1, 1) := by decide +kernel
theorem dL_law_683 : decode cL_law 683 = .ok (.aload_n 0, 1) := by decide +kernel
theorem dL_law_684 : decode cL_law 684 = .ok (.iload_n 3, 1) := by decide +kernel
theorem dL_law_685 : decode cL_law 685 = .ok (.iconst 1, 1) := by decide +kernel
theorem dL_law_686 : decode cL_law 686 = .ok (.iadd, 1) := by decide +kernel
theorem dL_law_687 : decode cL_law 687 = .ok (.iaload, 1) := by decide +kernel
theorem dL_law_688 : decode cL_law 688 = .ok (.invokevirtual 98, 3) := by decide +kernel
theorem dL_law_691 : decode cL_law 691 = .ok (.aload_n 2, 1) := by decide +kernel
theorem dL_law_692 : decode cL_law 692 = .ok (.aload_n 0, 1) := by decide +kernel
theorem dL_law_693 : decode cL_law 693 = .ok (.iload_n 3, 1) := by decide +kernel
theorem dL_law_694 : decode cL_law 694 = .ok (.iconst 1, 1) := by decide +kernel
theorem dL_law_695 : decode cL_law 695 = .ok (.iadd, 1) := by decide +kernel
theorem dL_law_696 : decode cL_law 696 = .ok (.iaload, 1) := by decide +kernel
theorem dL_law_697 : decode cL_law 697 = .ok (.invokevirtual 101, 3) := by decide +kernel
theorem dL_law_700 : decode cL_law 700 = .ok (.if_icmp .eq 120, 3) := by decide +kernel
theorem dL_law_703 : decode cL_law 703 = .ok (.iconst 0, 1) := by decide +kernel
theorem dL_law_704 : decode cL_law 704 = .ok (.ireturn, 1) := by decide +kernel
theorem dL_law_705 : decode cL_law 705 = .ok (.aload_n 1, 1) := by decide +kernel
theorem dL_law_706 : decode cL_law 706 = .ok (.aload_n 0, 1) := by decide +kernel
theorem dL_law_707 : decode cL_law 707 = .ok (.iload_n 3, 1) := by decide +kernel
theorem dL_law_708 : decode cL_law 708 = .ok (.iconst 1, 1) := by decide +kernel
theorem dL_law_709 : decode cL_law 709 = .ok (.iadd, 1) := by decide +kernel
theorem dL_law_710 : decode cL_law 710 = .ok (.iaload, 1) := by decide +kernel
theorem dL_law_711 : decode cL_law 711 = .ok (.invokevirtual 102, 3) := by decide +kernel
theorem dL_law_714 : decode cL_law 714 = .ok (.aload_n 2, 1) := by decide +kernel
theorem dL_law_715 : decode cL_law 715 = .ok (.aload_n 0, 1) := by decide +kernel
theorem dL_law_716 : decode cL_law 716 = .ok (.iload_n 3, 1) := by decide +kernel
theorem dL_law_717 : decode cL_law 717 = .ok (.iconst 1, 1) := by decide +kernel
theorem dL_law_718 : decode cL_law 718 = .ok (.iadd, 1) := by decide +kernel
theorem dL_law_719 : decode cL_law 719 = .ok (.iaload, 1) := by decide +kernel
theorem dL_law_720 : decode cL_law 720 = .ok (.invokevirtual 105, 3) := by decide +kernel
theorem dL_law_723 : decode cL_law 723 = .ok (.if_icmp .eq 97, 3) := by decide +kernel
theorem dL_law_726 : decode cL_law 726 = .ok (.iconst 0, 1) := by decide +kernel
theorem dL_law_727 : decode cL_law 727 = .ok (.ireturn, 1) := by decide +kernel
theorem dL_law_728 : decode cL_law 728 = .ok (.aload_n 1, 1) := by decide +kernel
theorem dL_law_729 : decode cL_law 729 = .ok (.aload_n 0, 1) := by decide +kernel
theorem dL_law_730 : decode cL_law 730 = .ok (.iload_n 3, 1) := by decide +kernel
theorem dL_law_731 : decode cL_law 731 = .ok (.iconst 1, 1) := by decide +kernel
theorem dL_law_732 : decode cL_law 732 = .ok (.iadd, 1) := by decide +kernel
theorem dL_law_733 : decode cL_law 733 = .ok (.iaload, 1) := by decide +kernel
theorem dL_law_734 : decode cL_law 734 = .ok (.aload_n 0, 1) := by decide +kernel
theorem dL_law_735 : decode cL_law 735 = .ok (.iload_n 3, 1) := by decide +kernel
theorem dL_law_736 : decode cL_law 736 = .ok (.iconst 2, 1) := by decide +kernel
theorem dL_law_737 : decode cL_law 737 = .ok (.iadd, 1) := by decide +kernel
theorem dL_law_738 : decode cL_law 738 = .ok (.iaload, 1) := by decide +kernel
theorem dL_law_739 : decode cL_law 739 = .ok (.aload_n 0, 1) := by decide +kernel
theorem dL_law_740 : decode cL_law 740 = .ok (.iload_n 3, 1) := by decide +kernel
theorem dL_law_741 : decode cL_law 741 = .ok (.iconst 3, 1) := by decide +kernel
theorem dL_law_742 : decode cL_law 742 = .ok (.iadd, 1) := by decide +kernel
theorem dL_law_743 : decode cL_law 743 = .ok (.iaload, 1) := by decide +kernel
theorem dL_law_744 : decode cL_law 744 = .ok (.invokevirtual 106, 3) := by decide +kernel
theorem dL_law_747 : decode cL_law 747 = .ok (.aload_n 2, 1) := by decide +kernel
theorem dL_law_748 : decode cL_law 748 = .ok (.aload_n 0, 1) := by decide +kernel
theorem dL_law_749 : decode cL_law 749 = .ok (.iload_n 3, 1) := by decide +kernel
theorem dL_law_750 : decode cL_law 750 = .ok (.iconst 1, 1) := by decide +kernel
theorem dL_law_751 : decode cL_law 751 = .ok (.iadd, 1) := by decide +kernel
theorem dL_law_752 : decode cL_law 752 = .ok (.iaload, 1) := by decide +kernel
theorem dL_law_753 : decode cL_law 753 = .ok (.aload_n 0, 1) := by decide +kernel
theorem dL_law_754 : decode cL_law 754 = .ok (.iload_n 3, 1) := by decide +kernel
theorem dL_law_755 : decode cL_law 755 = .ok (.iconst 2, 1) := by decide +kernel
theorem dL_law_756 : decode cL_law 756 = .ok (.iadd, 1) := by decide +kernel
theorem dL_law_757 : decode cL_law 757 = .ok (.iaload, 1) := by decide +kernel
theorem dL_law_758 : decode cL_law 758 = .ok (.aload_n 0, 1) := by decide +kernel
theorem dL_law_759 : decode cL_law 759 = .ok (.iload_n 3, 1) := by decide +kernel
theorem dL_law_760 : decode cL_law 760 = .ok (.iconst 3, 1) := by decide +kernel
theorem dL_law_761 : decode cL_law 761 = .ok (.iadd, 1) := by decide +kernel
theorem dL_law_762 : decode cL_law 762 = .ok (.iaload, 1) := by decide +kernel
theorem dL_law_763 : decode cL_law 763 = .ok (.invokevirtual 109, 3) := by decide +kernel
theorem dL_law_766 : decode cL_law 766 = .ok (.if_icmp .eq 54, 3) := by decide +kernel
theorem dL_law_769 : decode cL_law 769 = .ok (.iconst 0, 1) := by decide +kernel
theorem dL_law_770 : decode cL_law 770 = .ok (.ireturn, 1) := by decide +kernel
theorem dL_law_771 : decode cL_law 771 = .ok (.aload_n 1, 1) := by decide +kernel
theorem dL_law_772 : decode cL_law 772 = .ok (.invokevirtual 110, 3) := by decide +kernel
theorem dL_law_775 : decode cL_law 775 = .ok (.aload_n 2, 1) := by decide +kernel
theorem dL_law_776 : decode cL_law 776 = .ok (.invokevirtual 113, 3) := by decide +kernel
theorem dL_law_779 : decode cL_law 779 = .ok (.if_icmp .eq 41, 3) := by decide +kernel
theorem dL_law_782 : decode cL_law 782 = .ok (.iconst 0, 1) := by decide +kernel
theorem dL_law_783 : decode cL_law 783 = .ok (.ireturn, 1) := by decide +kernel
theorem dL_law_784 : decode cL_law 784 = .ok (.aload_n 1, 1) := by decide +kernel
theorem dL_law_785 : decode cL_law 785 = .ok (.invokevirtual 114, 3) := by decide +kernel
theorem dL_law_788 : decode cL_law 788 = .ok (.aload_n 2, 1) := by decide +kernel
theorem dL_law_789 : decode cL_law 789 = .ok (.invokevirtual 117, 3) := by decide +kernel
theorem dL_law_792 : decode cL_law 792 = .ok (.if_icmp .eq 28, 3) := by decide +kernel
theorem dL_law_795 : decode cL_law 795 = .ok (.iconst 0, 1) := by decide +kernel
theorem dL_law_796 : decode cL_law 796 = .ok (.ireturn, 1) := by decide +kernel
theorem dL_law_797 : decode cL_law 797 = .ok (.aload_n 1, 1) := by decide +kernel
theorem dL_law_798 : decode cL_law 798 = .ok (.aload_n 0, 1) := by decide +kernel
theorem dL_law_799 : decode cL_law 799 = .ok (.iload_n 3, 1) := by decide +kernel
theorem dL_law_800 : decode cL_law 800 = .ok (.iconst 1, 1) := by decide +kernel
theorem dL_law_801 : decode cL_law 801 = .ok (.iadd, 1) := by decide +kernel
theorem dL_law_802 : decode cL_law 802 = .ok (.iaload, 1) := by decide +kernel
theorem dL_law_803 : decode cL_law 803 = .ok (.invokevirtual 118, 3) := by decide +kernel
theorem dL_law_806 : decode cL_law 806 = .ok (.aload_n 2, 1) := by decide +kernel
theorem dL_law_807 : decode cL_law 807 = .ok (.aload_n 0, 1) := by decide +kernel
theorem dL_law_808 : decode cL_law 808 = .ok (.iload_n 3, 1) := by decide +kernel
theorem dL_law_809 : decode cL_law 809 = .ok (.iconst 1, 1) := by decide +kernel
theorem dL_law_810 : decode cL_law 810 = .ok (.iadd, 1) := by decide +kernel
theorem dL_law_811 : decode cL_law 811 = .ok (.iaload, 1) := by decide +kernel
theorem dL_law_812 : decode cL_law 812 = .ok (.invokevirtual 121, 3) := by decide +kernel
theorem dL_law_815 : decode cL_law 815 = .ok (.if_icmp .eq 5, 3) := by decide +kernel
theorem dL_law_818 : decode cL_law 818 = .ok (.iconst 0, 1) := by decide +kernel
theorem dL_law_819 : decode cL_law 819 = .ok (.ireturn, 1) := by decide +kernel
theorem dL_law_820 : decode cL_law 820 = .ok (.iinc 3 6, 3) := by decide +kernel
theorem dL_law_823 : decode cL_law 823 = .ok (.goto (-805), 3) := by decide +kernel
theorem dL_law_826 : decode cL_law 826 = .ok (.iconst 1, 1) := by decide +kernel
theorem dL_law_827 : decode cL_law 827 = .ok (.ireturn, 1) := by decide +kernel
end
section
/-! ===== a flat memory over the machine: cells by number, each a row of ints; one judgement V for a method's body ===== -/
abbrev FMem : Type := Nat → Nat → Int32
def rset (FM : FMem) (i : Nat) (row : Nat → Int32) : FMem := fun j => if j = i then row else FM j
/-- a world: the tables' numbers, the array classes, how a cell's row is held, how many cells, the first address -/
abbrev Wd : Type := va_G × List (ClassId × FieldType) × (Nat → (Nat → Int32) → va_E) × Nat × Nat
def wD (w : Wd) : va_G := w.1
def wT (w : Wd) : List (ClassId × FieldType) := w.2.1
def wM (w : Wd) : Nat → (Nat → Int32) → va_E := w.2.2.1
def wN (w : Wd) : Nat := w.2.2.2.1
def wB (w : Wd) : Nat := w.2.2.2.2
def wl (w : Wd) (FM : FMem) : va_W := (List.range (wN w)).map (fun i => (wB w + i, wM w i (FM i)))
def Rg (w : Wd) : Nat → Prop := fun q => wB w ≤ q ∧ q < wB w + wN w
theorem wl_get {w : Wd} {FM : FMem} {i : Nat} (hi : i < wN w) : (wl w FM)[i]? = some (wB w + i, wM w i (FM i)) := by
  simp [wl, hi]
theorem wl_of {w : Wd} {FM : FMem} {i : Nat} {q : Nat × va_E} (h : (wl w FM)[i]? = some q) : i < wN w ∧ q = (wB w + i, wM w i (FM i)) := by
  by_cases hi : i < wN w
  · rw [wl_get hi] at h
    exact ⟨hi, (Option.some.inj h).symm⟩
  · simp [wl, hi] at h
theorem wl_set {w : Wd} {FM : FMem} {i : Nat} (row : Nat → Int32) : (wl w FM).set i (wB w + i, wM w i row) = wl w (rset FM i row) := by
  refine List.ext_getElem? fun j => ?_
  rw [List.getElem?_set]
  by_cases hj : j < wN w
  · rw [wl_get hj, wl_get hj]
    by_cases e : i = j
    · subst e
      simp [wl, hj, rset]
    · have e2 : ¬ j = i := fun h => e h.symm
      simp [e, rset, e2]
  · by_cases e : i = j
    · subst e
      simp [wl, hj]
    · simp [wl, hj, e]
theorem wl_D {w : Wd} {FM : FMem} : va_D (Rg w) (wl w FM) := by
  refine ⟨fun i j p q hp hq h => ?_, fun k q hk => ?_⟩
  · obtain ⟨_, rfl⟩ := wl_of hp
    obtain ⟨_, rfl⟩ := wl_of hq
    have h2 : wB w + i = wB w + j := h
    omega
  · obtain ⟨h1, rfl⟩ := wl_of hk
    exact ⟨Nat.le_add_right _ _, Nat.add_lt_add_left h1 _⟩
/-! the tables' words, all of them, at a state -/
def nstW : Cond → Bool
  | .fieldLinkNest _ _ _ _ _ _ => true
  | .methodLinkNest _ _ _ _ => true
  | _ => false
def inT (x : Cond) : Prop := x ∈ lw_tbl ∧ (goodWord x || nstW x) = true
def TW (U : State) : Prop := ∀ x, inT x → ∀ A : Array Value, x.before A U = true
theorem tw_word {s U : State} (hW : s.WarmedH U.vm) {x : Cond} (hk : (goodWord x || nstW x) = true) {A : Array Value} (h : x.before A s = true) (A' : Array Value) : x.before A' U = true := by
  by_cases hg : goodWord x = true
  · exact word_at hW (good_of_word hg) h
  · have hn : nstW x = true := by
      rw [Bool.or_eq_true] at hk
      exact hk.resolve_left hg
    cases x <;> first | exact va_Nw.use rfl (va_Nw.warmF hW (va_Nw.of rfl h)) | exact va_Nw.use rfl (va_Nw.warmM hW (va_Nw.of rfl h)) | exact absurd hn (by simp [nstW])
theorem TW.of {s : State} {A : Array Value} (h : ∀ x ∈ lw_tbl, x.before A s = true) : TW s := fun x hx A' => tw_word (State.WarmedH.refl s) hx.2 (h x hx.1) A'
theorem TW.warm {s U : State} (h : TW s) (hW : s.WarmedH U.vm) : TW U := fun x hx A' => tw_word hW hx.2 (h x hx #[]) A'
def KU (w : Wd) (U : State) : Prop := va_K (wD w) vwCl (wT w) U ∧ TW U
theorem KU.warm {w : Wd} {s U : State} (h : KU w s) (hW : s.WarmedH U.vm) : KU w U := ⟨va_K.moved hW.alike h.1, h.2.warm hW⟩
/-! locals, as a list of places -/
def LH (ls : Array Slot) (nL : Nat) (L : List (Option Value)) : Prop := L.length = nL ∧ ls.size = nL ∧ lv_wf ls ∧ ∀ (i : Nat) (v : Value), L[i]? = some (some v) → ls[i]? = some (.val v)
def lvL (L : List (Option Value)) : List (Nat × Value) := (List.range L.length).filterMap (fun i => (L[i]?.join).map (fun v => (i, v)))
theorem lvL_mem {L : List (Option Value)} {i : Nat} {v : Value} : (i, v) ∈ lvL L ↔ L[i]? = some (some v) := by
  unfold lvL
  rw [List.mem_filterMap]
  constructor
  · rintro ⟨j, hj, h⟩
    rw [Option.map_eq_some_iff] at h
    obtain ⟨v', h1, h2⟩ := h
    cases h2
    rw [Option.join_eq_some_iff] at h1
    exact h1
  · intro h
    refine ⟨i, List.mem_range.mpr (List.getElem?_eq_some_iff.mp h).1, ?_⟩
    rw [h]
    rfl
theorem LH.has {ls : Array Slot} {nL : Nat} {L : List (Option Value)} (h : LH ls nL L) : lv_has ls nL (lvL L) := ⟨h.2.1, h.2.2.1, fun q hq => h.2.2.2 q.1 q.2 (lvL_mem.mp hq)⟩
theorem LH.at {ls : Array Slot} {nL : Nat} {L : List (Option Value)} (h : LH ls nL L) {i : Nat} {v : Value} (hi : L[i]? = some (some v)) : ls[i]? = some (.val v) := h.2.2.2 i v hi
/-- no long stands just ahead of place i -/
def chkL (L : List (Option Value)) : Nat → Bool
  | 0 => true
  | k + 1 => match L[k]? with
    | some (some v) => !(v.category == 2)
    | _ => true
theorem LH.st1 {ls' : Array Slot} {nL i : Nat} {x : Value} {L : List (Option Value)} (hlen : L.length = nL) (hc : chkL L i = true) (h : lv_has ls' nL ((i, x) :: (lvL L).filter (fun q => !(q.1 == i) && !(q.1 + 1 == i && q.2.category == 2)))) : LH ls' nL (L.set i (some x)) := by
  refine ⟨by rw [List.length_set]; exact hlen, h.1, h.2.1, fun j v hj => ?_⟩
  rw [List.getElem?_set] at hj
  by_cases e : i = j
  · subst e
    simp only [if_true] at hj
    split at hj
    · cases hj
      exact h.2.2 (i, x) List.mem_cons_self
    · cases hj
  · rw [if_neg e] at hj
    refine h.2.2 (j, v) (List.mem_cons_of_mem _ (List.mem_filter.mpr ⟨lvL_mem.mpr hj, ?_⟩))
    have e1 : (j == i) = false := by simpa using fun h => e h.symm
    by_cases e2 : j + 1 = i
    · subst e2
      simp only [chkL, hj] at hc
      simp only [e1, Bool.not_false, Bool.true_and, beq_self_eq_true, hc]
    · have e3 : (j + 1 == i) = false := by simpa using e2
      simp only [e1, e3, Bool.not_false, Bool.true_and, Bool.false_and]
theorem LH.st2 {ls' : Array Slot} {nL i : Nat} {x : Value} {L : List (Option Value)} (hlen : L.length = nL) (hc : chkL L i = true) (h : lv_has ls' nL ((i, x) :: (lvL L).filter (fun q => !(q.1 == i) && (!(q.1 == i + 1) && !(q.1 + 1 == i && q.2.category == 2))))) : LH ls' nL ((L.set i (some x)).set (i + 1) none) := by
  refine ⟨by rw [List.length_set, List.length_set]; exact hlen, h.1, h.2.1, fun j v hj => ?_⟩
  rw [List.getElem?_set] at hj
  by_cases e0 : i + 1 = j
  · subst e0
    simp only [if_true] at hj
    split at hj <;> cases hj
  · rw [if_neg e0, List.getElem?_set] at hj
    by_cases e : i = j
    · subst e
      simp only [if_true] at hj
      split at hj
      · cases hj
        exact h.2.2 (i, x) List.mem_cons_self
      · cases hj
    · rw [if_neg e] at hj
      refine h.2.2 (j, v) (List.mem_cons_of_mem _ (List.mem_filter.mpr ⟨lvL_mem.mpr hj, ?_⟩))
      have e1 : (j == i) = false := by simpa using fun h => e h.symm
      have e4 : (j == i + 1) = false := by simpa using fun h => e0 h.symm
      by_cases e2 : j + 1 = i
      · subst e2
        simp only [chkL, hj] at hc
        simp only [e1, e4, Bool.not_false, Bool.true_and, beq_self_eq_true, hc]
      · have e3 : (j + 1 == i) = false := by simpa using e2
        simp only [e1, e3, e4, Bool.not_false, Bool.true_and, Bool.false_and]
theorem lv_args_cat {As : List Value} (hc : ∀ v ∈ As, v.category = 1) : ∀ (k i : Nat) (v : Value), As[i]? = some v → (k + i, v) ∈ lv_args k As := by
  induction As with
  | nil => intro k i v h; cases h
  | cons a As ih =>
    intro k i v h
    unfold lv_args
    cases i with
    | zero => cases h; exact List.mem_cons_self
    | succ i =>
      refine List.mem_cons_of_mem _ ?_
      have h1 : ¬ a.category = 2 := by rw [hc a List.mem_cons_self]; decide
      rw [if_neg h1]
      have h2 := ih (fun v hv => hc v (List.mem_cons_of_mem _ hv)) (k + 1) i v h
      rw [show k + (i + 1) = k + 1 + i by omega]
      exact h2
theorem lg_sl_cat {As : List Value} (hc : ∀ v ∈ As, v.category = 1) : (lg_sl As).length = As.length := by
  induction As with
  | nil => rfl
  | cons a As ih =>
    have h1 : ¬ a.category = 2 := by rw [hc a List.mem_cons_self]; decide
    have h2 := ih (fun v hv => hc v (List.mem_cons_of_mem _ hv))
    unfold lg_sl at h2 ⊢
    simp [h1, h2]
/-! the judgement -/
def Wm (p : Program) (l : Launch) (e : Env) (R : Room) (s : State) (m : MethodId) (args : Array Value) (below : List Frame) (meth : Method) (c : Code) (nL : Nat) (w : Wd) (Q : State → Prop) (FM : FMem) (pc : Nat) (L : List (Option Value)) (st : List Value) : Prop :=
  ∀ (H : Heap) (locs : List Loc) (ls : Array Slot), va_P (wD w) vwCl (wl w FM) H → va_S (Rg w) s.heap H locs → LH ls nL L → W p l e R s m args below meth c H locs 0 0 Q (F0 m pc ls st)
def Qx (w : Wd) (rv : Option Value) (FR : FMem) : Array Value → State → Outcome → State → Prop := fun _ st oc t => oc = .returned rv ∧ va_P (wD w) vwCl (wl w FR) t.heap ∧ va_F (Rg w) st t
def Px (w : Wd) (FM : FMem) : State → Prop := fun U => va_P (wD w) vwCl (wl w FM) U.heap ∧ KU w U
def rmOf (fr lo : Nat) : Room := { frames := fr, cells := 0, slots := 0, locals := lo }
/-- a method's contract: from the memory FM it comes to FR and answers rv -/
def Mt (l : Launch) (w : Wd) (y : MethodName) (cc : ByteArray) (nL : Nat) (ret : Option FieldType) (fr lo : Nat) (As : List Value) (FM : FMem) (rv : Option Value) (FR : FMem) : Prop :=
  Met l y [.code y cc nL ret] (rmOf fr lo) (va_Pc As (Px w FM)) (Qx w rv FR) 0 0 (Rg w)
def Pk (l : Launch) (w : Wd) (cc : ByteArray) (nL : Nat) (own : String) (R : Room) (ret : Option FieldType) (rv : Option Value) (FR : FMem) (V : FMem → Nat → List (Option Value) → List Value → Prop) : Prop :=
  ∃ (p : Program) (e : Env) (s : State) (m : MethodId) (args : Array Value) (below : List Frame) (meth : Method) (c : Code), p.tables.exec = Jvm.exec ∧ c.code = cc ∧ c.maxLocals = nL ∧ s.vm.findClass own = some m.cls ∧ meth.sig.returnType = ret ∧ meth.locks = false ∧ KU w s ∧ V = Wm p l e R s m args below meth c nL w (MQ below (Qx w rv FR) args s 0 0 (Rg w))
theorem Px.blind {As : List Value} {w : Wd} {FM : FMem} : FrameBlind (va_Pc As (Px w FM)) := by
  intro a U g mk h
  obtain ⟨h1, h2, h3⟩ := h
  exact ⟨h1, h2, h3.warm (State.WarmedH.refl U)⟩
theorem Mt.of {l : Launch} {w : Wd} {y : MethodName} {cc : ByteArray} {nL : Nat} {ret : Option FieldType} {fr lo : Nat} {As : List Value} {FM : FMem} {rv : Option Value} {FR : FMem} (hy : plainName y.cls = true) (hc : ∀ v ∈ As, v.category = 1) (L0 : List (Option Value)) (hL0 : L0 = As.map some ++ List.replicate (nL - As.length) none) (hn : As.length ≤ nL)
    (body : ∀ V, Pk l w cc nL y.cls (rmOf fr lo) ret rv FR V → V FM 0 L0 []) : Mt l w y cc nL ret fr lo As FM rv FR := by
  refine Met.ofW (cc := cc) (maxL := nL) (ret := ret) hy rfl ?_
  intro p e s m args below meth c s₁ B hml hv
  obtain ⟨rfl, hP, hK⟩ := hv
  have hown : s.vm.findClass y.cls = some m.cls := findClass_of_methodNamed B.named
  have hlen := lg_sl_cat hc
  have hl := lv_entry As (n := nL) (by rw [hlen]; exact hn)
  rw [lg_entry_eq]
  refine body _ ⟨p, e, s, m, _, below, meth, c, B.exec, B.bytes, hml, hown, B.returns, B.notSynchronized, hK, rfl⟩ s.heap [] _ hP va_S.rf ?_
  refine ⟨?_, hl.1, hl.2.1, fun i v hi => ?_⟩
  · rw [hL0, List.length_append, List.length_map, List.length_replicate]
    omega
  · refine hl.2.2 (i, v) ?_
    rw [hL0] at hi
    by_cases h9 : i < As.length
    · rw [List.getElem?_append_left (by rw [List.length_map]; exact h9), List.getElem?_map, Option.map_eq_some_iff] at hi
      obtain ⟨v', h1, h2⟩ := hi
      cases h2
      have h3 := lv_args_cat hc 0 i v h1
      rwa [Nat.zero_add] at h3
    · rw [List.getElem?_append_right (by rw [List.length_map]; omega)] at hi
      have := List.eq_of_mem_replicate (List.mem_of_getElem? hi)
      cases this
end
section
section ROWS
variable {l : Launch} {w : Wd} {cc : ByteArray} {nL : Nat} {own : String} {R : Room} {ret : Option FieldType} {rv : Option Value} {FR : FMem} {V : FMem → Nat → List (Option Value) → List Value → Prop} {FM : FMem} {pc : Nat} {L : List (Option Value)} {st : List Value}
theorem r_iadd (hV : Pk l w cc nL own R ret rv FR V) {x y : Int32} (hd : decode cc pc = .ok (.iadd, 1)) (k : V FM (pc + 1) L (.int (x + y) :: st)) : V FM pc L (.int y :: .int x :: st) := by
  obtain ⟨p, e, s, m, args, below, meth, c, hx, hb, hml, hown, hr, hlk, hK, rfl⟩ := hV
  intro H locs ls hP hS hl
  exact lv_iadd hx hb hd (k H locs ls hP hS hl)
theorem r_isub (hV : Pk l w cc nL own R ret rv FR V) {x y : Int32} (hd : decode cc pc = .ok (.isub, 1)) (k : V FM (pc + 1) L (.int (x - y) :: st)) : V FM pc L (.int y :: .int x :: st) := by
  obtain ⟨p, e, s, m, args, below, meth, c, hx, hb, hml, hown, hr, hlk, hK, rfl⟩ := hV
  intro H locs ls hP hS hl
  exact lv_isub hx hb hd (k H locs ls hP hS hl)
theorem r_imul (hV : Pk l w cc nL own R ret rv FR V) {x y : Int32} (hd : decode cc pc = .ok (.imul, 1)) (k : V FM (pc + 1) L (.int (x * y) :: st)) : V FM pc L (.int y :: .int x :: st) := by
  obtain ⟨p, e, s, m, args, below, meth, c, hx, hb, hml, hown, hr, hlk, hK, rfl⟩ := hV
  intro H locs ls hP hS hl
  exact lv_imul hx hb hd (k H locs ls hP hS hl)
theorem r_iand (hV : Pk l w cc nL own R ret rv FR V) {x y : Int32} (hd : decode cc pc = .ok (.iand, 1)) (k : V FM (pc + 1) L (.int (x &&& y) :: st)) : V FM pc L (.int y :: .int x :: st) := by
  obtain ⟨p, e, s, m, args, below, meth, c, hx, hb, hml, hown, hr, hlk, hK, rfl⟩ := hV
  intro H locs ls hP hS hl
  exact lv_iand hx hb hd (k H locs ls hP hS hl)
theorem r_ior (hV : Pk l w cc nL own R ret rv FR V) {x y : Int32} (hd : decode cc pc = .ok (.ior, 1)) (k : V FM (pc + 1) L (.int (x ||| y) :: st)) : V FM pc L (.int y :: .int x :: st) := by
  obtain ⟨p, e, s, m, args, below, meth, c, hx, hb, hml, hown, hr, hlk, hK, rfl⟩ := hV
  intro H locs ls hP hS hl
  exact lv_ior hx hb hd (k H locs ls hP hS hl)
theorem r_ixor (hV : Pk l w cc nL own R ret rv FR V) {x y : Int32} (hd : decode cc pc = .ok (.ixor, 1)) (k : V FM (pc + 1) L (.int (x ^^^ y) :: st)) : V FM pc L (.int y :: .int x :: st) := by
  obtain ⟨p, e, s, m, args, below, meth, c, hx, hb, hml, hown, hr, hlk, hK, rfl⟩ := hV
  intro H locs ls hP hS hl
  exact lv_ixor hx hb hd (k H locs ls hP hS hl)
theorem r_ishl (hV : Pk l w cc nL own R ret rv FR V) {x y : Int32} (hd : decode cc pc = .ok (.ishl, 1)) (k : V FM (pc + 1) L (.int (x <<< (y &&& 31)) :: st)) : V FM pc L (.int y :: .int x :: st) := by
  obtain ⟨p, e, s, m, args, below, meth, c, hx, hb, hml, hown, hr, hlk, hK, rfl⟩ := hV
  intro H locs ls hP hS hl
  exact lv_ishl hx hb hd (k H locs ls hP hS hl)
theorem r_ishr (hV : Pk l w cc nL own R ret rv FR V) {x y : Int32} (hd : decode cc pc = .ok (.ishr, 1)) (k : V FM (pc + 1) L (.int (x >>> (y &&& 31)) :: st)) : V FM pc L (.int y :: .int x :: st) := by
  obtain ⟨p, e, s, m, args, below, meth, c, hx, hb, hml, hown, hr, hlk, hK, rfl⟩ := hV
  intro H locs ls hP hS hl
  exact lv_ishr hx hb hd (k H locs ls hP hS hl)
theorem r_idiv (hV : Pk l w cc nL own R ret rv FR V) {x y : Int32} (hd : decode cc pc = .ok (.idiv, 1)) (hne : ¬ y = 0) (k : V FM (pc + 1) L (.int (x / y) :: st)) : V FM pc L (.int y :: .int x :: st) := by
  obtain ⟨p, e, s, m, args, below, meth, c, hx, hb, hml, hown, hr, hlk, hK, rfl⟩ := hV
  intro H locs ls hP hS hl
  exact lv_idiv hx hb hd hne (k H locs ls hP hS hl)
theorem r_irem (hV : Pk l w cc nL own R ret rv FR V) {x y : Int32} (hd : decode cc pc = .ok (.irem, 1)) (hne : ¬ y = 0) (k : V FM (pc + 1) L (.int (x - x / y * y) :: st)) : V FM pc L (.int y :: .int x :: st) := by
  obtain ⟨p, e, s, m, args, below, meth, c, hx, hb, hml, hown, hr, hlk, hK, rfl⟩ := hV
  intro H locs ls hP hS hl
  exact lv_irem hx hb hd hne (k H locs ls hP hS hl)
theorem r_ladd (hV : Pk l w cc nL own R ret rv FR V) {x y : Int64} (hd : decode cc pc = .ok (.ladd, 1)) (k : V FM (pc + 1) L (.long (x + y) :: st)) : V FM pc L (.long y :: .long x :: st) := by
  obtain ⟨p, e, s, m, args, below, meth, c, hx, hb, hml, hown, hr, hlk, hK, rfl⟩ := hV
  intro H locs ls hP hS hl
  exact lv_ladd hx hb hd (k H locs ls hP hS hl)
theorem r_lmul (hV : Pk l w cc nL own R ret rv FR V) {x y : Int64} (hd : decode cc pc = .ok (.lmul, 1)) (k : V FM (pc + 1) L (.long (x * y) :: st)) : V FM pc L (.long y :: .long x :: st) := by
  obtain ⟨p, e, s, m, args, below, meth, c, hx, hb, hml, hown, hr, hlk, hK, rfl⟩ := hV
  intro H locs ls hP hS hl
  exact lv_lmul hx hb hd (k H locs ls hP hS hl)
theorem r_ldiv (hV : Pk l w cc nL own R ret rv FR V) {x y : Int64} (hd : decode cc pc = .ok (.ldiv, 1)) (hne : ¬ y = 0) (k : V FM (pc + 1) L (.long (x / y) :: st)) : V FM pc L (.long y :: .long x :: st) := by
  obtain ⟨p, e, s, m, args, below, meth, c, hx, hb, hml, hown, hr, hlk, hK, rfl⟩ := hV
  intro H locs ls hP hS hl
  exact lv_ldiv hx hb hd hne (k H locs ls hP hS hl)
theorem r_lrem (hV : Pk l w cc nL own R ret rv FR V) {x y : Int64} (hd : decode cc pc = .ok (.lrem, 1)) (hne : ¬ y = 0) (k : V FM (pc + 1) L (.long (x - x / y * y) :: st)) : V FM pc L (.long y :: .long x :: st) := by
  obtain ⟨p, e, s, m, args, below, meth, c, hx, hb, hml, hown, hr, hlk, hK, rfl⟩ := hV
  intro H locs ls hP hS hl
  exact lv_lrem hx hb hd hne (k H locs ls hP hS hl)
theorem r_iushr (hV : Pk l w cc nL own R ret rv FR V) {x y : Int32} (hd : decode cc pc = .ok (.iushr, 1)) (k : V FM (pc + 1) L (.int ((x.toUInt32 >>> (y.toUInt32 &&& Int32.toUInt32 31)).toInt32) :: st)) : V FM pc L (.int y :: .int x :: st) := by
  obtain ⟨p, e, s, m, args, below, meth, c, hx, hb, hml, hown, hr, hlk, hK, rfl⟩ := hV
  intro H locs ls hP hS hl
  exact lv_iushr hx hb hd rfl (k H locs ls hP hS hl)
theorem r_i2l (hV : Pk l w cc nL own R ret rv FR V) {x : Int32} (hd : decode cc pc = .ok (.i2l, 1)) (k : V FM (pc + 1) L (.long x.toInt64 :: st)) : V FM pc L (.int x :: st) := by
  obtain ⟨p, e, s, m, args, below, meth, c, hx, hb, hml, hown, hr, hlk, hK, rfl⟩ := hV
  intro H locs ls hP hS hl
  exact lv_i2l hx hb hd rfl (k H locs ls hP hS hl)
theorem r_l2i (hV : Pk l w cc nL own R ret rv FR V) {x : Int64} (hd : decode cc pc = .ok (.l2i, 1)) (k : V FM (pc + 1) L (.int x.toInt32 :: st)) : V FM pc L (.long x :: st) := by
  obtain ⟨p, e, s, m, args, below, meth, c, hx, hb, hml, hown, hr, hlk, hK, rfl⟩ := hV
  intro H locs ls hP hS hl
  exact lv_l2i hx hb hd rfl (k H locs ls hP hS hl)
theorem r_iconst (hV : Pk l w cc nL own R ret rv FR V) {n : Int} {v : Int32} (hd : decode cc pc = .ok (.iconst n, 1)) (hv : Int32.ofInt n = v) (k : V FM (pc + 1) L (.int v :: st)) : V FM pc L (st) := by
  obtain ⟨p, e, s, m, args, below, meth, c, hx, hb, hml, hown, hr, hlk, hK, rfl⟩ := hV
  intro H locs ls hP hS hl
  exact lv_iconst hx hb hd hv (k H locs ls hP hS hl)
theorem r_bipush (hV : Pk l w cc nL own R ret rv FR V) {n : Int} {v : Int32} (hd : decode cc pc = .ok (.bipush n, 2)) (hv : (Int8.ofInt n).toInt32 = v) (k : V FM (pc + 2) L (.int v :: st)) : V FM pc L (st) := by
  obtain ⟨p, e, s, m, args, below, meth, c, hx, hb, hml, hown, hr, hlk, hK, rfl⟩ := hV
  intro H locs ls hP hS hl
  exact lv_bipush hx hb hd hv (k H locs ls hP hS hl)
theorem r_sipush (hV : Pk l w cc nL own R ret rv FR V) {n : Int} {v : Int32} (hd : decode cc pc = .ok (.sipush n, 3)) (hv : (Int16.ofInt n).toInt32 = v) (k : V FM (pc + 3) L (.int v :: st)) : V FM pc L (st) := by
  obtain ⟨p, e, s, m, args, below, meth, c, hx, hb, hml, hown, hr, hlk, hK, rfl⟩ := hV
  intro H locs ls hP hS hl
  exact lv_sipush hx hb hd hv (k H locs ls hP hS hl)
theorem r_lconst (hV : Pk l w cc nL own R ret rv FR V) {n : Fin 2} {v : Int64} (hd : decode cc pc = .ok (.lconst n, 1)) (hv : Int64.ofNat (n : Nat) = v) (k : V FM (pc + 1) L (.long v :: st)) : V FM pc L (st) := by
  obtain ⟨p, e, s, m, args, below, meth, c, hx, hb, hml, hown, hr, hlk, hK, rfl⟩ := hV
  intro H locs ls hP hS hl
  exact lv_lconst hx hb hd hv (k H locs ls hP hS hl)
theorem r_null (hV : Pk l w cc nL own R ret rv FR V)  (hd : decode cc pc = .ok (.aconst_null, 1)) (k : V FM (pc + 1) L (.null :: st)) : V FM pc L (st) := by
  obtain ⟨p, e, s, m, args, below, meth, c, hx, hb, hml, hown, hr, hlk, hK, rfl⟩ := hV
  intro H locs ls hP hS hl
  exact lv_null hx hb hd (k H locs ls hP hS hl)
theorem r_ldc2 (hV : Pk l w cc nL own R ret rv FR V) {index : Nat} {v : Int64} (hc : inT (.constantLong own index v)) (hd : decode cc pc = .ok (.ldc2_w index, 3)) (k : V FM (pc + 3) L (.long v :: st)) : V FM pc L (st) := by
  obtain ⟨p, e, s, m, args, below, meth, c, hx, hb, hml, hown, hr, hlk, hK, rfl⟩ := hV
  intro H locs ls hP hS hl
  exact lv_ldc2 hx hb hown (hK.2 _ hc _) hd (k H locs ls hP hS hl)
theorem r_ldcw (hV : Pk l w cc nL own R ret rv FR V) {index : Nat} {v : Int32} (hc : inT (.constant own index v)) (hd : decode cc pc = .ok (.ldc_w index, 3)) (k : V FM (pc + 3) L (.int v :: st)) : V FM pc L (st) := by
  obtain ⟨p, e, s, m, args, below, meth, c, hx, hb, hml, hown, hr, hlk, hK, rfl⟩ := hV
  intro H locs ls hP hS hl
  exact lv_ldcw hx hb hown (hK.2 _ hc _) hd (k H locs ls hP hS hl)
theorem r_iload_n (hV : Pk l w cc nL own R ret rv FR V) {k0 : Fin 4} {x : Int32} (hd : decode cc pc = .ok (.iload_n k0, 1)) (hi : L[(k0 : Nat)]? = some (some (.int x))) (k : V FM (pc + 1) L (.int x :: st)) : V FM pc L (st) := by
  obtain ⟨p, e, s, m, args, below, meth, c, hx, hb, hml, hown, hr, hlk, hK, rfl⟩ := hV
  intro H locs ls hP hS hl
  exact lv_iload_n hx hb hd rfl (hl.at hi) (k H locs ls hP hS hl)
theorem r_iload (hV : Pk l w cc nL own R ret rv FR V) {i : Nat} {x : Int32} (hd : decode cc pc = .ok (.iload i, 2)) (hi : L[i]? = some (some (.int x))) (k : V FM (pc + 2) L (.int x :: st)) : V FM pc L (st) := by
  obtain ⟨p, e, s, m, args, below, meth, c, hx, hb, hml, hown, hr, hlk, hK, rfl⟩ := hV
  intro H locs ls hP hS hl
  exact lv_iload hx hb hd (hl.at hi) (k H locs ls hP hS hl)
theorem r_lload_n (hV : Pk l w cc nL own R ret rv FR V) {k0 : Fin 4} {x : Int64} (hd : decode cc pc = .ok (.lload_n k0, 1)) (hi : L[(k0 : Nat)]? = some (some (.long x))) (k : V FM (pc + 1) L (.long x :: st)) : V FM pc L (st) := by
  obtain ⟨p, e, s, m, args, below, meth, c, hx, hb, hml, hown, hr, hlk, hK, rfl⟩ := hV
  intro H locs ls hP hS hl
  exact lv_lload_n hx hb hd rfl (hl.at hi) (k H locs ls hP hS hl)
theorem r_lload (hV : Pk l w cc nL own R ret rv FR V) {i : Nat} {x : Int64} (hd : decode cc pc = .ok (.lload i, 2)) (hi : L[i]? = some (some (.long x))) (k : V FM (pc + 2) L (.long x :: st)) : V FM pc L (st) := by
  obtain ⟨p, e, s, m, args, below, meth, c, hx, hb, hml, hown, hr, hlk, hK, rfl⟩ := hV
  intro H locs ls hP hS hl
  exact lv_lload hx hb hd (hl.at hi) (k H locs ls hP hS hl)
theorem r_aload_n (hV : Pk l w cc nL own R ret rv FR V) {k0 : Fin 4} {x : Nat} (hd : decode cc pc = .ok (.aload_n k0, 1)) (hi : L[(k0 : Nat)]? = some (some (.ref x))) (k : V FM (pc + 1) L (.ref x :: st)) : V FM pc L (st) := by
  obtain ⟨p, e, s, m, args, below, meth, c, hx, hb, hml, hown, hr, hlk, hK, rfl⟩ := hV
  intro H locs ls hP hS hl
  exact lv_aload_n hx hb hd rfl (hl.at hi) (k H locs ls hP hS hl)
theorem r_aload (hV : Pk l w cc nL own R ret rv FR V) {i : Nat} {x : Nat} (hd : decode cc pc = .ok (.aload i, 2)) (hi : L[i]? = some (some (.ref x))) (k : V FM (pc + 2) L (.ref x :: st)) : V FM pc L (st) := by
  obtain ⟨p, e, s, m, args, below, meth, c, hx, hb, hml, hown, hr, hlk, hK, rfl⟩ := hV
  intro H locs ls hP hS hl
  exact lv_aload hx hb hd (hl.at hi) (k H locs ls hP hS hl)
theorem r_istore_n (hV : Pk l w cc nL own R ret rv FR V) {k0 : Fin 4} {x : Int32} (hd : decode cc pc = .ok (.istore_n k0, 1)) (hn : (k0 : Nat) < nL) (hc : chkL L k0 = true) (k : V FM (pc + 1) (L.set k0 (some (.int x))) (st)) : V FM pc L (.int x :: st) := by
  obtain ⟨p, e, s, m, args, below, meth, c, hx, hb, hml, hown, hr, hlk, hK, rfl⟩ := hV
  intro H locs ls hP hS hl
  exact lv_istore_n hx hb hd rfl hl.has hn rfl (fun ls2 h2 => k H locs ls2 hP hS (LH.st1 hl.1 hc h2))
theorem r_istore (hV : Pk l w cc nL own R ret rv FR V) {i : Nat} {x : Int32} (hd : decode cc pc = .ok (.istore i, 2)) (hn : i < nL) (hc : chkL L i = true) (k : V FM (pc + 2) (L.set i (some (.int x))) (st)) : V FM pc L (.int x :: st) := by
  obtain ⟨p, e, s, m, args, below, meth, c, hx, hb, hml, hown, hr, hlk, hK, rfl⟩ := hV
  intro H locs ls hP hS hl
  exact lv_istore hx hb hd hl.has hn rfl (fun ls2 h2 => k H locs ls2 hP hS (LH.st1 hl.1 hc h2))
theorem r_astore_n (hV : Pk l w cc nL own R ret rv FR V) {k0 : Fin 4} {x : Nat} (hd : decode cc pc = .ok (.astore_n k0, 1)) (hn : (k0 : Nat) < nL) (hc : chkL L k0 = true) (k : V FM (pc + 1) (L.set k0 (some (.ref x))) (st)) : V FM pc L (.ref x :: st) := by
  obtain ⟨p, e, s, m, args, below, meth, c, hx, hb, hml, hown, hr, hlk, hK, rfl⟩ := hV
  intro H locs ls hP hS hl
  exact lv_astore_n hx hb hd rfl hl.has hn rfl (fun ls2 h2 => k H locs ls2 hP hS (LH.st1 hl.1 hc h2))
theorem r_astore (hV : Pk l w cc nL own R ret rv FR V) {i : Nat} {x : Nat} (hd : decode cc pc = .ok (.astore i, 2)) (hn : i < nL) (hc : chkL L i = true) (k : V FM (pc + 2) (L.set i (some (.ref x))) (st)) : V FM pc L (.ref x :: st) := by
  obtain ⟨p, e, s, m, args, below, meth, c, hx, hb, hml, hown, hr, hlk, hK, rfl⟩ := hV
  intro H locs ls hP hS hl
  exact lv_astore hx hb hd hl.has hn rfl (fun ls2 h2 => k H locs ls2 hP hS (LH.st1 hl.1 hc h2))
theorem r_lstore_n (hV : Pk l w cc nL own R ret rv FR V) {k0 : Fin 4} {x : Int64} (hd : decode cc pc = .ok (.lstore_n k0, 1)) (hn : (k0 : Nat) + 1 < nL) (hc : chkL L k0 = true) (k : V FM (pc + 1) ((L.set k0 (some (.long x))).set (k0 + 1) none) (st)) : V FM pc L (.long x :: st) := by
  obtain ⟨p, e, s, m, args, below, meth, c, hx, hb, hml, hown, hr, hlk, hK, rfl⟩ := hV
  intro H locs ls hP hS hl
  exact lv_lstore_n hx hb hd rfl hl.has hn rfl (fun ls2 h2 => k H locs ls2 hP hS (LH.st2 hl.1 hc h2))
theorem r_lstore (hV : Pk l w cc nL own R ret rv FR V) {i : Nat} {x : Int64} (hd : decode cc pc = .ok (.lstore i, 2)) (hn : i + 1 < nL) (hc : chkL L i = true) (k : V FM (pc + 2) ((L.set i (some (.long x))).set (i + 1) none) (st)) : V FM pc L (.long x :: st) := by
  obtain ⟨p, e, s, m, args, below, meth, c, hx, hb, hml, hown, hr, hlk, hK, rfl⟩ := hV
  intro H locs ls hP hS hl
  exact lv_lstore hx hb hd hl.has hn rfl (fun ls2 h2 => k H locs ls2 hP hS (LH.st2 hl.1 hc h2))
theorem r_iinc (hV : Pk l w cc nL own R ret rv FR V) {i : Nat} {n : Int} {x v : Int32} (hd : decode cc pc = .ok (.iinc i n, 3)) (hi : L[i]? = some (some (.int x))) (hv : Int32.ofInt n = v) (hc : chkL L i = true) (k : V FM (pc + 3) (L.set i (some (.int (x + v)))) st) : V FM pc L st := by
  obtain ⟨p, e, s, m, args, below, meth, c, hx, hb, hml, hown, hr, hlk, hK, rfl⟩ := hV
  intro H locs ls hP hS hl
  obtain ⟨j, hj⟩ := List.getElem?_of_mem (lvL_mem.mpr hi)
  have hn : i < nL := by rw [← hl.1]; exact (List.getElem?_eq_some_iff.mp hi).1
  exact lv_iinc hx hb hd hl.has hj (by rw [hv]) hn rfl (fun ls2 h2 => k H locs ls2 hP hS (LH.st1 hl.1 hc h2))
theorem r_dup (hV : Pk l w cc nL own R ret rv FR V) {va : Value} (hd : decode cc pc = .ok (.dup, 1)) (h1 : va.category = 1) (k : V FM (pc + 1) L (va :: va :: st)) : V FM pc L (va :: st) := by
  obtain ⟨p, e, s, m, args, below, meth, c, hx, hb, hml, hown, hr, hlk, hK, rfl⟩ := hV
  intro H locs ls hP hS hl
  exact lv_dup hx hb hd h1 (k H locs ls hP hS hl)
theorem r_pop (hV : Pk l w cc nL own R ret rv FR V) {va : Value} (hd : decode cc pc = .ok (.pop, 1)) (h1 : va.category = 1) (k : V FM (pc + 1) L (st)) : V FM pc L (va :: st) := by
  obtain ⟨p, e, s, m, args, below, meth, c, hx, hb, hml, hown, hr, hlk, hK, rfl⟩ := hV
  intro H locs ls hP hS hl
  exact lv_pop hx hb hd h1 (k H locs ls hP hS hl)
theorem r_dup_x1 (hV : Pk l w cc nL own R ret rv FR V) {va vb : Value} (hd : decode cc pc = .ok (.dup_x1, 1)) (h1 : va.category = 1) (h2 : vb.category = 1) (k : V FM (pc + 1) L (va :: vb :: va :: st)) : V FM pc L (va :: vb :: st) := by
  obtain ⟨p, e, s, m, args, below, meth, c, hx, hb, hml, hown, hr, hlk, hK, rfl⟩ := hV
  intro H locs ls hP hS hl
  exact lv_dup_x1 hx hb hd h1 h2 (k H locs ls hP hS hl)
theorem r_dup2 (hV : Pk l w cc nL own R ret rv FR V) {va vb : Value} (hd : decode cc pc = .ok (.dup2, 1)) (h1 : va.category = 1) (h2 : vb.category = 1) (k : V FM (pc + 1) L (va :: vb :: va :: vb :: st)) : V FM pc L (va :: vb :: st) := by
  obtain ⟨p, e, s, m, args, below, meth, c, hx, hb, hml, hown, hr, hlk, hK, rfl⟩ := hV
  intro H locs ls hP hS hl
  exact lv_dup2_11 hx hb hd h1 h2 (k H locs ls hP hS hl)
theorem r_ifeq (hV : Pk l w cc nL own R ret rv FR V) {x : Int32} {off : Int} (tgt : Nat) (hd : decode cc pc = .ok (.ifCond .eq off, 3)) (ht : (pc : Int) + off = (tgt : Int)) (kt : x = 0 → V FM tgt L st) (kf : ¬ x = 0 → V FM (pc + 3) L st) : V FM pc L (.int x :: st) := by
  obtain ⟨p, e, s, m, args, below, meth, c, hx, hb, hml, hown, hr, hlk, hK, rfl⟩ := hV
  intro H locs ls hP hS hl
  exact lv_if_eq hx hb hd ht (fun h => kt h H locs ls hP hS hl) (fun h => kf h H locs ls hP hS hl)
theorem r_iflt (hV : Pk l w cc nL own R ret rv FR V) {x : Int32} {off : Int} (tgt : Nat) (hd : decode cc pc = .ok (.ifCond .lt off, 3)) (ht : (pc : Int) + off = (tgt : Int)) (kt : x < 0 → V FM tgt L st) (kf : ¬ x < 0 → V FM (pc + 3) L st) : V FM pc L (.int x :: st) := by
  obtain ⟨p, e, s, m, args, below, meth, c, hx, hb, hml, hown, hr, hlk, hK, rfl⟩ := hV
  intro H locs ls hP hS hl
  exact lv_if_lt hx hb hd ht (fun h => kt h H locs ls hP hS hl) (fun h => kf h H locs ls hP hS hl)
theorem r_ifge (hV : Pk l w cc nL own R ret rv FR V) {x : Int32} {off : Int} (tgt : Nat) (hd : decode cc pc = .ok (.ifCond .ge off, 3)) (ht : (pc : Int) + off = (tgt : Int)) (kt : 0 ≤ x → V FM tgt L st) (kf : ¬ 0 ≤ x → V FM (pc + 3) L st) : V FM pc L (.int x :: st) := by
  obtain ⟨p, e, s, m, args, below, meth, c, hx, hb, hml, hown, hr, hlk, hK, rfl⟩ := hV
  intro H locs ls hP hS hl
  exact lv_if_ge hx hb hd ht (fun h => kt h H locs ls hP hS hl) (fun h => kf h H locs ls hP hS hl)
theorem r_ifgt (hV : Pk l w cc nL own R ret rv FR V) {x : Int32} {off : Int} (tgt : Nat) (hd : decode cc pc = .ok (.ifCond .gt off, 3)) (ht : (pc : Int) + off = (tgt : Int)) (kt : 0 < x → V FM tgt L st) (kf : ¬ 0 < x → V FM (pc + 3) L st) : V FM pc L (.int x :: st) := by
  obtain ⟨p, e, s, m, args, below, meth, c, hx, hb, hml, hown, hr, hlk, hK, rfl⟩ := hV
  intro H locs ls hP hS hl
  exact lv_if_gt hx hb hd ht (fun h => kt h H locs ls hP hS hl) (fun h => kf h H locs ls hP hS hl)
theorem r_ifle (hV : Pk l w cc nL own R ret rv FR V) {x : Int32} {off : Int} (tgt : Nat) (hd : decode cc pc = .ok (.ifCond .le off, 3)) (ht : (pc : Int) + off = (tgt : Int)) (kt : x ≤ 0 → V FM tgt L st) (kf : ¬ x ≤ 0 → V FM (pc + 3) L st) : V FM pc L (.int x :: st) := by
  obtain ⟨p, e, s, m, args, below, meth, c, hx, hb, hml, hown, hr, hlk, hK, rfl⟩ := hV
  intro H locs ls hP hS hl
  exact lv_if_le hx hb hd ht (fun h => kt h H locs ls hP hS hl) (fun h => kf h H locs ls hP hS hl)
theorem r_ifne (hV : Pk l w cc nL own R ret rv FR V) {x : Int32} {off : Int} (tgt : Nat) (hd : decode cc pc = .ok (.ifCond .ne off, 3)) (ht : (pc : Int) + off = (tgt : Int)) (kt : ¬ x = 0 → V FM tgt L st) (kf : x = 0 → V FM (pc + 3) L st) : V FM pc L (.int x :: st) := by
  obtain ⟨p, e, s, m, args, below, meth, c, hx, hb, hml, hown, hr, hlk, hK, rfl⟩ := hV
  intro H locs ls hP hS hl
  exact lv_if_ne hx hb hd ht (fun h => kt h H locs ls hP hS hl) (fun h => kf h H locs ls hP hS hl)
theorem r_icmpeq (hV : Pk l w cc nL own R ret rv FR V) {x y : Int32} {off : Int} (tgt : Nat) (hd : decode cc pc = .ok (.if_icmp .eq off, 3)) (ht : (pc : Int) + off = (tgt : Int)) (kt : x = y → V FM tgt L st) (kf : ¬ x = y → V FM (pc + 3) L st) : V FM pc L (.int y :: .int x :: st) := by
  obtain ⟨p, e, s, m, args, below, meth, c, hx, hb, hml, hown, hr, hlk, hK, rfl⟩ := hV
  intro H locs ls hP hS hl
  exact lv_icmp_eq hx hb hd ht (fun h => kt h H locs ls hP hS hl) (fun h => kf h H locs ls hP hS hl)
theorem r_icmplt (hV : Pk l w cc nL own R ret rv FR V) {x y : Int32} {off : Int} (tgt : Nat) (hd : decode cc pc = .ok (.if_icmp .lt off, 3)) (ht : (pc : Int) + off = (tgt : Int)) (kt : x < y → V FM tgt L st) (kf : ¬ x < y → V FM (pc + 3) L st) : V FM pc L (.int y :: .int x :: st) := by
  obtain ⟨p, e, s, m, args, below, meth, c, hx, hb, hml, hown, hr, hlk, hK, rfl⟩ := hV
  intro H locs ls hP hS hl
  exact lv_icmp_lt hx hb hd ht (fun h => kt h H locs ls hP hS hl) (fun h => kf h H locs ls hP hS hl)
theorem r_icmpge (hV : Pk l w cc nL own R ret rv FR V) {x y : Int32} {off : Int} (tgt : Nat) (hd : decode cc pc = .ok (.if_icmp .ge off, 3)) (ht : (pc : Int) + off = (tgt : Int)) (kt : y ≤ x → V FM tgt L st) (kf : ¬ y ≤ x → V FM (pc + 3) L st) : V FM pc L (.int y :: .int x :: st) := by
  obtain ⟨p, e, s, m, args, below, meth, c, hx, hb, hml, hown, hr, hlk, hK, rfl⟩ := hV
  intro H locs ls hP hS hl
  exact lv_icmp_ge hx hb hd ht (fun h => kt h H locs ls hP hS hl) (fun h => kf h H locs ls hP hS hl)
theorem r_icmpgt (hV : Pk l w cc nL own R ret rv FR V) {x y : Int32} {off : Int} (tgt : Nat) (hd : decode cc pc = .ok (.if_icmp .gt off, 3)) (ht : (pc : Int) + off = (tgt : Int)) (kt : y < x → V FM tgt L st) (kf : ¬ y < x → V FM (pc + 3) L st) : V FM pc L (.int y :: .int x :: st) := by
  obtain ⟨p, e, s, m, args, below, meth, c, hx, hb, hml, hown, hr, hlk, hK, rfl⟩ := hV
  intro H locs ls hP hS hl
  exact lv_icmp_gt hx hb hd ht (fun h => kt h H locs ls hP hS hl) (fun h => kf h H locs ls hP hS hl)
theorem r_icmple (hV : Pk l w cc nL own R ret rv FR V) {x y : Int32} {off : Int} (tgt : Nat) (hd : decode cc pc = .ok (.if_icmp .le off, 3)) (ht : (pc : Int) + off = (tgt : Int)) (kt : x ≤ y → V FM tgt L st) (kf : ¬ x ≤ y → V FM (pc + 3) L st) : V FM pc L (.int y :: .int x :: st) := by
  obtain ⟨p, e, s, m, args, below, meth, c, hx, hb, hml, hown, hr, hlk, hK, rfl⟩ := hV
  intro H locs ls hP hS hl
  exact lv_icmp_le hx hb hd ht (fun h => kt h H locs ls hP hS hl) (fun h => kf h H locs ls hP hS hl)
theorem r_icmpne (hV : Pk l w cc nL own R ret rv FR V) {x y : Int32} {off : Int} (tgt : Nat) (hd : decode cc pc = .ok (.if_icmp .ne off, 3)) (ht : (pc : Int) + off = (tgt : Int)) (kt : ¬ x = y → V FM tgt L st) (kf : x = y → V FM (pc + 3) L st) : V FM pc L (.int y :: .int x :: st) := by
  obtain ⟨p, e, s, m, args, below, meth, c, hx, hb, hml, hown, hr, hlk, hK, rfl⟩ := hV
  intro H locs ls hP hS hl
  exact lv_icmp_ne hx hb hd ht (fun h => kt h H locs ls hP hS hl) (fun h => kf h H locs ls hP hS hl)
theorem r_goto (hV : Pk l w cc nL own R ret rv FR V) {off : Int} (tgt : Nat) (hd : decode cc pc = .ok (.goto off, 3)) (ht : (pc : Int) + off = (tgt : Int)) (k : V FM tgt L st) : V FM pc L st := by
  obtain ⟨p, e, s, m, args, below, meth, c, hx, hb, hml, hown, hr, hlk, hK, rfl⟩ := hV
  intro H locs ls hP hS hl
  exact lv_goto hx hb hd ht (k H locs ls hP hS hl)
theorem r_ifnull (hV : Pk l w cc nL own R ret rv FR V) {a : Nat} {off : Int} (hd : decode cc pc = .ok (.ifnull off, 3)) (k : V FM (pc + 3) L st) : V FM pc L (.ref a :: st) := by
  obtain ⟨p, e, s, m, args, below, meth, c, hx, hb, hml, hown, hr, hlk, hK, rfl⟩ := hV
  intro H locs ls hP hS hl
  exact lv_ifnull hx hb hd (k H locs ls hP hS hl)
theorem r_ifnullN (hV : Pk l w cc nL own R ret rv FR V) {off : Int} (tgt : Nat) (hd : decode cc pc = .ok (.ifnull off, 3)) (ht : (pc : Int) + off = (tgt : Int)) (k : V FM tgt L st) : V FM pc L (.null :: st) := by
  obtain ⟨p, e, s, m, args, below, meth, c, hx, hb, hml, hown, hr, hlk, hK, rfl⟩ := hV
  intro H locs ls hP hS hl
  exact lv_ifnullN hx hb hd ht (k H locs ls hP hS hl)
theorem r_ifnonnull (hV : Pk l w cc nL own R ret rv FR V) {a : Nat} {off : Int} (tgt : Nat) (hd : decode cc pc = .ok (.ifnonnull off, 3)) (ht : (pc : Int) + off = (tgt : Int)) (k : V FM tgt L st) : V FM pc L (.ref a :: st) := by
  obtain ⟨p, e, s, m, args, below, meth, c, hx, hb, hml, hown, hr, hlk, hK, rfl⟩ := hV
  intro H locs ls hP hS hl
  exact lv_ifnonnull hx hb hd ht (k H locs ls hP hS hl)
theorem r_ifnonnullN (hV : Pk l w cc nL own R ret rv FR V) {off : Int} (hd : decode cc pc = .ok (.ifnonnull off, 3)) (k : V FM (pc + 3) L st) : V FM pc L (.null :: st) := by
  obtain ⟨p, e, s, m, args, below, meth, c, hx, hb, hml, hown, hr, hlk, hK, rfl⟩ := hV
  intro H locs ls hP hS hl
  exact lv_ifnonnullN hx hb hd (k H locs ls hP hS hl)
theorem r_tabIn (hV : Pk l w cc nL own R ret rv FR V) {dflt lo hi : Int} {offs : Array Int} {len : Nat} {x : Int32} {off : Int} (tgt : Nat) (hd : decode cc pc = .ok (.tableswitch dflt lo hi offs, len)) (h1 : ¬ x.toInt < lo) (h2 : ¬ hi < x.toInt) (ho : offs[(x.toInt - lo).toNat]? = some off) (ht : (pc : Int) + off = (tgt : Int)) (k : V FM tgt L st) : V FM pc L (.int x :: st) := by
  obtain ⟨p, e, s, m, args, below, meth, c, hx, hb, hml, hown, hr, hlk, hK, rfl⟩ := hV
  intro H locs ls hP hS hl
  exact lv_tableIn hx hb hd h1 h2 ho ht (k H locs ls hP hS hl)
theorem r_tabOut (hV : Pk l w cc nL own R ret rv FR V) {dflt lo hi : Int} {offs : Array Int} {len : Nat} {x : Int32} (tgt : Nat) (hd : decode cc pc = .ok (.tableswitch dflt lo hi offs, len)) (h : x.toInt < lo ∨ hi < x.toInt) (ht : (pc : Int) + dflt = (tgt : Int)) (k : V FM tgt L st) : V FM pc L (.int x :: st) := by
  obtain ⟨p, e, s, m, args, below, meth, c, hx, hb, hml, hown, hr, hlk, hK, rfl⟩ := hV
  intro H locs ls hP hS hl
  exact lv_tableOut hx hb hd h ht (k H locs ls hP hS hl)
theorem r_look (hV : Pk l w cc nL own R ret rv FR V) {dflt : Int} {ps : Array (Int × Int)} {len : Nat} {x : Int32} {off : Int} (tgt : Nat) (hd : decode cc pc = .ok (.lookupswitch dflt ps, len)) (hp : (ps.toList.zip (ps.toList.drop 1)).all (fun (a, next) => a.1 < next.1) = true) (ho : Op.lookupswitch.offset ps.toList dflt x.toInt = off) (ht : (pc : Int) + off = (tgt : Int)) (k : V FM tgt L st) : V FM pc L (.int x :: st) := by
  obtain ⟨p, e, s, m, args, below, meth, c, hx, hb, hml, hown, hr, hlk, hK, rfl⟩ := hV
  intro H locs ls hP hS hl
  exact lv_lookup hx hb hd hp ho ht (k H locs ls hP hS hl)
/-- a field's link: which class of the world, which slot -/
def FLk (lk : String → String → String → Prop) (ci kf : Nat) (fin : Bool) (ty : FieldType) : Prop := ∃ (C : String) (T : u_T) (N : Nat) (ty0 : Nat → FieldType), vwCl[ci]? = some (C, T, N) ∧ kf < N ∧ (∀ x ∈ u_ws C T N, inT x) ∧ (∀ k, k < N → parseFieldDescriptor (T k).2.2.1 = some (ty0 k)) ∧ (∀ a, a < N → ∀ b, b < N → a ≠ b → (T a).2.1 ≠ (T b).2.1) ∧ lk (T kf).1 (T kf).2.1 (T kf).2.2.1 ∧ (T kf).2.2.2 = fin ∧ parseFieldDescriptor (T kf).2.2.1 = some ty
def FL (own : String) (index ci kf : Nat) (fin : Bool) (ty : FieldType) : Prop := FLk (fun a b d => inT (.fieldLink own index a b d) ∨ ∃ h, inT (.fieldLinkNest own index a b d h)) ci kf fin ty
theorem r_get (hV : Pk l w cc nL own R ret rv FR V) {index ci kf i : Nat} {fin : Bool} {ty : FieldType} {fs : List Value} {v : Value} (hf : FL own index ci kf fin ty) (hi : i < wN w) (hm : wM w i (FM i) = .inr (ci, fs)) (hv : fs[kf]? = some v) (hd : decode cc pc = .ok (.getfield index, 3)) (k : V FM (pc + 3) L (v :: st)) : V FM pc L (.ref (wB w + i) :: st) := by
  obtain ⟨p, e, s, m, args, below, meth, c, hx, hb, hml, hown, hr, hlk, hK, rfl⟩ := hV
  intro H locs ls hP hS hl
  obtain ⟨C, T, N, ty0, h1, h2, h3, h4, h5, h6, h7, h8⟩ := hf
  have he : (wl w FM)[i]? = some (wB w + i, .inr (ci, fs)) := by rw [wl_get hi, hm]
  rcases h6 with h6 | ⟨host, h6⟩
  · exact va_get (Ts := u_ws C T N) hx hb (fun x hx => hK.2 x (h3 x hx) _) (fun _ h => h) hown hK.1 hP i he h1 kf h2 (hK.2 _ h6 _) (fun _ h => h) hv hd (k H locs ls hP hS hl)
  · exact va_getN (Ts := u_ws C T N) hx hb (fun x hx => hK.2 x (h3 x hx) _) (fun _ h => h) hown hK.1 hP i he h1 kf h2 (hK.2 _ h6 _) (fun _ h => h) hv hd (k H locs ls hP hS hl)
theorem r_put (hV : Pk l w cc nL own R ret rv FR V) {index ci kf i : Nat} {ty : FieldType} {fs : List Value} {v : Value} (row : Nat → Int32) (hf : FL own index ci kf false ty) (hi : i < wN w) (hm : wM w i (FM i) = .inr (ci, fs)) (hm2 : wM w i row = .inr (ci, fs.set kf v)) (hn : narrow ty v = v) (hfit : fits ty v = true) (hlen : kf < fs.length) (hd : decode cc pc = .ok (.putfield index, 3)) (k : V (rset FM i row) (pc + 3) L st) : V FM pc L (v :: .ref (wB w + i) :: st) := by
  obtain ⟨p, e, s, m, args, below, meth, c, hx, hb, hml, hown, hr, hlk, hK, rfl⟩ := hV
  intro H locs ls hP hS hl
  obtain ⟨C, T, N, ty0, h1, h2, h3, h4, h5, h6, h7, h8⟩ := hf
  have he : (wl w FM)[i]? = some (wB w + i, .inr (ci, fs)) := by rw [wl_get hi, hm]
  have kk : ∀ (H1 : Heap) (locs1 : List Loc), va_P (wD w) vwCl ((wl w FM).set i (wB w + i, .inr (ci, fs.set kf v))) H1 → va_D (Rg w) ((wl w FM).set i (wB w + i, .inr (ci, fs.set kf v))) → va_S (Rg w) s.heap H1 locs1 → W p l e R s m args below meth c H1 locs1 0 0 (MQ below (Qx w rv FR) args s 0 0 (Rg w)) (F0 m (pc + 3) ls st) := by
    intro H1 locs1 g1 _ g3
    rw [← hm2, wl_set] at g1
    exact k H1 locs1 ls g1 g3 hl
  rcases h6 with h6 | ⟨host, h6⟩
  · exact va_put (Ts := u_ws C T N) hx hb (fun x hx => hK.2 x (h3 x hx) _) (fun _ h => h) ty0 h4 h5 hown hK.1 hP wl_D hS i he h1 kf h2 (hK.2 _ h6 _) (fun _ h => h) h7 h8 hn hfit hlen hd kk
  · exact va_putN (Ts := u_ws C T N) hx hb (fun x hx => hK.2 x (h3 x hx) _) (fun _ h => h) ty0 h4 h5 hown hK.1 hP wl_D hS i he h1 kf h2 (hK.2 _ h6 _) (fun _ h => h) h7 h8 hn hfit hlen hd kk
theorem r_iald (hV : Pk l w cc nL own R ret rv FR V) {i n : Nat} {cA : ClassId} {x : Int32} (hi : i < wN w) (hm : wM w i (FM i) = .inl (cA, n, .inl (FM i))) (ht : (wT w)[0]? = some (cA, .int)) (hin : vp_in x n) (hd : decode cc pc = .ok (.iaload, 1)) (k : V FM (pc + 1) L (.int (FM i x.toNatClampNeg) :: st)) : V FM pc L (.int x :: .ref (wB w + i) :: st) := by
  obtain ⟨p, e, s, m, args, below, meth, c, hx, hb, hml, hown, hr, hlk, hK, rfl⟩ := hV
  intro H locs ls hP hS hl
  exact va_iald hx hb hK.1 hP i 0 (by rw [wl_get hi, hm]) ht hin hd (k H locs ls hP hS hl)
theorem r_iast (hV : Pk l w cc nL own R ret rv FR V) {i n : Nat} {cA : ClassId} {x v : Int32} (hi : i < wN w) (hm : ∀ row, wM w i row = .inl (cA, n, .inl row)) (ht : (wT w)[0]? = some (cA, .int)) (hin : vp_in x n) (hd : decode cc pc = .ok (.iastore, 1)) (k : V (rset FM i (upd (FM i) x.toNatClampNeg v)) (pc + 1) L st) : V FM pc L (.int v :: .int x :: .ref (wB w + i) :: st) := by
  obtain ⟨p, e, s, m, args, below, meth, c, hx, hb, hml, hown, hr, hlk, hK, rfl⟩ := hV
  intro H locs ls hP hS hl
  refine va_iast hx hb hK.1 hP wl_D hS i 0 (by rw [wl_get hi, hm]) ht hin hd (fun H1 locs1 g1 _ g3 => ?_)
  rw [← hm, wl_set] at g1
  exact k H1 locs1 ls g1 g3 hl
theorem r_alen (hV : Pk l w cc nL own R ret rv FR V) {i : Nat} {cA : ClassId} {x : vp_A} {ty : FieldType} (t0 : Nat) {v : Int32} (hi : i < wN w) (hm : wM w i (FM i) = .inl (cA, x)) (ht : (wT w)[t0]? = some (cA, ty)) (hv : Int32.ofNat x.1 = v) (hd : decode cc pc = .ok (.arraylength, 1)) (k : V FM (pc + 1) L (.int v :: st)) : V FM pc L (.ref (wB w + i) :: st) := by
  obtain ⟨p, e, s, m, args, below, meth, c, hx, hb, hml, hown, hr, hlk, hK, rfl⟩ := hV
  intro H locs ls hP hS hl
  exact va_alen hx hb hK.1 hP i t0 (by rw [wl_get hi, hm]) ht hv hd (k H locs ls hP hS hl)
theorem r_aald (hV : Pk l w cc nL own R ret rv FR V) {i n : Nat} {cA : ClassId} {C : String} {f : Nat → Option Nat} (t0 : Nat) {x : Int32} (hi : i < wN w) (hm : wM w i (FM i) = .inl (cA, n, .inr (.inr (.inr (.inr f))))) (ht : (wT w)[t0]? = some (cA, .object C)) (hin : vp_in x n) (hd : decode cc pc = .ok (.aaload, 1)) (k : V FM (pc + 1) L (va_rf (f x.toNatClampNeg) :: st)) : V FM pc L (.int x :: .ref (wB w + i) :: st) := by
  obtain ⟨p, e, s, m, args, below, meth, c, hx, hb, hml, hown, hr, hlk, hK, rfl⟩ := hV
  intro H locs ls hP hS hl
  exact va_aldq hx hb hK.1 hP i t0 (by rw [wl_get hi, hm]) ht hin hd (k H locs ls hP hS hl)
theorem r_iret (hV : Pk l w cc nL own R ret rv FR V) {x : Int32} (hret : ret = some .int) (hd : decode cc pc = .ok (.ireturn, 1)) (h1 : rv = some (.int x)) (h2 : FR = FM) : V FM pc L [.int x] := by
  obtain ⟨p, e, s, m, args, below, meth, c, hx, hb, hml, hown, hr, hlk, hK, rfl⟩ := hV
  intro H locs ls hP hS hl
  subst h1; subst h2; subst hret
  exact W.iret hx hb hr (fun t ht hW => ⟨rfl, by rw [ht]; exact hP, hS.F ht⟩) hS.2.2 hd
theorem r_zret (hV : Pk l w cc nL own R ret rv FR V) {x : Int32} (hret : ret = some .boolean) (hbo : x = 0 ∨ x = 1) (hd : decode cc pc = .ok (.ireturn, 1)) (h1 : rv = some (.int x)) (h2 : FR = FM) : V FM pc L [.int x] := by
  obtain ⟨p, e, s, m, args, below, meth, c, hx, hb, hml, hown, hr, hlk, hK, rfl⟩ := hV
  intro H locs ls hP hS hl
  subst h1; subst h2; subst hret
  exact W.zret hx hb hr (by rcases hbo with rfl | rfl <;> rfl) (fun t ht hW => ⟨rfl, by rw [ht]; exact hP, hS.F ht⟩) hS.2.2 hd
theorem r_vret (hV : Pk l w cc nL own R ret rv FR V) (hret : ret = none) (hd : decode cc pc = .ok (.return_, 1)) (h1 : rv = none) (h2 : FR = FM) : V FM pc L [] := by
  obtain ⟨p, e, s, m, args, below, meth, c, hx, hb, hml, hown, hr, hlk, hK, rfl⟩ := hV
  intro H locs ls hP hS hl
  subst h1; subst h2; subst hret
  exact W.vret hx hb hr (fun t ht hW => ⟨rfl, by rw [ht]; exact hP, hS.F ht⟩) hS.2.2 hd
theorem r_aret (hV : Pk l w cc nL own R ret rv FR V) {v : Value} {C : String} (hret : ret = some (.object C)) (hv : v = .null ∨ ∃ a, v = .ref a) (hd : decode cc pc = .ok (.areturn, 1)) (h1 : rv = some v) (h2 : FR = FM) : V FM pc L [v] := by
  obtain ⟨p, e, s, m, args, below, meth, c, hx, hb, hml, hown, hr, hlk, hK, rfl⟩ := hV
  intro H locs ls hP hS hl
  subst h1; subst h2; subst hret
  exact W.aret hx hb hr (Or.inl ⟨_, rfl⟩) hv (fun t ht hW => ⟨rfl, by rw [ht]; exact hP, hS.F ht⟩) hS.2.2 hd
def MLb (y : MethodName) (bytes : ByteArray) (maxL : Nat) (rt : Option FieldType) (n : Nat) : Prop := inT (.code y bytes maxL rt) ∧ goodWord (.code y bytes maxL rt) = true ∧ inT (.initialized y.cls) ∧ y.cls ≠ "java/lang/invoke/MethodHandle" ∧ y.cls ≠ "java/lang/invoke/VarHandle" ∧ (parseMethodDescriptor y.desc).map (fun d => d.parameters.length) = some n
def MLl (own : String) (index : Nat) (y : MethodName) : Prop := inT (.methodLink own index y) ∨ ∃ h, inT (.methodLinkNest own index y h)
def MLV (own : String) (index : Nat) (y : MethodName) (bytes : ByteArray) (maxL : Nat) (rt : Option FieldType) (n : Nat) : Prop := MLb y bytes maxL rt n ∧ MLl own index y ∧ inT (.instanceMethod y) ∧ inT (.selects y.cls y y)
def MLS (own : String) (index : Nat) (y : MethodName) (bytes : ByteArray) (maxL : Nat) (rt : Option FieldType) (n : Nat) : Prop := MLb y bytes maxL rt n ∧ MLl own index y ∧ inT (.static y)
end ROWS
/-- behind a call: the memory that the callee leaves, its answer on the stack -/
theorem Wm.call {p : Program} {l : Launch} {e : Env} {R : Room} {s : State} {m : MethodId} {args : Array Value} {below : List Frame} {meth : Method} {c : Code} {H : Heap} {locs : List Loc} {Q : State → Prop} {w : Wd} {pc : Nat} {ls : Array Slot} {rest st0 : List Value} {a : Array Value} {rv1 : Option Value} {F1 : FMem}
    (hr : va_Run p l e R s m args below meth c H locs 0 0 0 0 (F0 m pc ls st0) rest (Qx w rv1 F1 a) (Rg w)) (hS : va_S (Rg w) s.heap H locs)
    (kk : ∀ (H1 : Heap) (locs1 : List Loc), va_P (wD w) vwCl (wl w F1) H1 → va_S (Rg w) s.heap H1 locs1 → W p l e R s m args below meth c H1 locs1 0 0 Q (F0 m (pc + 3) ls (rv1.toList ++ rest))) : W p l e R s m args below meth c H locs 0 0 Q (F0 m pc ls st0) := by
  intro T hT X
  obtain ⟨v, st₀, t, T', L, h0, X', hL, e1, e2, ⟨hv, hp, hz, hk⟩, st⟩ := hr T hT X
  cases hv
  rw [h0] at hz hk
  obtain ⟨t2, a1, b1⟩ := kk T'.heap (locs ++ L) (by rw [e1]; exact hp)
    ⟨Nat.le_trans hS.1 (by rw [e1]; exact hz), fun q h1 h2 => by rw [e1, hk q (Nat.lt_of_lt_of_le h1 hS.1) h2]; exact hS.2.1 q h1 h2, fun q hq => by
      rcases List.mem_append.mp hq with h | h
      · exact hS.2.2 q h
      · exact hL q h⟩ T' rfl X'
  exact ⟨t2, st t2 a1, b1⟩
theorem cb_of {R : Room} {s : State} {args : Array Value} {own : String} {index : Nat} {y : MethodName} {bytes : ByteArray} {maxL : Nat} {rt : Option FieldType} {n fr lo : Nat} {w : Wd} (hK : KU w s) (hb : MLb y bytes maxL rt n) (hl : inT (.methodLink own index y)) (hR : fr + 1 ≤ R.frames ∧ 8 + (maxL + 11) + lo ≤ R.locals) : CallB R s args own index y bytes maxL rt [.code y bytes maxL rt] (rmOf fr lo) 0 0 n := by
  obtain ⟨h1, h2, h3, h4, h5, h6⟩ := hb
  refine ⟨rfl, rfl, hR.1, hR.2, fun x hx a' U hW => ?_, List.mem_cons_self, hK.2 _ h1 _, hK.2 _ h3 _, ⟨h4, h5⟩, fun sig h => ?_, hK.2 _ hl _⟩
  · rw [List.mem_singleton.mp hx]
    exact (hK.2.warm hW) _ h1 _
  · rw [h] at h6
    exact (Option.some.inj h6).symm
theorem cn_of {R : Room} {s : State} {args : Array Value} {own host : String} {index : Nat} {y : MethodName} {bytes : ByteArray} {maxL : Nat} {rt : Option FieldType} {n fr lo : Nat} {w : Wd} (hK : KU w s) (hb : MLb y bytes maxL rt n) (hl : inT (.methodLinkNest own index y host)) (hR : fr + 1 ≤ R.frames ∧ 8 + (maxL + 11) + lo ≤ R.locals) : va_CN R s args own index y host bytes maxL rt [.code y bytes maxL rt] (rmOf fr lo) 0 0 n := by
  obtain ⟨h1, h2, h3, h4, h5, h6⟩ := hb
  refine ⟨⟨rfl, rfl, hR.1, hR.2, fun x hx a' U hW => ?_, List.mem_cons_self⟩, hK.2 _ h1 _, hK.2 _ h3 _, ⟨h4, h5⟩, fun sig h => ?_, hK.2 _ hl _⟩
  · rw [List.mem_singleton.mp hx]
    exact (hK.2.warm hW) _ h1 _
  · rw [h] at h6
    exact (Option.some.inj h6).symm
section CALLS
variable {l : Launch} {w : Wd} {cc : ByteArray} {nL : Nat} {own : String} {R : Room} {ret : Option FieldType} {rv : Option Value} {FR : FMem} {V : FMem → Nat → List (Option Value) → List Value → Prop} {FM : FMem} {pc : Nat} {L : List (Option Value)} {st : List Value}
variable {index i ci n fr lo maxL : Nat} {y : MethodName} {bytes : ByteArray} {rt : Option FieldType} {As : List Value} {F1 : FMem} {rv1 : Option Value} {fs : List Value}
theorem r_callV (hV : Pk l w cc nL own R ret rv FR V) {stk : List Value} (hM : Mt l w y bytes maxL rt fr lo (.ref (wB w + i) :: As) FM rv1 F1) (hl0 : MLV own index y bytes maxL rt n) (hi : i < wN w) (hm : wM w i (FM i) = .inr (ci, fs)) (hc : (vwCl[ci]?).map (fun q => q.1) = some y.cls) (hn : As.length = n) (hR : fr + 1 ≤ R.frames ∧ 8 + (maxL + 11) + lo ≤ R.locals) (hst : (st.map fun v => v.category).sum ≤ 8) (hstk : stk = As.reverse ++ .ref (wB w + i) :: st) (hd : decode cc pc = .ok (.invokevirtual index, 3)) (k : V F1 (pc + 3) L (rv1.toList ++ st)) : V FM pc L stk := by
  obtain ⟨p, e, s, m, args, below, meth, c, hx, hb, hml, hown, hr, hlk, hK, rfl⟩ := hV
  intro H locs ls hP hS hl
  subst hstk
  obtain ⟨h1, h2, h3, h4⟩ := hl0
  have hrec : ∃ cellB : Cell, H[wB w + i]? = some cellB ∧ cellB.vm.isStatics = false ∧ s.vm.findClass y.cls = some cellB.cls := by
    rw [Option.map_eq_some_iff] at hc
    obtain ⟨q, hq, hq2⟩ := hc
    rw [← hq2]
    exact va_recv hK.1 hP hq (q0 := i) (fs := fs) (by rw [wl_get hi, hm])
  have hp : PreV s H y.cls (wB w + i) (va_Pc (.ref (wB w + i) :: As) (Px w FM)) As := ⟨Px.blind, hrec, fun U hU hW => ⟨rfl, by rw [hU]; exact hP, hK.warm hW⟩⟩
  have S : CallFix p m c cc nL s args ([] : List Cond) own := ⟨hx, hb, hml, hown, fun _ h => by cases h⟩
  rcases h2 with h2 | ⟨host, h2⟩
  · exact Wm.call (va_runV (g := F0 m pc ls (As.reverse ++ .ref (wB w + i) :: st)) S hM ⟨cb_of hK h1 h2 hR, hK.2 _ h3 _, hK.2 _ h4 _⟩ hp rfl hn hl.2.1 rfl (lv_room hst) hd ⟨Nat.zero_le _, Nat.zero_le _⟩) hS (fun H1 locs1 g1 g2 => k H1 locs1 ls g1 g2 hl)
  · exact Wm.call (va_runVN (g := F0 m pc ls (As.reverse ++ .ref (wB w + i) :: st)) S hM ⟨cn_of hK h1 h2 hR, hK.2 _ h3 _, hK.2 _ h4 _⟩ hp rfl hn hl.2.1 rfl (lv_room hst) hd ⟨Nat.zero_le _, Nat.zero_le _⟩) hS (fun H1 locs1 g1 g2 => k H1 locs1 ls g1 g2 hl)
theorem r_callS (hV : Pk l w cc nL own R ret rv FR V) {stk : List Value} (hM : Mt l w y bytes maxL rt fr lo As FM rv1 F1) (hl0 : MLS own index y bytes maxL rt n) (hn : As.length = n) (hR : fr + 1 ≤ R.frames ∧ 8 + (maxL + 11) + lo ≤ R.locals) (hst : (st.map fun v => v.category).sum ≤ 8) (hstk : stk = As.reverse ++ st) (hd : decode cc pc = .ok (.invokestatic index, 3)) (k : V F1 (pc + 3) L (rv1.toList ++ st)) : V FM pc L stk := by
  obtain ⟨p, e, s, m, args, below, meth, c, hx, hb, hml, hown, hr, hlk, hK, rfl⟩ := hV
  intro H locs ls hP hS hl
  subst hstk
  obtain ⟨h1, h2, h3⟩ := hl0
  have hp : PreS s H (va_Pc As (Px w FM)) As := ⟨Px.blind, fun U hU hW => ⟨rfl, by rw [hU]; exact hP, hK.warm hW⟩⟩
  have S : CallFix p m c cc nL s args ([] : List Cond) own := ⟨hx, hb, hml, hown, fun _ h => by cases h⟩
  rcases h2 with h2 | ⟨host, h2⟩
  · exact Wm.call (va_runS (g := F0 m pc ls (As.reverse ++ st)) S hM ⟨cb_of hK h1 h2 hR, hK.2 _ h3 _⟩ hp rfl hn hl.2.1 rfl (lv_room hst) hd ⟨Nat.zero_le _, Nat.zero_le _⟩) hS (fun H1 locs1 g1 g2 => k H1 locs1 ls g1 g2 hl)
  · exact Wm.call (va_runSN (g := F0 m pc ls (As.reverse ++ st)) S hM ⟨cn_of hK h1 h2 hR, hK.2 _ h3 _, trivial⟩ hp rfl hn hl.2.1 rfl (lv_room hst) hd ⟨Nat.zero_le _, Nat.zero_le _⟩) hS (fun H1 locs1 g1 g2 => k H1 locs1 ls g1 g2 hl)
theorem r_mmax (hV : Pk l w cc nL own R ret rv FR V) {x y2 : Int32} (h1 : inT (.methodLink own index Lib.Math.max.name)) (h2 : inT (.static Lib.Math.max.name)) (h3 : inT (.initialized "java/lang/Math")) (h4 : inT (.code Lib.Math.max.name Lib.Math.max.code 2 (some .int))) (hR : 1 ≤ R.frames ∧ (st.map fun v => v.category).sum + 13 ≤ R.locals) (hd : decode cc pc = .ok (.invokestatic index, 3)) (k : V FM (pc + 3) L (.int (if x < y2 then y2 else x) :: st)) : V FM pc L (.int y2 :: .int x :: st) := by
  obtain ⟨p, e, s, m, args, below, meth, c, hx, hb, hml, hown, hr, hlk, hK, rfl⟩ := hV
  intro H locs ls hP hS hl
  exact va_mmax hx hb (hml.trans hl.2.1.symm) hown (hK.2 _ h1 _) (hK.2 _ h2 _) (hK.2 _ h3 _) (hK.2 _ h4 _) hR.1 hR.2 (Nat.zero_le _) (Nat.zero_le _) hd (k H locs ls hP hS hl)
theorem r_mmin (hV : Pk l w cc nL own R ret rv FR V) {x y2 : Int32} (h1 : inT (.methodLink own index Lib.Math.min.name)) (h2 : inT (.static Lib.Math.min.name)) (h3 : inT (.initialized "java/lang/Math")) (h4 : inT (.code Lib.Math.min.name Lib.Math.min.code 2 (some .int))) (hR : 1 ≤ R.frames ∧ (st.map fun v => v.category).sum + 13 ≤ R.locals) (hd : decode cc pc = .ok (.invokestatic index, 3)) (k : V FM (pc + 3) L (.int (if y2 < x then y2 else x) :: st)) : V FM pc L (.int y2 :: .int x :: st) := by
  obtain ⟨p, e, s, m, args, below, meth, c, hx, hb, hml, hown, hr, hlk, hK, rfl⟩ := hV
  intro H locs ls hP hS hl
  exact va_mmin hx hb (hml.trans hl.2.1.symm) hown (hK.2 _ h1 _) (hK.2 _ h2 _) (hK.2 _ h3 _) (hK.2 _ h4 _) hR.1 hR.2 (Nat.zero_le _) (Nat.zero_le _) hd (k H locs ls hP hS hl)
theorem r_copy (hV : Pk l w cc nL own R ret rv FR V) {j n0 n1 : Nat} {cA : ClassId} {sp dp len : Int32} (h1 : inT (.methodLink own index arraycopyName)) (h2 : inT (.native arraycopyName)) (h3 : inT (.static arraycopyName)) (h4 : inT (.initialized "java/lang/System")) (hi : i < wN w) (hj : j < wN w) (hm : ∀ row, wM w i row = .inl (cA, n0, .inl row)) (hm2 : ∀ row, wM w j row = .inl (cA, n1, .inl row)) (ht : (wT w)[0]? = some (cA, .int)) (g1 : ¬ sp < 0) (g2 : ¬ dp < 0) (g3 : ¬ len < 0) (g4 : sp.toNatClampNeg + len.toNatClampNeg ≤ n0) (g5 : dp.toNatClampNeg + len.toNatClampNeg ≤ n1) (hR : 1 ≤ R.frames ∧ (st.map fun v => v.category).sum + (nativeFrameWords "java/lang/System" "arraycopy" 5 + 11) ≤ R.locals) (hd : decode cc pc = .ok (.invokestatic index, 3)) (k : V (rset FM j (va_cpy (FM i) (FM j) sp.toNatClampNeg dp.toNatClampNeg len.toNatClampNeg)) (pc + 3) L st) : V FM pc L (.int len :: .int dp :: .ref (wB w + j) :: .int sp :: .ref (wB w + i) :: st) := by
  obtain ⟨p, e, s, m, args, below, meth, c, hx, hb, hml, hown, hr, hlk, hK, rfl⟩ := hV
  intro H locs ls hP hS hl
  refine va_copyi hx hb (hml.trans hl.2.1.symm) hown (hK.2 _ h1 _) (hK.2 _ h2 _) (hK.2 _ h3 _) (hK.2 _ h4 _) hK.1 hP wl_D hS i j 0 0 (by rw [wl_get hi, hm]) (by rw [wl_get hj, hm2]) ht ht rfl g1 g2 g3 g4 g5 (fun _ _ => rfl) hR.1 hR.2 hd (fun H1 locs1 q1 _ q3 => ?_)
  rw [← hm2, wl_set] at q1
  exact k H1 locs1 ls q1 q3 hl
end CALLS
end
section
/-! ===== the words of the functional programs ===== -/
abbrev Opt : Type := Option (Int32 × FMem)
def fset (FM : FMem) (i k : Nat) (v : Int32) : FMem := rset FM i (upd (FM i) k v)
def fcpy (FM : FMem) (i j n : Nat) : FMem := rset FM j (va_cpy (FM i) (FM j) 0 0 n)
def grd (c : Bool) (k : Opt) : Opt := if c = true then k else none
def bnd (o : Opt) (k : Int32 → FMem → Opt) : Opt := match o with
  | none => none
  | some q => k q.1 q.2
def bindv (x : Int32) (k : Int32 → Opt) : Opt := k x
def bindl (x : Int64) (k : Int64 → Opt) : Opt := k x
def bindm (m : FMem) (k : FMem → Opt) : Opt := k m
def inb (x : Int32) (n : Nat) : Bool := decide (0 ≤ x.toInt) && decide (x.toInt < n)
def nz (x : Int32) : Bool := decide (¬ x = 0)
def isB (x : Int32) : Bool := decide (x = 0) || decide (x = 1)
def jmax (x y : Int32) : Int32 := if x < y then y else x
def jmin (x y : Int32) : Int32 := if y < x then y else x
def FU : Nat := 100000
theorem grd_some {c : Bool} {k : Opt} {r : Int32 × FMem} (h : grd c k = some r) : c = true ∧ k = some r := by
  unfold grd at h
  split at h
  · exact ⟨by assumption, h⟩
  · cases h
theorem bnd_some {o : Opt} {k : Int32 → FMem → Opt} {r : Int32 × FMem} (h : bnd o k = some r) : ∃ (a : Int32) (M : FMem), o = some (a, M) ∧ k a M = some r := by
  cases o with
  | none => cases h
  | some q => exact ⟨q.1, q.2, rfl, h⟩
theorem inb_in {x : Int32} {n : Nat} (h : inb x n = true) : vp_in x n := by
  simp only [inb, Bool.and_eq_true, decide_eq_true_eq] at h
  exact vp_in_iff.mpr h
theorem nz_ne {x : Int32} (h : nz x = true) : ¬ x = 0 := by simpa [nz] using h
theorem isB_or {x : Int32} (h : isB x = true) : x = 0 ∨ x = 1 := by simpa [isB] using h
theorem ret_r {x r : Int32} {M F : FMem} (h : some (x, M) = some (r, F)) : some (Value.int r) = some (.int x) := by cases h; rfl
theorem ret_m {x r : Int32} {M F : FMem} (h : some (x, M) = some (r, F)) : F = M := by cases h; rfl
theorem ret_e {x r : Int32} {M F : FMem} (h : some (x, M) = some (r, F)) : r = x := by cases h; rfl
theorem cat_nil : ∀ v ∈ ([] : List Value), v.category = 1 := fun _ h => by cases h
theorem cat_cons {a : Value} {As : List Value} (h : a.category = 1) (h2 : ∀ v ∈ As, v.category = 1) : ∀ v ∈ a :: As, v.category = 1 := List.forall_mem_cons.mpr ⟨h, h2⟩
def nrv (b : Nat) (e : Int32) : Value := if e = 0 then .null else .ref (b + e.toNatClampNeg)
theorem nrv_0 {b : Nat} {e : Int32} (h : e = 0) : nrv b e = .null := if_pos h
theorem nrv_n {b : Nat} {e : Int32} (h : ¬ e = 0) : nrv b e = .ref (b + e.toNatClampNeg) := if_neg h
theorem nrv_id {b k : Nat} (h0 : 0 < k) (h : k < 2 ^ 31) : nrv b (Int32.ofNat k) = .ref (b + k) := by
  have h1 : ¬ Int32.ofNat k = 0 := nI_ne0 h0 h
  have h2 : (Int32.ofNat k).toNatClampNeg = k := nI_clamp h
  rw [nrv_n h1, h2]
def maskL : List Bool → List (Option Value) → List (Option Value)
  | c :: cs, x :: xs => (match c with | true => x | false => none) :: maskL cs xs
  | _, xs => xs
theorem maskL_len : ∀ (cs : List Bool) (xs : List (Option Value)), (maskL cs xs).length = xs.length
  | [], _ => rfl
  | _ :: _, [] => rfl
  | _ :: cs, _ :: xs => by simp [maskL, maskL_len cs xs]
theorem maskL_at : ∀ (cs : List Bool) (xs : List (Option Value)) (i : Nat) (v : Value), (maskL cs xs)[i]? = some (some v) → xs[i]? = some (some v)
  | [], _, _, _, h => h
  | _ :: _, [], _, _, h => h
  | c :: cs, x :: xs, 0, v, h => by
    cases c with
    | true => exact h
    | false => cases h
  | c :: cs, x :: xs, i + 1, v, h => maskL_at cs xs i v h
/-- an object of the world, an int array of it -/
def isOb (w : Wd) (i ci : Nat) (fs : (Nat → Int32) → List Value) : Prop := i < wN w ∧ ∀ r, wM w i r = .inr (ci, fs r)
def isAr (w : Wd) (cA : ClassId) (i n : Nat) : Prop := i < wN w ∧ (wT w)[0]? = some (cA, .int) ∧ ∀ r, wM w i r = .inl (cA, n, .inl r)
section DROWS
variable {l : Launch} {w : Wd} {cc : ByteArray} {nL : Nat} {own : String} {R : Room} {ret : Option FieldType} {rv : Option Value} {FR : FMem} {V : FMem → Nat → List (Option Value) → List Value → Prop} {FM : FMem} {pc : Nat} {L : List (Option Value)} {st : List Value}
variable {index i ci n fr lo maxL kf : Nat} {y : MethodName} {bytes : ByteArray} {rt : Option FieldType} {As : List Value} {F1 : FMem} {fs : (Nat → Int32) → List Value} {cA : ClassId}
theorem r_bv {e : Int32} {K : Int32 → Opt} {r : Int32 × FMem} (h : bindv e K = some r) (k : ∀ v, K v = some r → V FM pc L (.int v :: st)) : V FM pc L (.int e :: st) := k e h
theorem r_bl {e : Int64} {K : Int64 → Opt} {r : Int32 × FMem} (h : bindl e K = some r) (k : ∀ v, K v = some r → V FM pc L (.long v :: st)) : V FM pc L (.long e :: st) := k e h
theorem r_bm {m : FMem} {K : FMem → Opt} {r : Int32 × FMem} (h : bindm m K = some r) (k : ∀ M, K M = some r → V M pc L st) : V m pc L st := k m h
theorem r_mask (hV : Pk l w cc nL own R ret rv FR V) (cs : List Bool) (k : V FM pc (maskL cs L) st) : V FM pc L st := by
  obtain ⟨p, e, s, m, args, below, meth, c, hx, hb, hml, hown, hr, hlk, hK, rfl⟩ := hV
  intro H locs ls hP hS hl
  exact k H locs ls hP hS ⟨by rw [maskL_len]; exact hl.1, hl.2.1, hl.2.2.1, fun i v h => hl.2.2.2 i v (maskL_at cs L i v h)⟩
theorem r_aload_nN (hV : Pk l w cc nL own R ret rv FR V) {k0 : Fin 4} (hd : decode cc pc = .ok (.aload_n k0, 1)) (hi : L[(k0 : Nat)]? = some (some .null)) (k : V FM (pc + 1) L (.null :: st)) : V FM pc L st := by
  obtain ⟨p, e, s, m, args, below, meth, c, hx, hb, hml, hown, hr, hlk, hK, rfl⟩ := hV
  intro H locs ls hP hS hl
  exact lv_aload_nN hx hb hd rfl (hl.at hi) (k H locs ls hP hS hl)
theorem r_astore_nN (hV : Pk l w cc nL own R ret rv FR V) {k0 : Fin 4} (hd : decode cc pc = .ok (.astore_n k0, 1)) (hn : (k0 : Nat) < nL) (hc : chkL L k0 = true) (k : V FM (pc + 1) (L.set k0 (some .null)) st) : V FM pc L (.null :: st) := by
  obtain ⟨p, e, s, m, args, below, meth, c, hx, hb, hml, hown, hr, hlk, hK, rfl⟩ := hV
  intro H locs ls hP hS hl
  exact lv_astore_nN hx hb hd rfl hl.has hn rfl (fun ls2 h2 => k H locs ls2 hP hS (LH.st1 hl.1 hc h2))
theorem r_geto (hV : Pk l w cc nL own R ret rv FR V) {fin : Bool} {ty : FieldType} {v : Value} (hf : FL own index ci kf fin ty) (hO : isOb w i ci fs) (hv : (fs (FM i))[kf]? = some v) (hd : decode cc pc = .ok (.getfield index, 3)) (k : V FM (pc + 3) L (v :: st)) : V FM pc L (.ref (wB w + i) :: st) :=
  r_get hV hf hO.1 (hO.2 _) hv hd k
theorem r_puti (hV : Pk l w cc nL own R ret rv FR V) {x : Int32} (hf : FL own index ci kf false .int) (hO : isOb w i ci fs) (hs : ∀ r z, fs (upd r kf z) = (fs r).set kf (.int z)) (hlen : kf < (fs (FM i)).length) (hd : decode cc pc = .ok (.putfield index, 3)) (k : V (fset FM i kf x) (pc + 3) L st) : V FM pc L (.int x :: .ref (wB w + i) :: st) :=
  r_put hV (upd (FM i) kf x) hf hO.1 (hO.2 _) (by rw [hO.2, hs]) rfl rfl hlen hd k
theorem r_ald (hV : Pk l w cc nL own R ret rv FR V) {x : Int32} (hA : isAr w cA i n) (hin : vp_in x n) (kk : Nat) (hk : x.toNatClampNeg = kk) (hd : decode cc pc = .ok (.iaload, 1)) (k : V FM (pc + 1) L (.int (FM i kk) :: st)) : V FM pc L (.int x :: .ref (wB w + i) :: st) := by
  subst hk
  exact r_iald hV hA.1 (hA.2.2 _) hA.2.1 hin hd k
theorem r_ast (hV : Pk l w cc nL own R ret rv FR V) {x v : Int32} (hA : isAr w cA i n) (hin : vp_in x n) (kk : Nat) (hk : x.toNatClampNeg = kk) (hd : decode cc pc = .ok (.iastore, 1)) (k : V (fset FM i kk v) (pc + 1) L st) : V FM pc L (.int v :: .int x :: .ref (wB w + i) :: st) := by
  subst hk
  exact r_iast hV hA.1 hA.2.2 hA.2.1 hin hd k
theorem r_len (hV : Pk l w cc nL own R ret rv FR V) (hA : isAr w cA i n) {v : Int32} (hv : Int32.ofNat n = v) (hd : decode cc pc = .ok (.arraylength, 1)) (k : V FM (pc + 1) L (.int v :: st)) : V FM pc L (.ref (wB w + i) :: st) :=
  r_alen hV 0 hA.1 (hA.2.2 _) hA.2.1 hv hd k
theorem r_cpy (hV : Pk l w cc nL own R ret rv FR V) {j n0 n1 : Nat} {len : Int32} (kk : Nat) (h1 : inT (.methodLink own index arraycopyName)) (h2 : inT (.native arraycopyName)) (h3 : inT (.static arraycopyName)) (h4 : inT (.initialized "java/lang/System")) (hi : isAr w cA i n0) (hj : isAr w cA j n1) (hk : len.toNatClampNeg = kk) (g3 : ¬ len < 0) (g4 : kk ≤ n0) (g5 : kk ≤ n1) (hR : 1 ≤ R.frames ∧ (st.map fun v => v.category).sum + (nativeFrameWords "java/lang/System" "arraycopy" 5 + 11) ≤ R.locals) (hd : decode cc pc = .ok (.invokestatic index, 3)) (k : V (fcpy FM i j kk) (pc + 3) L st) : V FM pc L (.int len :: .int 0 :: .ref (wB w + j) :: .int 0 :: .ref (wB w + i) :: st) := by
  subst hk
  refine r_copy hV h1 h2 h3 h4 hi.1 hj.1 hi.2.2 hj.2.2 hi.2.1 (by decide) (by decide) g3 ?_ ?_ hR hd ?_
  · rw [sb_cl0, Nat.zero_add]; exact g4
  · rw [sb_cl0, Nat.zero_add]; exact g5
  · rw [sb_cl0]; exact k
theorem r_cVi (hV : Pk l w cc nL own R ret rv FR V) {stk : List Value} {v : Value} (hM : Mt l w y bytes maxL rt fr lo (.ref (wB w + i) :: As) FM (some v) F1) (hl0 : MLV own index y bytes maxL rt n) (hO : isOb w i ci fs) (hc : (vwCl[ci]?).map (fun q => q.1) = some y.cls) (hn : As.length = n) (hR : fr + 1 ≤ R.frames ∧ 8 + (maxL + 11) + lo ≤ R.locals) (hst : (st.map fun v => v.category).sum ≤ 8) (hstk : stk = As.reverse ++ .ref (wB w + i) :: st) (hd : decode cc pc = .ok (.invokevirtual index, 3)) (k : V F1 (pc + 3) L (v :: st)) : V FM pc L stk :=
  r_callV hV hM hl0 hO.1 (hO.2 _) hc hn hR hst hstk hd k
theorem r_cVv (hV : Pk l w cc nL own R ret rv FR V) {stk : List Value} (hM : Mt l w y bytes maxL rt fr lo (.ref (wB w + i) :: As) FM none F1) (hl0 : MLV own index y bytes maxL rt n) (hO : isOb w i ci fs) (hc : (vwCl[ci]?).map (fun q => q.1) = some y.cls) (hn : As.length = n) (hR : fr + 1 ≤ R.frames ∧ 8 + (maxL + 11) + lo ≤ R.locals) (hst : (st.map fun v => v.category).sum ≤ 8) (hstk : stk = As.reverse ++ .ref (wB w + i) :: st) (hd : decode cc pc = .ok (.invokevirtual index, 3)) (k : V F1 (pc + 3) L st) : V FM pc L stk :=
  r_callV hV hM hl0 hO.1 (hO.2 _) hc hn hR hst hstk hd k
theorem r_cSi (hV : Pk l w cc nL own R ret rv FR V) {stk : List Value} {v : Value} (hM : Mt l w y bytes maxL rt fr lo As FM (some v) F1) (hl0 : MLS own index y bytes maxL rt n) (hn : As.length = n) (hR : fr + 1 ≤ R.frames ∧ 8 + (maxL + 11) + lo ≤ R.locals) (hst : (st.map fun v => v.category).sum ≤ 8) (hstk : stk = As.reverse ++ st) (hd : decode cc pc = .ok (.invokestatic index, 3)) (k : V F1 (pc + 3) L (v :: st)) : V FM pc L stk :=
  r_callS hV hM hl0 hn hR hst hstk hd k
theorem r_cSv (hV : Pk l w cc nL own R ret rv FR V) {stk : List Value} (hM : Mt l w y bytes maxL rt fr lo As FM none F1) (hl0 : MLS own index y bytes maxL rt n) (hn : As.length = n) (hR : fr + 1 ≤ R.frames ∧ 8 + (maxL + 11) + lo ≤ R.locals) (hst : (st.map fun v => v.category).sum ≤ 8) (hstk : stk = As.reverse ++ st) (hd : decode cc pc = .ok (.invokestatic index, 3)) (k : V F1 (pc + 3) L st) : V FM pc L stk :=
  r_callS hV hM hl0 hn hR hst hstk hd k
end DROWS
/-! ===== the class's memory: 101 cells; the reference's: 14 ===== -/
def cellsC (cI cM : ClassId) (b : Nat) (r : Nat → Int32) : List va_E := [.inr (8, [.ref (b + 1), .ref (b + 3), .ref (b + 12), .ref (b + 21), .ref (b + 27), .ref (b + 77), .ref (b + 91), .ref (b + 94), .ref (b + 98), .ref (b + 100)]),
  .inr (4, [.ref (b + 2), .int (r 1)]),
  .inl (cI, 200, .inl r),
  .inr (0, [.ref (b + 4), .ref (b + 5), .ref (b + 6), .int (r 3), .ref (b + 7), .int (r 5), .ref (b + 11)]),
  .inl (cI, 6, .inl r),
  .inl (cI, 6, .inl r),
  .inl (cI, 6, .inl r),
  .inr (7, [.ref (b + 8), .ref (b + 9), .ref (b + 10), .int (r 3)]),
  .inl (cI, 9, .inl r),
  .inl (cI, 9, .inl r),
  .inl (cI, 9, .inl r),
  .inl (cI, 3, .inl r),
  .inr (0, [.ref (b + 13), .ref (b + 14), .ref (b + 15), .int (r 3), .ref (b + 16), .int (r 5), .ref (b + 20)]),
  .inl (cI, 6, .inl r),
  .inl (cI, 6, .inl r),
  .inl (cI, 6, .inl r),
  .inr (7, [.ref (b + 17), .ref (b + 18), .ref (b + 19), .int (r 3)]),
  .inl (cI, 9, .inl r),
  .inl (cI, 9, .inl r),
  .inl (cI, 9, .inl r),
  .inl (cI, 3, .inl r),
  .inr (1, [.int (r 0), .int (r 1), .int (r 2), .int (r 3), .ref (b + 22), .ref (b + 23)]),
  .inl (cI, 6, .inl r),
  .inr (7, [.ref (b + 24), .ref (b + 25), .ref (b + 26), .int (r 3)]),
  .inl (cI, 9, .inl r),
  .inl (cI, 9, .inl r),
  .inl (cI, 9, .inl r),
  .inr (5, [.ref (b + 28), .int (r 1), .int (r 2)]),
  .inl (cM, 8, .inr (.inr (.inr (.inr (fun k => some (b + (27 + 2 + 6 * k))))))),
  .inr (1, [.int (r 0), .int (r 1), .int (r 2), .int (r 3), .ref (b + 30), .ref (b + 31)]),
  .inl (cI, 6, .inl r),
  .inr (7, [.ref (b + 32), .ref (b + 33), .ref (b + 34), .int (r 3)]),
  .inl (cI, 9, .inl r),
  .inl (cI, 9, .inl r),
  .inl (cI, 9, .inl r),
  .inr (1, [.int (r 0), .int (r 1), .int (r 2), .int (r 3), .ref (b + 36), .ref (b + 37)]),
  .inl (cI, 6, .inl r),
  .inr (7, [.ref (b + 38), .ref (b + 39), .ref (b + 40), .int (r 3)]),
  .inl (cI, 9, .inl r),
  .inl (cI, 9, .inl r),
  .inl (cI, 9, .inl r),
  .inr (1, [.int (r 0), .int (r 1), .int (r 2), .int (r 3), .ref (b + 42), .ref (b + 43)]),
  .inl (cI, 6, .inl r),
  .inr (7, [.ref (b + 44), .ref (b + 45), .ref (b + 46), .int (r 3)]),
  .inl (cI, 9, .inl r),
  .inl (cI, 9, .inl r),
  .inl (cI, 9, .inl r),
  .inr (1, [.int (r 0), .int (r 1), .int (r 2), .int (r 3), .ref (b + 48), .ref (b + 49)]),
  .inl (cI, 6, .inl r),
  .inr (7, [.ref (b + 50), .ref (b + 51), .ref (b + 52), .int (r 3)]),
  .inl (cI, 9, .inl r),
  .inl (cI, 9, .inl r),
  .inl (cI, 9, .inl r),
  .inr (1, [.int (r 0), .int (r 1), .int (r 2), .int (r 3), .ref (b + 54), .ref (b + 55)]),
  .inl (cI, 6, .inl r),
  .inr (7, [.ref (b + 56), .ref (b + 57), .ref (b + 58), .int (r 3)]),
  .inl (cI, 9, .inl r),
  .inl (cI, 9, .inl r),
  .inl (cI, 9, .inl r),
  .inr (1, [.int (r 0), .int (r 1), .int (r 2), .int (r 3), .ref (b + 60), .ref (b + 61)]),
  .inl (cI, 6, .inl r),
  .inr (7, [.ref (b + 62), .ref (b + 63), .ref (b + 64), .int (r 3)]),
  .inl (cI, 9, .inl r),
  .inl (cI, 9, .inl r),
  .inl (cI, 9, .inl r),
  .inr (1, [.int (r 0), .int (r 1), .int (r 2), .int (r 3), .ref (b + 66), .ref (b + 67)]),
  .inl (cI, 6, .inl r),
  .inr (7, [.ref (b + 68), .ref (b + 69), .ref (b + 70), .int (r 3)]),
  .inl (cI, 9, .inl r),
  .inl (cI, 9, .inl r),
  .inl (cI, 9, .inl r),
  .inr (1, [.int (r 0), .int (r 1), .int (r 2), .int (r 3), .ref (b + 72), .ref (b + 73)]),
  .inl (cI, 6, .inl r),
  .inr (7, [.ref (b + 74), .ref (b + 75), .ref (b + 76), .int (r 3)]),
  .inl (cI, 9, .inl r),
  .inl (cI, 9, .inl r),
  .inl (cI, 9, .inl r),
  .inr (5, [.ref (b + 78), .int (r 1), .int (r 2)]),
  .inl (cM, 2, .inr (.inr (.inr (.inr (fun k => some (b + (77 + 2 + 6 * k))))))),
  .inr (1, [.int (r 0), .int (r 1), .int (r 2), .int (r 3), .ref (b + 80), .ref (b + 81)]),
  .inl (cI, 6, .inl r),
  .inr (7, [.ref (b + 82), .ref (b + 83), .ref (b + 84), .int (r 3)]),
  .inl (cI, 9, .inl r),
  .inl (cI, 9, .inl r),
  .inl (cI, 9, .inl r),
  .inr (1, [.int (r 0), .int (r 1), .int (r 2), .int (r 3), .ref (b + 86), .ref (b + 87)]),
  .inl (cI, 6, .inl r),
  .inr (7, [.ref (b + 88), .ref (b + 89), .ref (b + 90), .int (r 3)]),
  .inl (cI, 9, .inl r),
  .inl (cI, 9, .inl r),
  .inl (cI, 9, .inl r),
  .inr (6, [.ref (b + 92), .ref (b + 93), .int (r 2)]),
  .inl (cI, 8, .inl r),
  .inl (cI, 8, .inl r),
  .inr (2, [.ref (b + 12), nrv b (r 1), .int (r 2), .int (r 3), .ref (b + 95), .ref (b + 96), .ref (b + 97)]),
  .inl (cI, 61, .inl r),
  .inl (cI, 61, .inl r),
  .inl (cI, 366, .inl r),
  .inr (3, [.ref (b + 12), .ref (b + 94), .ref (b + 99), .int (r 3), .int (r 4)]),
  .inl (cI, 6, .inl r),
  .inl (cI, 6, .inl r)]
def cellsM (cI : ClassId) (b : Nat) (r : Nat → Int32) : List va_E := [.inr (9, [.int (r 0), .ref (b + 1), .int (r 2), .ref (b + 2), .ref (b + 3), .int (r 5), .ref (b + 4), .int (r 7), .ref (b + 5), .int (r 9), .ref (b + 6), .ref (b + 7), .int (r 12), .int (r 13), .ref (b + 8), .int (r 15), .ref (b + 9), .int (r 17), .ref (b + 10), .ref (b + 11), .int (r 20), .int (r 21), .ref (b + 12), .ref (b + 13)]),
  .inl (cI, 18, .inl r),
  .inl (cI, 46, .inl r),
  .inl (cI, 46, .inl r),
  .inl (cI, 368, .inl r),
  .inl (cI, 92, .inl r),
  .inl (cI, 16, .inl r),
  .inl (cI, 200, .inl r),
  .inl (cI, 3, .inl r),
  .inl (cI, 18, .inl r),
  .inl (cI, 46, .inl r),
  .inl (cI, 46, .inl r),
  .inl (cI, 6, .inl r),
  .inl (cI, 6, .inl r)]
def wdC (D : va_G) (cI cM : ClassId) (b : Nat) : Wd := (D, [(cI, .int), (cM, .object "BoredKings$Moment")], (fun i r => ((cellsC cI cM b r)[i]?).getD (.inr (0, []))), 101, b)
def wdM (D : va_G) (cI : ClassId) (b : Nat) : Wd := (D, [(cI, .int)], (fun i r => ((cellsM cI b r)[i]?).getD (.inr (0, []))), 14, b)
section SHAPES
variable {D : va_G} {cI cM : ClassId} {b : Nat}
def isTh (D : va_G) (cI cM : ClassId) (b t : Nat) : Prop := 0 < t ∧ t < 101 ∧ isOb (wdC D cI cM b) t 7 (fun r => [.ref (b + (t + 1)), .ref (b + (t + 2)), .ref (b + (t + 3)), .int (r 3)]) ∧ isAr (wdC D cI cM b) cI (t + 1) 9 ∧ isAr (wdC D cI cM b) cI (t + 2) 9 ∧ isAr (wdC D cI cM b) cI (t + 3) 9
def isMo (D : va_G) (cI cM : ClassId) (b t : Nat) : Prop := 0 < t ∧ t < 101 ∧ isOb (wdC D cI cM b) t 1 (fun r => [.int (r 0), .int (r 1), .int (r 2), .int (r 3), .ref (b + (t + 1)), .ref (b + (t + 2))]) ∧ isAr (wdC D cI cM b) cI (t + 1) 6 ∧ isTh D cI cM b (t + 2)
def isCo (D : va_G) (cI cM : ClassId) (b t : Nat) : Prop := isOb (wdC D cI cM b) t 0 (fun r => [.ref (b + (t + 1)), .ref (b + (t + 2)), .ref (b + (t + 3)), .int (r 3), .ref (b + (t + 4)), .int (r 5), .ref (b + (t + 8))]) ∧ isAr (wdC D cI cM b) cI (t + 1) 6 ∧ isAr (wdC D cI cM b) cI (t + 2) 6 ∧ isAr (wdC D cI cM b) cI (t + 3) 6 ∧ isTh D cI cM b (t + 4) ∧ isAr (wdC D cI cM b) cI (t + 8) 3
def isRa (D : va_G) (cI cM : ClassId) (b t n : Nat) : Prop := t + 1 < 101 ∧ ∀ r, wM (wdC D cI cM b) (t + 1) r = .inl (cM, n, .inr (.inr (.inr (.inr (fun k => some (b + (t + 2 + 6 * k)))))))
def isSh (D : va_G) (cI cM : ClassId) (b t n : Nat) : Prop := isOb (wdC D cI cM b) t 5 (fun r => [.ref (b + (t + 1)), .int (r 1), .int (r 2)]) ∧ isRa D cI cM b t n ∧ t + 2 + 6 * n < 101
theorem ob_0 : isOb (wdC D cI cM b) 0 8 (fun r => [.ref (b + 1), .ref (b + 3), .ref (b + 12), .ref (b + 21), .ref (b + 27), .ref (b + 77), .ref (b + 91), .ref (b + 94), .ref (b + 98), .ref (b + 100)]) := ⟨Nat.le_of_ble_eq_true rfl, fun _ => rfl⟩
theorem ob_1 : isOb (wdC D cI cM b) 1 4 (fun r => [.ref (b + 2), .int (r 1)]) := ⟨Nat.le_of_ble_eq_true rfl, fun _ => rfl⟩
theorem ar_2 : isAr (wdC D cI cM b) cI 2 200 := ⟨Nat.le_of_ble_eq_true rfl, rfl, fun _ => rfl⟩
theorem ob_3 : isOb (wdC D cI cM b) 3 0 (fun r => [.ref (b + 4), .ref (b + 5), .ref (b + 6), .int (r 3), .ref (b + 7), .int (r 5), .ref (b + 11)]) := ⟨Nat.le_of_ble_eq_true rfl, fun _ => rfl⟩
theorem ar_4 : isAr (wdC D cI cM b) cI 4 6 := ⟨Nat.le_of_ble_eq_true rfl, rfl, fun _ => rfl⟩
theorem ar_5 : isAr (wdC D cI cM b) cI 5 6 := ⟨Nat.le_of_ble_eq_true rfl, rfl, fun _ => rfl⟩
theorem ar_6 : isAr (wdC D cI cM b) cI 6 6 := ⟨Nat.le_of_ble_eq_true rfl, rfl, fun _ => rfl⟩
theorem ob_7 : isOb (wdC D cI cM b) 7 7 (fun r => [.ref (b + 8), .ref (b + 9), .ref (b + 10), .int (r 3)]) := ⟨Nat.le_of_ble_eq_true rfl, fun _ => rfl⟩
theorem ar_8 : isAr (wdC D cI cM b) cI 8 9 := ⟨Nat.le_of_ble_eq_true rfl, rfl, fun _ => rfl⟩
theorem ar_9 : isAr (wdC D cI cM b) cI 9 9 := ⟨Nat.le_of_ble_eq_true rfl, rfl, fun _ => rfl⟩
theorem ar_10 : isAr (wdC D cI cM b) cI 10 9 := ⟨Nat.le_of_ble_eq_true rfl, rfl, fun _ => rfl⟩
theorem ar_11 : isAr (wdC D cI cM b) cI 11 3 := ⟨Nat.le_of_ble_eq_true rfl, rfl, fun _ => rfl⟩
theorem ob_12 : isOb (wdC D cI cM b) 12 0 (fun r => [.ref (b + 13), .ref (b + 14), .ref (b + 15), .int (r 3), .ref (b + 16), .int (r 5), .ref (b + 20)]) := ⟨Nat.le_of_ble_eq_true rfl, fun _ => rfl⟩
theorem ar_13 : isAr (wdC D cI cM b) cI 13 6 := ⟨Nat.le_of_ble_eq_true rfl, rfl, fun _ => rfl⟩
theorem ar_14 : isAr (wdC D cI cM b) cI 14 6 := ⟨Nat.le_of_ble_eq_true rfl, rfl, fun _ => rfl⟩
theorem ar_15 : isAr (wdC D cI cM b) cI 15 6 := ⟨Nat.le_of_ble_eq_true rfl, rfl, fun _ => rfl⟩
theorem ob_16 : isOb (wdC D cI cM b) 16 7 (fun r => [.ref (b + 17), .ref (b + 18), .ref (b + 19), .int (r 3)]) := ⟨Nat.le_of_ble_eq_true rfl, fun _ => rfl⟩
theorem ar_17 : isAr (wdC D cI cM b) cI 17 9 := ⟨Nat.le_of_ble_eq_true rfl, rfl, fun _ => rfl⟩
theorem ar_18 : isAr (wdC D cI cM b) cI 18 9 := ⟨Nat.le_of_ble_eq_true rfl, rfl, fun _ => rfl⟩
theorem ar_19 : isAr (wdC D cI cM b) cI 19 9 := ⟨Nat.le_of_ble_eq_true rfl, rfl, fun _ => rfl⟩
theorem ar_20 : isAr (wdC D cI cM b) cI 20 3 := ⟨Nat.le_of_ble_eq_true rfl, rfl, fun _ => rfl⟩
theorem ob_21 : isOb (wdC D cI cM b) 21 1 (fun r => [.int (r 0), .int (r 1), .int (r 2), .int (r 3), .ref (b + 22), .ref (b + 23)]) := ⟨Nat.le_of_ble_eq_true rfl, fun _ => rfl⟩
theorem ar_22 : isAr (wdC D cI cM b) cI 22 6 := ⟨Nat.le_of_ble_eq_true rfl, rfl, fun _ => rfl⟩
theorem ob_23 : isOb (wdC D cI cM b) 23 7 (fun r => [.ref (b + 24), .ref (b + 25), .ref (b + 26), .int (r 3)]) := ⟨Nat.le_of_ble_eq_true rfl, fun _ => rfl⟩
theorem ar_24 : isAr (wdC D cI cM b) cI 24 9 := ⟨Nat.le_of_ble_eq_true rfl, rfl, fun _ => rfl⟩
theorem ar_25 : isAr (wdC D cI cM b) cI 25 9 := ⟨Nat.le_of_ble_eq_true rfl, rfl, fun _ => rfl⟩
theorem ar_26 : isAr (wdC D cI cM b) cI 26 9 := ⟨Nat.le_of_ble_eq_true rfl, rfl, fun _ => rfl⟩
theorem ob_27 : isOb (wdC D cI cM b) 27 5 (fun r => [.ref (b + 28), .int (r 1), .int (r 2)]) := ⟨Nat.le_of_ble_eq_true rfl, fun _ => rfl⟩
theorem ob_29 : isOb (wdC D cI cM b) 29 1 (fun r => [.int (r 0), .int (r 1), .int (r 2), .int (r 3), .ref (b + 30), .ref (b + 31)]) := ⟨Nat.le_of_ble_eq_true rfl, fun _ => rfl⟩
theorem ar_30 : isAr (wdC D cI cM b) cI 30 6 := ⟨Nat.le_of_ble_eq_true rfl, rfl, fun _ => rfl⟩
theorem ob_31 : isOb (wdC D cI cM b) 31 7 (fun r => [.ref (b + 32), .ref (b + 33), .ref (b + 34), .int (r 3)]) := ⟨Nat.le_of_ble_eq_true rfl, fun _ => rfl⟩
theorem ar_32 : isAr (wdC D cI cM b) cI 32 9 := ⟨Nat.le_of_ble_eq_true rfl, rfl, fun _ => rfl⟩
theorem ar_33 : isAr (wdC D cI cM b) cI 33 9 := ⟨Nat.le_of_ble_eq_true rfl, rfl, fun _ => rfl⟩
theorem ar_34 : isAr (wdC D cI cM b) cI 34 9 := ⟨Nat.le_of_ble_eq_true rfl, rfl, fun _ => rfl⟩
theorem ob_35 : isOb (wdC D cI cM b) 35 1 (fun r => [.int (r 0), .int (r 1), .int (r 2), .int (r 3), .ref (b + 36), .ref (b + 37)]) := ⟨Nat.le_of_ble_eq_true rfl, fun _ => rfl⟩
theorem ar_36 : isAr (wdC D cI cM b) cI 36 6 := ⟨Nat.le_of_ble_eq_true rfl, rfl, fun _ => rfl⟩
theorem ob_37 : isOb (wdC D cI cM b) 37 7 (fun r => [.ref (b + 38), .ref (b + 39), .ref (b + 40), .int (r 3)]) := ⟨Nat.le_of_ble_eq_true rfl, fun _ => rfl⟩
theorem ar_38 : isAr (wdC D cI cM b) cI 38 9 := ⟨Nat.le_of_ble_eq_true rfl, rfl, fun _ => rfl⟩
theorem ar_39 : isAr (wdC D cI cM b) cI 39 9 := ⟨Nat.le_of_ble_eq_true rfl, rfl, fun _ => rfl⟩
theorem ar_40 : isAr (wdC D cI cM b) cI 40 9 := ⟨Nat.le_of_ble_eq_true rfl, rfl, fun _ => rfl⟩
theorem ob_41 : isOb (wdC D cI cM b) 41 1 (fun r => [.int (r 0), .int (r 1), .int (r 2), .int (r 3), .ref (b + 42), .ref (b + 43)]) := ⟨Nat.le_of_ble_eq_true rfl, fun _ => rfl⟩
theorem ar_42 : isAr (wdC D cI cM b) cI 42 6 := ⟨Nat.le_of_ble_eq_true rfl, rfl, fun _ => rfl⟩
theorem ob_43 : isOb (wdC D cI cM b) 43 7 (fun r => [.ref (b + 44), .ref (b + 45), .ref (b + 46), .int (r 3)]) := ⟨Nat.le_of_ble_eq_true rfl, fun _ => rfl⟩
theorem ar_44 : isAr (wdC D cI cM b) cI 44 9 := ⟨Nat.le_of_ble_eq_true rfl, rfl, fun _ => rfl⟩
theorem ar_45 : isAr (wdC D cI cM b) cI 45 9 := ⟨Nat.le_of_ble_eq_true rfl, rfl, fun _ => rfl⟩
theorem ar_46 : isAr (wdC D cI cM b) cI 46 9 := ⟨Nat.le_of_ble_eq_true rfl, rfl, fun _ => rfl⟩
theorem ob_47 : isOb (wdC D cI cM b) 47 1 (fun r => [.int (r 0), .int (r 1), .int (r 2), .int (r 3), .ref (b + 48), .ref (b + 49)]) := ⟨Nat.le_of_ble_eq_true rfl, fun _ => rfl⟩
theorem ar_48 : isAr (wdC D cI cM b) cI 48 6 := ⟨Nat.le_of_ble_eq_true rfl, rfl, fun _ => rfl⟩
theorem ob_49 : isOb (wdC D cI cM b) 49 7 (fun r => [.ref (b + 50), .ref (b + 51), .ref (b + 52), .int (r 3)]) := ⟨Nat.le_of_ble_eq_true rfl, fun _ => rfl⟩
theorem ar_50 : isAr (wdC D cI cM b) cI 50 9 := ⟨Nat.le_of_ble_eq_true rfl, rfl, fun _ => rfl⟩
theorem ar_51 : isAr (wdC D cI cM b) cI 51 9 := ⟨Nat.le_of_ble_eq_true rfl, rfl, fun _ => rfl⟩
theorem ar_52 : isAr (wdC D cI cM b) cI 52 9 := ⟨Nat.le_of_ble_eq_true rfl, rfl, fun _ => rfl⟩
theorem ob_53 : isOb (wdC D cI cM b) 53 1 (fun r => [.int (r 0), .int (r 1), .int (r 2), .int (r 3), .ref (b + 54), .ref (b + 55)]) := ⟨Nat.le_of_ble_eq_true rfl, fun _ => rfl⟩
theorem ar_54 : isAr (wdC D cI cM b) cI 54 6 := ⟨Nat.le_of_ble_eq_true rfl, rfl, fun _ => rfl⟩
theorem ob_55 : isOb (wdC D cI cM b) 55 7 (fun r => [.ref (b + 56), .ref (b + 57), .ref (b + 58), .int (r 3)]) := ⟨Nat.le_of_ble_eq_true rfl, fun _ => rfl⟩
theorem ar_56 : isAr (wdC D cI cM b) cI 56 9 := ⟨Nat.le_of_ble_eq_true rfl, rfl, fun _ => rfl⟩
theorem ar_57 : isAr (wdC D cI cM b) cI 57 9 := ⟨Nat.le_of_ble_eq_true rfl, rfl, fun _ => rfl⟩
theorem ar_58 : isAr (wdC D cI cM b) cI 58 9 := ⟨Nat.le_of_ble_eq_true rfl, rfl, fun _ => rfl⟩
theorem ob_59 : isOb (wdC D cI cM b) 59 1 (fun r => [.int (r 0), .int (r 1), .int (r 2), .int (r 3), .ref (b + 60), .ref (b + 61)]) := ⟨Nat.le_of_ble_eq_true rfl, fun _ => rfl⟩
theorem ar_60 : isAr (wdC D cI cM b) cI 60 6 := ⟨Nat.le_of_ble_eq_true rfl, rfl, fun _ => rfl⟩
theorem ob_61 : isOb (wdC D cI cM b) 61 7 (fun r => [.ref (b + 62), .ref (b + 63), .ref (b + 64), .int (r 3)]) := ⟨Nat.le_of_ble_eq_true rfl, fun _ => rfl⟩
theorem ar_62 : isAr (wdC D cI cM b) cI 62 9 := ⟨Nat.le_of_ble_eq_true rfl, rfl, fun _ => rfl⟩
theorem ar_63 : isAr (wdC D cI cM b) cI 63 9 := ⟨Nat.le_of_ble_eq_true rfl, rfl, fun _ => rfl⟩
theorem ar_64 : isAr (wdC D cI cM b) cI 64 9 := ⟨Nat.le_of_ble_eq_true rfl, rfl, fun _ => rfl⟩
theorem ob_65 : isOb (wdC D cI cM b) 65 1 (fun r => [.int (r 0), .int (r 1), .int (r 2), .int (r 3), .ref (b + 66), .ref (b + 67)]) := ⟨Nat.le_of_ble_eq_true rfl, fun _ => rfl⟩
theorem ar_66 : isAr (wdC D cI cM b) cI 66 6 := ⟨Nat.le_of_ble_eq_true rfl, rfl, fun _ => rfl⟩
theorem ob_67 : isOb (wdC D cI cM b) 67 7 (fun r => [.ref (b + 68), .ref (b + 69), .ref (b + 70), .int (r 3)]) := ⟨Nat.le_of_ble_eq_true rfl, fun _ => rfl⟩
theorem ar_68 : isAr (wdC D cI cM b) cI 68 9 := ⟨Nat.le_of_ble_eq_true rfl, rfl, fun _ => rfl⟩
theorem ar_69 : isAr (wdC D cI cM b) cI 69 9 := ⟨Nat.le_of_ble_eq_true rfl, rfl, fun _ => rfl⟩
theorem ar_70 : isAr (wdC D cI cM b) cI 70 9 := ⟨Nat.le_of_ble_eq_true rfl, rfl, fun _ => rfl⟩
theorem ob_71 : isOb (wdC D cI cM b) 71 1 (fun r => [.int (r 0), .int (r 1), .int (r 2), .int (r 3), .ref (b + 72), .ref (b + 73)]) := ⟨Nat.le_of_ble_eq_true rfl, fun _ => rfl⟩
theorem ar_72 : isAr (wdC D cI cM b) cI 72 6 := ⟨Nat.le_of_ble_eq_true rfl, rfl, fun _ => rfl⟩
theorem ob_73 : isOb (wdC D cI cM b) 73 7 (fun r => [.ref (b + 74), .ref (b + 75), .ref (b + 76), .int (r 3)]) := ⟨Nat.le_of_ble_eq_true rfl, fun _ => rfl⟩
theorem ar_74 : isAr (wdC D cI cM b) cI 74 9 := ⟨Nat.le_of_ble_eq_true rfl, rfl, fun _ => rfl⟩
theorem ar_75 : isAr (wdC D cI cM b) cI 75 9 := ⟨Nat.le_of_ble_eq_true rfl, rfl, fun _ => rfl⟩
theorem ar_76 : isAr (wdC D cI cM b) cI 76 9 := ⟨Nat.le_of_ble_eq_true rfl, rfl, fun _ => rfl⟩
theorem ob_77 : isOb (wdC D cI cM b) 77 5 (fun r => [.ref (b + 78), .int (r 1), .int (r 2)]) := ⟨Nat.le_of_ble_eq_true rfl, fun _ => rfl⟩
theorem ob_79 : isOb (wdC D cI cM b) 79 1 (fun r => [.int (r 0), .int (r 1), .int (r 2), .int (r 3), .ref (b + 80), .ref (b + 81)]) := ⟨Nat.le_of_ble_eq_true rfl, fun _ => rfl⟩
theorem ar_80 : isAr (wdC D cI cM b) cI 80 6 := ⟨Nat.le_of_ble_eq_true rfl, rfl, fun _ => rfl⟩
theorem ob_81 : isOb (wdC D cI cM b) 81 7 (fun r => [.ref (b + 82), .ref (b + 83), .ref (b + 84), .int (r 3)]) := ⟨Nat.le_of_ble_eq_true rfl, fun _ => rfl⟩
theorem ar_82 : isAr (wdC D cI cM b) cI 82 9 := ⟨Nat.le_of_ble_eq_true rfl, rfl, fun _ => rfl⟩
theorem ar_83 : isAr (wdC D cI cM b) cI 83 9 := ⟨Nat.le_of_ble_eq_true rfl, rfl, fun _ => rfl⟩
theorem ar_84 : isAr (wdC D cI cM b) cI 84 9 := ⟨Nat.le_of_ble_eq_true rfl, rfl, fun _ => rfl⟩
theorem ob_85 : isOb (wdC D cI cM b) 85 1 (fun r => [.int (r 0), .int (r 1), .int (r 2), .int (r 3), .ref (b + 86), .ref (b + 87)]) := ⟨Nat.le_of_ble_eq_true rfl, fun _ => rfl⟩
theorem ar_86 : isAr (wdC D cI cM b) cI 86 6 := ⟨Nat.le_of_ble_eq_true rfl, rfl, fun _ => rfl⟩
theorem ob_87 : isOb (wdC D cI cM b) 87 7 (fun r => [.ref (b + 88), .ref (b + 89), .ref (b + 90), .int (r 3)]) := ⟨Nat.le_of_ble_eq_true rfl, fun _ => rfl⟩
theorem ar_88 : isAr (wdC D cI cM b) cI 88 9 := ⟨Nat.le_of_ble_eq_true rfl, rfl, fun _ => rfl⟩
theorem ar_89 : isAr (wdC D cI cM b) cI 89 9 := ⟨Nat.le_of_ble_eq_true rfl, rfl, fun _ => rfl⟩
theorem ar_90 : isAr (wdC D cI cM b) cI 90 9 := ⟨Nat.le_of_ble_eq_true rfl, rfl, fun _ => rfl⟩
theorem ob_91 : isOb (wdC D cI cM b) 91 6 (fun r => [.ref (b + 92), .ref (b + 93), .int (r 2)]) := ⟨Nat.le_of_ble_eq_true rfl, fun _ => rfl⟩
theorem ar_92 : isAr (wdC D cI cM b) cI 92 8 := ⟨Nat.le_of_ble_eq_true rfl, rfl, fun _ => rfl⟩
theorem ar_93 : isAr (wdC D cI cM b) cI 93 8 := ⟨Nat.le_of_ble_eq_true rfl, rfl, fun _ => rfl⟩
theorem ob_94 : isOb (wdC D cI cM b) 94 2 (fun r => [.ref (b + 12), nrv b (r 1), .int (r 2), .int (r 3), .ref (b + 95), .ref (b + 96), .ref (b + 97)]) := ⟨Nat.le_of_ble_eq_true rfl, fun _ => rfl⟩
theorem ar_95 : isAr (wdC D cI cM b) cI 95 61 := ⟨Nat.le_of_ble_eq_true rfl, rfl, fun _ => rfl⟩
theorem ar_96 : isAr (wdC D cI cM b) cI 96 61 := ⟨Nat.le_of_ble_eq_true rfl, rfl, fun _ => rfl⟩
theorem ar_97 : isAr (wdC D cI cM b) cI 97 366 := ⟨Nat.le_of_ble_eq_true rfl, rfl, fun _ => rfl⟩
theorem ob_98 : isOb (wdC D cI cM b) 98 3 (fun r => [.ref (b + 12), .ref (b + 94), .ref (b + 99), .int (r 3), .int (r 4)]) := ⟨Nat.le_of_ble_eq_true rfl, fun _ => rfl⟩
theorem ar_99 : isAr (wdC D cI cM b) cI 99 6 := ⟨Nat.le_of_ble_eq_true rfl, rfl, fun _ => rfl⟩
theorem ar_100 : isAr (wdC D cI cM b) cI 100 6 := ⟨Nat.le_of_ble_eq_true rfl, rfl, fun _ => rfl⟩
theorem obM_0 : isOb (wdM D cI b) 0 9 (fun r => [.int (r 0), .ref (b + 1), .int (r 2), .ref (b + 2), .ref (b + 3), .int (r 5), .ref (b + 4), .int (r 7), .ref (b + 5), .int (r 9), .ref (b + 6), .ref (b + 7), .int (r 12), .int (r 13), .ref (b + 8), .int (r 15), .ref (b + 9), .int (r 17), .ref (b + 10), .ref (b + 11), .int (r 20), .int (r 21), .ref (b + 12), .ref (b + 13)]) := ⟨Nat.le_of_ble_eq_true rfl, fun _ => rfl⟩
theorem arM_1 : isAr (wdM D cI b) cI 1 18 := ⟨Nat.le_of_ble_eq_true rfl, rfl, fun _ => rfl⟩
theorem arM_2 : isAr (wdM D cI b) cI 2 46 := ⟨Nat.le_of_ble_eq_true rfl, rfl, fun _ => rfl⟩
theorem arM_3 : isAr (wdM D cI b) cI 3 46 := ⟨Nat.le_of_ble_eq_true rfl, rfl, fun _ => rfl⟩
theorem arM_4 : isAr (wdM D cI b) cI 4 368 := ⟨Nat.le_of_ble_eq_true rfl, rfl, fun _ => rfl⟩
theorem arM_5 : isAr (wdM D cI b) cI 5 92 := ⟨Nat.le_of_ble_eq_true rfl, rfl, fun _ => rfl⟩
theorem arM_6 : isAr (wdM D cI b) cI 6 16 := ⟨Nat.le_of_ble_eq_true rfl, rfl, fun _ => rfl⟩
theorem arM_7 : isAr (wdM D cI b) cI 7 200 := ⟨Nat.le_of_ble_eq_true rfl, rfl, fun _ => rfl⟩
theorem arM_8 : isAr (wdM D cI b) cI 8 3 := ⟨Nat.le_of_ble_eq_true rfl, rfl, fun _ => rfl⟩
theorem arM_9 : isAr (wdM D cI b) cI 9 18 := ⟨Nat.le_of_ble_eq_true rfl, rfl, fun _ => rfl⟩
theorem arM_10 : isAr (wdM D cI b) cI 10 46 := ⟨Nat.le_of_ble_eq_true rfl, rfl, fun _ => rfl⟩
theorem arM_11 : isAr (wdM D cI b) cI 11 46 := ⟨Nat.le_of_ble_eq_true rfl, rfl, fun _ => rfl⟩
theorem arM_12 : isAr (wdM D cI b) cI 12 6 := ⟨Nat.le_of_ble_eq_true rfl, rfl, fun _ => rfl⟩
theorem arM_13 : isAr (wdM D cI b) cI 13 6 := ⟨Nat.le_of_ble_eq_true rfl, rfl, fun _ => rfl⟩
theorem isTh_7 : isTh D cI cM b 7 := ⟨Nat.le_of_ble_eq_true rfl, Nat.le_of_ble_eq_true rfl, ob_7, ar_8, ar_9, ar_10⟩
theorem isTh_16 : isTh D cI cM b 16 := ⟨Nat.le_of_ble_eq_true rfl, Nat.le_of_ble_eq_true rfl, ob_16, ar_17, ar_18, ar_19⟩
theorem isTh_23 : isTh D cI cM b 23 := ⟨Nat.le_of_ble_eq_true rfl, Nat.le_of_ble_eq_true rfl, ob_23, ar_24, ar_25, ar_26⟩
theorem isTh_31 : isTh D cI cM b 31 := ⟨Nat.le_of_ble_eq_true rfl, Nat.le_of_ble_eq_true rfl, ob_31, ar_32, ar_33, ar_34⟩
theorem isTh_37 : isTh D cI cM b 37 := ⟨Nat.le_of_ble_eq_true rfl, Nat.le_of_ble_eq_true rfl, ob_37, ar_38, ar_39, ar_40⟩
theorem isTh_43 : isTh D cI cM b 43 := ⟨Nat.le_of_ble_eq_true rfl, Nat.le_of_ble_eq_true rfl, ob_43, ar_44, ar_45, ar_46⟩
theorem isTh_49 : isTh D cI cM b 49 := ⟨Nat.le_of_ble_eq_true rfl, Nat.le_of_ble_eq_true rfl, ob_49, ar_50, ar_51, ar_52⟩
theorem isTh_55 : isTh D cI cM b 55 := ⟨Nat.le_of_ble_eq_true rfl, Nat.le_of_ble_eq_true rfl, ob_55, ar_56, ar_57, ar_58⟩
theorem isTh_61 : isTh D cI cM b 61 := ⟨Nat.le_of_ble_eq_true rfl, Nat.le_of_ble_eq_true rfl, ob_61, ar_62, ar_63, ar_64⟩
theorem isTh_67 : isTh D cI cM b 67 := ⟨Nat.le_of_ble_eq_true rfl, Nat.le_of_ble_eq_true rfl, ob_67, ar_68, ar_69, ar_70⟩
theorem isTh_73 : isTh D cI cM b 73 := ⟨Nat.le_of_ble_eq_true rfl, Nat.le_of_ble_eq_true rfl, ob_73, ar_74, ar_75, ar_76⟩
theorem isTh_81 : isTh D cI cM b 81 := ⟨Nat.le_of_ble_eq_true rfl, Nat.le_of_ble_eq_true rfl, ob_81, ar_82, ar_83, ar_84⟩
theorem isTh_87 : isTh D cI cM b 87 := ⟨Nat.le_of_ble_eq_true rfl, Nat.le_of_ble_eq_true rfl, ob_87, ar_88, ar_89, ar_90⟩
theorem isMo_21 : isMo D cI cM b 21 := ⟨Nat.le_of_ble_eq_true rfl, Nat.le_of_ble_eq_true rfl, ob_21, ar_22, isTh_23⟩
theorem isMo_29 : isMo D cI cM b 29 := ⟨Nat.le_of_ble_eq_true rfl, Nat.le_of_ble_eq_true rfl, ob_29, ar_30, isTh_31⟩
theorem isMo_35 : isMo D cI cM b 35 := ⟨Nat.le_of_ble_eq_true rfl, Nat.le_of_ble_eq_true rfl, ob_35, ar_36, isTh_37⟩
theorem isMo_41 : isMo D cI cM b 41 := ⟨Nat.le_of_ble_eq_true rfl, Nat.le_of_ble_eq_true rfl, ob_41, ar_42, isTh_43⟩
theorem isMo_47 : isMo D cI cM b 47 := ⟨Nat.le_of_ble_eq_true rfl, Nat.le_of_ble_eq_true rfl, ob_47, ar_48, isTh_49⟩
theorem isMo_53 : isMo D cI cM b 53 := ⟨Nat.le_of_ble_eq_true rfl, Nat.le_of_ble_eq_true rfl, ob_53, ar_54, isTh_55⟩
theorem isMo_59 : isMo D cI cM b 59 := ⟨Nat.le_of_ble_eq_true rfl, Nat.le_of_ble_eq_true rfl, ob_59, ar_60, isTh_61⟩
theorem isMo_65 : isMo D cI cM b 65 := ⟨Nat.le_of_ble_eq_true rfl, Nat.le_of_ble_eq_true rfl, ob_65, ar_66, isTh_67⟩
theorem isMo_71 : isMo D cI cM b 71 := ⟨Nat.le_of_ble_eq_true rfl, Nat.le_of_ble_eq_true rfl, ob_71, ar_72, isTh_73⟩
theorem isMo_79 : isMo D cI cM b 79 := ⟨Nat.le_of_ble_eq_true rfl, Nat.le_of_ble_eq_true rfl, ob_79, ar_80, isTh_81⟩
theorem isMo_85 : isMo D cI cM b 85 := ⟨Nat.le_of_ble_eq_true rfl, Nat.le_of_ble_eq_true rfl, ob_85, ar_86, isTh_87⟩
theorem isCo_3 : isCo D cI cM b 3 := ⟨ob_3, ar_4, ar_5, ar_6, isTh_7, ar_11⟩
theorem isCo_12 : isCo D cI cM b 12 := ⟨ob_12, ar_13, ar_14, ar_15, isTh_16, ar_20⟩
theorem isSh_27 : isSh D cI cM b 27 8 := ⟨ob_27, ⟨Nat.le_of_ble_eq_true rfl, fun _ => rfl⟩, Nat.le_of_ble_eq_true rfl⟩
theorem isSh_77 : isSh D cI cM b 77 2 := ⟨ob_77, ⟨Nat.le_of_ble_eq_true rfl, fun _ => rfl⟩, Nat.le_of_ble_eq_true rfl⟩
def mOK (e : Int32) : Bool := [21, 29, 35, 41, 47, 53, 59, 65, 71, 79, 85].contains e.toNatClampNeg
def tOK (e : Int32) : Bool := decide (¬ e = 0) && [16, 23].contains e.toNatClampNeg
theorem mOK_is {e : Int32} (h : mOK e = true) : isMo D cI cM b e.toNatClampNeg := by
  unfold mOK at h
  generalize e.toNatClampNeg = k at h ⊢
  simp only [List.contains_cons, List.contains_nil, Bool.or_eq_true, beq_iff_eq, Bool.false_eq_true, or_false] at h
  rcases h with rfl | rfl | rfl | rfl | rfl | rfl | rfl | rfl | rfl | rfl | rfl
  · exact isMo_21
  · exact isMo_29
  · exact isMo_35
  · exact isMo_41
  · exact isMo_47
  · exact isMo_53
  · exact isMo_59
  · exact isMo_65
  · exact isMo_71
  · exact isMo_79
  · exact isMo_85
theorem tOK_ne {e : Int32} (h : tOK e = true) : ¬ e = 0 := by
  simp only [tOK, Bool.and_eq_true, decide_eq_true_eq] at h
  exact h.1
theorem tOK_is {e : Int32} (h : tOK e = true) : isTh D cI cM b e.toNatClampNeg := by
  simp only [tOK, Bool.and_eq_true] at h
  obtain ⟨-, h⟩ := h
  generalize e.toNatClampNeg = k at h ⊢
  simp only [List.contains_cons, List.contains_nil, Bool.or_eq_true, beq_iff_eq, Bool.false_eq_true, or_false] at h
  rcases h with rfl | rfl
  · exact isTh_16
  · exact isTh_23
end SHAPES
end
section
theorem inT_of (i : Nat) {x : Cond} (h : lw_tbl[i]? = some x) (hg : (goodWord x || nstW x) = true) : inT x := ⟨List.mem_of_getElem? h, hg⟩
theorem inT_all {ws : List Cond} (h : ∀ x ∈ ws, x ∈ lw_tbl) (hg : ws.all (fun x => goodWord x || nstW x) = true) : ∀ x ∈ ws, inT x := fun x hx => ⟨h x hx, List.all_eq_true.mp hg x hx⟩
theorem iuX0 : ∀ x ∈ wsX00, inT x := inT_all inX0 (by decide +kernel)
theorem iuX1 : ∀ x ∈ wsX10, inT x := inT_all inX1 (by decide +kernel)
theorem iuX2 : ∀ x ∈ wsX20, inT x := inT_all inX2 (by decide +kernel)
theorem iuX3 : ∀ x ∈ wsX30, inT x := inT_all inX3 (by decide +kernel)
theorem iuX4 : ∀ x ∈ wsX40, inT x := inT_all inX4 (by decide +kernel)
theorem iuX5 : ∀ x ∈ wsX50, inT x := inT_all inX5 (by decide +kernel)
theorem iuX6 : ∀ x ∈ wsX60, inT x := inT_all inX6 (by decide +kernel)
theorem iuX7 : ∀ x ∈ wsX70, inT x := inT_all inX7 (by decide +kernel)
theorem iuX8 : ∀ x ∈ wsX80, inT x := inT_all inX8 (by decide +kernel)
theorem iuX9 : ∀ x ∈ wsX90, inT x := inT_all inX9 (by decide +kernel)
theorem fl_X8_10 : FL RX8 10 8 0 true (.object "BoredKings$Script") := ⟨_, _, _, tyX8, rfl, Nat.le_of_ble_eq_true rfl, iuX8, tyX8_ok, nmX8, Or.inl (inT_of 407 (by decide +kernel) (by decide +kernel)), rfl, by decide +kernel⟩
theorem fl_X8_19 : FL RX8 19 8 1 true (.object "BoredKings$Court") := ⟨_, _, _, tyX8, rfl, Nat.le_of_ble_eq_true rfl, iuX8, tyX8_ok, nmX8, Or.inl (inT_of 408 (by decide +kernel) (by decide +kernel)), rfl, by decide +kernel⟩
theorem fl_X8_23 : FL RX8 23 8 2 true (.object "BoredKings$Court") := ⟨_, _, _, tyX8, rfl, Nat.le_of_ble_eq_true rfl, iuX8, tyX8_ok, nmX8, Or.inl (inT_of 409 (by decide +kernel) (by decide +kernel)), rfl, by decide +kernel⟩
theorem fl_X8_29 : FL RX8 29 8 3 true (.object "BoredKings$Moment") := ⟨_, _, _, tyX8, rfl, Nat.le_of_ble_eq_true rfl, iuX8, tyX8_ok, nmX8, Or.inl (inT_of 410 (by decide +kernel) (by decide +kernel)), rfl, by decide +kernel⟩
theorem fl_X8_38 : FL RX8 38 8 4 true (.object "BoredKings$Shelf") := ⟨_, _, _, tyX8, rfl, Nat.le_of_ble_eq_true rfl, iuX8, tyX8_ok, nmX8, Or.inl (inT_of 411 (by decide +kernel) (by decide +kernel)), rfl, by decide +kernel⟩
theorem fl_X8_42 : FL RX8 42 8 5 true (.object "BoredKings$Shelf") := ⟨_, _, _, tyX8, rfl, Nat.le_of_ble_eq_true rfl, iuX8, tyX8_ok, nmX8, Or.inl (inT_of 412 (by decide +kernel) (by decide +kernel)), rfl, by decide +kernel⟩
theorem fl_X8_48 : FL RX8 48 8 6 true (.object "BoredKings$Sightings") := ⟨_, _, _, tyX8, rfl, Nat.le_of_ble_eq_true rfl, iuX8, tyX8_ok, nmX8, Or.inl (inT_of 413 (by decide +kernel) (by decide +kernel)), rfl, by decide +kernel⟩
theorem fl_X8_57 : FL RX8 57 8 7 true (.object "BoredKings$Outlook") := ⟨_, _, _, tyX8, rfl, Nat.le_of_ble_eq_true rfl, iuX8, tyX8_ok, nmX8, Or.inl (inT_of 414 (by decide +kernel) (by decide +kernel)), rfl, by decide +kernel⟩
theorem fl_X8_66 : FL RX8 66 8 8 true (.object "BoredKings$Reign") := ⟨_, _, _, tyX8, rfl, Nat.le_of_ble_eq_true rfl, iuX8, tyX8_ok, nmX8, Or.inl (inT_of 415 (by decide +kernel) (by decide +kernel)), rfl, by decide +kernel⟩
theorem fl_X8_70 : FL RX8 70 8 9 true (.array .int) := ⟨_, _, _, tyX8, rfl, Nat.le_of_ble_eq_true rfl, iuX8, tyX8_ok, nmX8, Or.inl (inT_of 416 (by decide +kernel) (by decide +kernel)), rfl, by decide +kernel⟩
theorem fl_X8_100 : FL RX8 100 4 1 false .int := ⟨_, _, _, tyX4, rfl, Nat.le_of_ble_eq_true rfl, iuX4, tyX4_ok, nmX4, Or.inr ⟨"BoredKings", (inT_of 79 (by decide +kernel) (by decide +kernel))⟩, rfl, by decide +kernel⟩
theorem fl_X8_103 : FL RX8 103 0 3 false .int := ⟨_, _, _, tyX0, rfl, Nat.le_of_ble_eq_true rfl, iuX0, tyX0_ok, nmX0, Or.inr ⟨"BoredKings", (inT_of 130 (by decide +kernel) (by decide +kernel))⟩, rfl, by decide +kernel⟩
theorem fl_X8_111 : FL RX8 111 0 0 true (.array .int) := ⟨_, _, _, tyX0, rfl, Nat.le_of_ble_eq_true rfl, iuX0, tyX0_ok, nmX0, Or.inr ⟨"BoredKings", (inT_of 122 (by decide +kernel) (by decide +kernel))⟩, rfl, by decide +kernel⟩
theorem fl_X8_114 : FL RX8 114 0 1 true (.array .int) := ⟨_, _, _, tyX0, rfl, Nat.le_of_ble_eq_true rfl, iuX0, tyX0_ok, nmX0, Or.inr ⟨"BoredKings", (inT_of 125 (by decide +kernel) (by decide +kernel))⟩, rfl, by decide +kernel⟩
theorem fl_X8_117 : FL RX8 117 0 2 true (.array .int) := ⟨_, _, _, tyX0, rfl, Nat.le_of_ble_eq_true rfl, iuX0, tyX0_ok, nmX0, Or.inr ⟨"BoredKings", (inT_of 127 (by decide +kernel) (by decide +kernel))⟩, rfl, by decide +kernel⟩
theorem fl_X8_124 : FL RX8 124 1 4 true (.array .int) := ⟨_, _, _, tyX1, rfl, Nat.le_of_ble_eq_true rfl, iuX1, tyX1_ok, nmX1, Or.inr ⟨"BoredKings", (inT_of 172 (by decide +kernel) (by decide +kernel))⟩, rfl, by decide +kernel⟩
theorem fl_X8_130 : FL RX8 130 1 5 true (.object "BoredKings$Things") := ⟨_, _, _, tyX1, rfl, Nat.le_of_ble_eq_true rfl, iuX1, tyX1_ok, nmX1, Or.inr ⟨"BoredKings", (inT_of 174 (by decide +kernel) (by decide +kernel))⟩, rfl, by decide +kernel⟩
theorem fl_X8_134 : FL RX8 134 7 0 true (.array .int) := ⟨_, _, _, tyX7, rfl, Nat.le_of_ble_eq_true rfl, iuX7, tyX7_ok, nmX7, Or.inr ⟨"BoredKings", (inT_of 101 (by decide +kernel) (by decide +kernel))⟩, rfl, by decide +kernel⟩
theorem fl_X8_139 : FL RX8 139 7 1 true (.array .int) := ⟨_, _, _, tyX7, rfl, Nat.le_of_ble_eq_true rfl, iuX7, tyX7_ok, nmX7, Or.inr ⟨"BoredKings", (inT_of 104 (by decide +kernel) (by decide +kernel))⟩, rfl, by decide +kernel⟩
theorem fl_X8_142 : FL RX8 142 7 2 true (.array .int) := ⟨_, _, _, tyX7, rfl, Nat.le_of_ble_eq_true rfl, iuX7, tyX7_ok, nmX7, Or.inr ⟨"BoredKings", (inT_of 107 (by decide +kernel) (by decide +kernel))⟩, rfl, by decide +kernel⟩
theorem fl_X8_148 : FL RX8 148 1 0 false .int := ⟨_, _, _, tyX1, rfl, Nat.le_of_ble_eq_true rfl, iuX1, tyX1_ok, nmX1, Or.inr ⟨"BoredKings", (inT_of 162 (by decide +kernel) (by decide +kernel))⟩, rfl, by decide +kernel⟩
theorem fl_X8_169 : FL RX8 169 1 1 false .int := ⟨_, _, _, tyX1, rfl, Nat.le_of_ble_eq_true rfl, iuX1, tyX1_ok, nmX1, Or.inr ⟨"BoredKings", (inT_of 165 (by decide +kernel) (by decide +kernel))⟩, rfl, by decide +kernel⟩
theorem fl_X8_172 : FL RX8 172 3 4 false .int := ⟨_, _, _, tyX3, rfl, Nat.le_of_ble_eq_true rfl, iuX3, tyX3_ok, nmX3, Or.inr ⟨"BoredKings", (inT_of 267 (by decide +kernel) (by decide +kernel))⟩, rfl, by decide +kernel⟩
theorem fl_X8_175 : FL RX8 175 1 2 false .int := ⟨_, _, _, tyX1, rfl, Nat.le_of_ble_eq_true rfl, iuX1, tyX1_ok, nmX1, Or.inr ⟨"BoredKings", (inT_of 168 (by decide +kernel) (by decide +kernel))⟩, rfl, by decide +kernel⟩
theorem fl_X8_176 : FL RX8 176 1 3 false .int := ⟨_, _, _, tyX1, rfl, Nat.le_of_ble_eq_true rfl, iuX1, tyX1_ok, nmX1, Or.inr ⟨"BoredKings", (inT_of 170 (by decide +kernel) (by decide +kernel))⟩, rfl, by decide +kernel⟩
theorem fl_X8_185 : FL RX8 185 7 3 false .int := ⟨_, _, _, tyX7, rfl, Nat.le_of_ble_eq_true rfl, iuX7, tyX7_ok, nmX7, Or.inr ⟨"BoredKings", (inT_of 110 (by decide +kernel) (by decide +kernel))⟩, rfl, by decide +kernel⟩
theorem fl_X8_196 : FL RX8 196 5 2 false .int := ⟨_, _, _, tyX5, rfl, Nat.le_of_ble_eq_true rfl, iuX5, tyX5_ok, nmX5, Or.inr ⟨"BoredKings", (inT_of 203 (by decide +kernel) (by decide +kernel))⟩, rfl, by decide +kernel⟩
theorem fl_X8_250 : FL RX8 250 6 2 false .int := ⟨_, _, _, tyX6, rfl, Nat.le_of_ble_eq_true rfl, iuX6, tyX6_ok, nmX6, Or.inr ⟨"BoredKings", (inT_of 220 (by decide +kernel) (by decide +kernel))⟩, rfl, by decide +kernel⟩
theorem fl_X8_251 : FL RX8 251 0 4 true (.object "BoredKings$Things") := ⟨_, _, _, tyX0, rfl, Nat.le_of_ble_eq_true rfl, iuX0, tyX0_ok, nmX0, Or.inr ⟨"BoredKings", (inT_of 134 (by decide +kernel) (by decide +kernel))⟩, rfl, by decide +kernel⟩
theorem fl_X8_284 : FL RX8 284 0 5 false .int := ⟨_, _, _, tyX0, rfl, Nat.le_of_ble_eq_true rfl, iuX0, tyX0_ok, nmX0, Or.inr ⟨"BoredKings", (inT_of 136 (by decide +kernel) (by decide +kernel))⟩, rfl, by decide +kernel⟩
theorem fl_X0_9 : FL RX0 9 0 0 true (.array .int) := ⟨_, _, _, tyX0, rfl, Nat.le_of_ble_eq_true rfl, iuX0, tyX0_ok, nmX0, Or.inl (inT_of 120 (by decide +kernel) (by decide +kernel)), rfl, by decide +kernel⟩
theorem fl_X0_15 : FL RX0 15 0 1 true (.array .int) := ⟨_, _, _, tyX0, rfl, Nat.le_of_ble_eq_true rfl, iuX0, tyX0_ok, nmX0, Or.inl (inT_of 123 (by decide +kernel) (by decide +kernel)), rfl, by decide +kernel⟩
theorem fl_X0_18 : FL RX0 18 0 2 true (.array .int) := ⟨_, _, _, tyX0, rfl, Nat.le_of_ble_eq_true rfl, iuX0, tyX0_ok, nmX0, Or.inl (inT_of 126 (by decide +kernel) (by decide +kernel)), rfl, by decide +kernel⟩
theorem fl_X0_24 : FL RX0 24 0 4 true (.object "BoredKings$Things") := ⟨_, _, _, tyX0, rfl, Nat.le_of_ble_eq_true rfl, iuX0, tyX0_ok, nmX0, Or.inl (inT_of 132 (by decide +kernel) (by decide +kernel)), rfl, by decide +kernel⟩
theorem fl_X0_28 : FL RX0 28 0 5 false .int := ⟨_, _, _, tyX0, rfl, Nat.le_of_ble_eq_true rfl, iuX0, tyX0_ok, nmX0, Or.inl (inT_of 135 (by decide +kernel) (by decide +kernel)), rfl, by decide +kernel⟩
theorem fl_X0_32 : FL RX0 32 0 6 true (.array .int) := ⟨_, _, _, tyX0, rfl, Nat.le_of_ble_eq_true rfl, iuX0, tyX0_ok, nmX0, Or.inl (inT_of 137 (by decide +kernel) (by decide +kernel)), rfl, by decide +kernel⟩
theorem fl_X0_35 : FL RX0 35 0 3 false .int := ⟨_, _, _, tyX0, rfl, Nat.le_of_ble_eq_true rfl, iuX0, tyX0_ok, nmX0, Or.inl (inT_of 128 (by decide +kernel) (by decide +kernel)), rfl, by decide +kernel⟩
theorem fl_X0_41 : FL RX0 41 4 1 false .int := ⟨_, _, _, tyX4, rfl, Nat.le_of_ble_eq_true rfl, iuX4, tyX4_ok, nmX4, Or.inr ⟨"BoredKings", (inT_of 80 (by decide +kernel) (by decide +kernel))⟩, rfl, by decide +kernel⟩
theorem fl_X1_9 : FL RX1 9 1 4 true (.array .int) := ⟨_, _, _, tyX1, rfl, Nat.le_of_ble_eq_true rfl, iuX1, tyX1_ok, nmX1, Or.inl (inT_of 171 (by decide +kernel) (by decide +kernel)), rfl, by decide +kernel⟩
theorem fl_X1_18 : FL RX1 18 1 5 true (.object "BoredKings$Things") := ⟨_, _, _, tyX1, rfl, Nat.le_of_ble_eq_true rfl, iuX1, tyX1_ok, nmX1, Or.inl (inT_of 173 (by decide +kernel) (by decide +kernel)), rfl, by decide +kernel⟩
theorem fl_X1_22 : FL RX1 22 1 0 false .int := ⟨_, _, _, tyX1, rfl, Nat.le_of_ble_eq_true rfl, iuX1, tyX1_ok, nmX1, Or.inl (inT_of 161 (by decide +kernel) (by decide +kernel)), rfl, by decide +kernel⟩
theorem fl_X1_26 : FL RX1 26 1 1 false .int := ⟨_, _, _, tyX1, rfl, Nat.le_of_ble_eq_true rfl, iuX1, tyX1_ok, nmX1, Or.inl (inT_of 164 (by decide +kernel) (by decide +kernel)), rfl, by decide +kernel⟩
theorem fl_X1_29 : FL RX1 29 1 2 false .int := ⟨_, _, _, tyX1, rfl, Nat.le_of_ble_eq_true rfl, iuX1, tyX1_ok, nmX1, Or.inl (inT_of 166 (by decide +kernel) (by decide +kernel)), rfl, by decide +kernel⟩
theorem fl_X1_32 : FL RX1 32 1 3 false .int := ⟨_, _, _, tyX1, rfl, Nat.le_of_ble_eq_true rfl, iuX1, tyX1_ok, nmX1, Or.inl (inT_of 169 (by decide +kernel) (by decide +kernel)), rfl, by decide +kernel⟩
theorem fl_X1_41 : FL RX1 41 0 4 true (.object "BoredKings$Things") := ⟨_, _, _, tyX0, rfl, Nat.le_of_ble_eq_true rfl, iuX0, tyX0_ok, nmX0, Or.inr ⟨"BoredKings", (inT_of 133 (by decide +kernel) (by decide +kernel))⟩, rfl, by decide +kernel⟩
theorem fl_X2_9 : FL RX2 9 2 4 true (.array .int) := ⟨_, _, _, tyX2, rfl, Nat.le_of_ble_eq_true rfl, iuX2, tyX2_ok, nmX2, Or.inl (inT_of 238 (by decide +kernel) (by decide +kernel)), rfl, by decide +kernel⟩
theorem fl_X2_15 : FL RX2 15 2 5 true (.array .int) := ⟨_, _, _, tyX2, rfl, Nat.le_of_ble_eq_true rfl, iuX2, tyX2_ok, nmX2, Or.inl (inT_of 239 (by decide +kernel) (by decide +kernel)), rfl, by decide +kernel⟩
theorem fl_X2_18 : FL RX2 18 2 6 true (.array .int) := ⟨_, _, _, tyX2, rfl, Nat.le_of_ble_eq_true rfl, iuX2, tyX2_ok, nmX2, Or.inl (inT_of 240 (by decide +kernel) (by decide +kernel)), rfl, by decide +kernel⟩
theorem fl_X2_21 : FL RX2 21 2 0 true (.object "BoredKings$Court") := ⟨_, _, _, tyX2, rfl, Nat.le_of_ble_eq_true rfl, iuX2, tyX2_ok, nmX2, Or.inl (inT_of 234 (by decide +kernel) (by decide +kernel)), rfl, by decide +kernel⟩
theorem fl_X2_25 : FL RX2 25 2 1 false (.object "BoredKings$Things") := ⟨_, _, _, tyX2, rfl, Nat.le_of_ble_eq_true rfl, iuX2, tyX2_ok, nmX2, Or.inl (inT_of 235 (by decide +kernel) (by decide +kernel)), rfl, by decide +kernel⟩
theorem fl_X2_29 : FL RX2 29 2 2 false .int := ⟨_, _, _, tyX2, rfl, Nat.le_of_ble_eq_true rfl, iuX2, tyX2_ok, nmX2, Or.inl (inT_of 236 (by decide +kernel) (by decide +kernel)), rfl, by decide +kernel⟩
theorem fl_X2_39 : FL RX2 39 2 3 false .int := ⟨_, _, _, tyX2, rfl, Nat.le_of_ble_eq_true rfl, iuX2, tyX2_ok, nmX2, Or.inl (inT_of 237 (by decide +kernel) (by decide +kernel)), rfl, by decide +kernel⟩
theorem fl_X2_48 : FL RX2 48 7 3 false .int := ⟨_, _, _, tyX7, rfl, Nat.le_of_ble_eq_true rfl, iuX7, tyX7_ok, nmX7, Or.inr ⟨"BoredKings", (inT_of 109 (by decide +kernel) (by decide +kernel))⟩, rfl, by decide +kernel⟩
theorem fl_X2_53 : FL RX2 53 7 0 true (.array .int) := ⟨_, _, _, tyX7, rfl, Nat.le_of_ble_eq_true rfl, iuX7, tyX7_ok, nmX7, Or.inr ⟨"BoredKings", (inT_of 100 (by decide +kernel) (by decide +kernel))⟩, rfl, by decide +kernel⟩
theorem fl_X2_60 : FL RX2 60 7 1 true (.array .int) := ⟨_, _, _, tyX7, rfl, Nat.le_of_ble_eq_true rfl, iuX7, tyX7_ok, nmX7, Or.inr ⟨"BoredKings", (inT_of 103 (by decide +kernel) (by decide +kernel))⟩, rfl, by decide +kernel⟩
theorem fl_X2_63 : FL RX2 63 0 3 false .int := ⟨_, _, _, tyX0, rfl, Nat.le_of_ble_eq_true rfl, iuX0, tyX0_ok, nmX0, Or.inr ⟨"BoredKings", (inT_of 129 (by decide +kernel) (by decide +kernel))⟩, rfl, by decide +kernel⟩
theorem fl_X2_68 : FL RX2 68 0 1 true (.array .int) := ⟨_, _, _, tyX0, rfl, Nat.le_of_ble_eq_true rfl, iuX0, tyX0_ok, nmX0, Or.inr ⟨"BoredKings", (inT_of 124 (by decide +kernel) (by decide +kernel))⟩, rfl, by decide +kernel⟩
theorem fl_X2_78 : FL RX2 78 0 0 true (.array .int) := ⟨_, _, _, tyX0, rfl, Nat.le_of_ble_eq_true rfl, iuX0, tyX0_ok, nmX0, Or.inr ⟨"BoredKings", (inT_of 121 (by decide +kernel) (by decide +kernel))⟩, rfl, by decide +kernel⟩
theorem fl_X2_85 : FL RX2 85 7 2 true (.array .int) := ⟨_, _, _, tyX7, rfl, Nat.le_of_ble_eq_true rfl, iuX7, tyX7_ok, nmX7, Or.inr ⟨"BoredKings", (inT_of 106 (by decide +kernel) (by decide +kernel))⟩, rfl, by decide +kernel⟩
theorem fl_X3_9 : FL RX3 9 3 2 true (.array .int) := ⟨_, _, _, tyX3, rfl, Nat.le_of_ble_eq_true rfl, iuX3, tyX3_ok, nmX3, Or.inl (inT_of 264 (by decide +kernel) (by decide +kernel)), rfl, by decide +kernel⟩
theorem fl_X3_15 : FL RX3 15 3 0 true (.object "BoredKings$Court") := ⟨_, _, _, tyX3, rfl, Nat.le_of_ble_eq_true rfl, iuX3, tyX3_ok, nmX3, Or.inl (inT_of 262 (by decide +kernel) (by decide +kernel)), rfl, by decide +kernel⟩
theorem fl_X3_19 : FL RX3 19 3 1 true (.object "BoredKings$Outlook") := ⟨_, _, _, tyX3, rfl, Nat.le_of_ble_eq_true rfl, iuX3, tyX3_ok, nmX3, Or.inl (inT_of 263 (by decide +kernel) (by decide +kernel)), rfl, by decide +kernel⟩
theorem fl_X3_26 : FL RX3 26 1 1 false .int := ⟨_, _, _, tyX1, rfl, Nat.le_of_ble_eq_true rfl, iuX1, tyX1_ok, nmX1, Or.inr ⟨"BoredKings", (inT_of 163 (by decide +kernel) (by decide +kernel))⟩, rfl, by decide +kernel⟩
theorem fl_X3_32 : FL RX3 32 3 3 false .int := ⟨_, _, _, tyX3, rfl, Nat.le_of_ble_eq_true rfl, iuX3, tyX3_ok, nmX3, Or.inl (inT_of 265 (by decide +kernel) (by decide +kernel)), rfl, by decide +kernel⟩
theorem fl_X3_35 : FL RX3 35 1 2 false .int := ⟨_, _, _, tyX1, rfl, Nat.le_of_ble_eq_true rfl, iuX1, tyX1_ok, nmX1, Or.inr ⟨"BoredKings", (inT_of 167 (by decide +kernel) (by decide +kernel))⟩, rfl, by decide +kernel⟩
theorem fl_X3_38 : FL RX3 38 3 4 false .int := ⟨_, _, _, tyX3, rfl, Nat.le_of_ble_eq_true rfl, iuX3, tyX3_ok, nmX3, Or.inl (inT_of 266 (by decide +kernel) (by decide +kernel)), rfl, by decide +kernel⟩
theorem fl_X3_58 : FL RX3 58 0 3 false .int := ⟨_, _, _, tyX0, rfl, Nat.le_of_ble_eq_true rfl, iuX0, tyX0_ok, nmX0, Or.inr ⟨"BoredKings", (inT_of 131 (by decide +kernel) (by decide +kernel))⟩, rfl, by decide +kernel⟩
theorem fl_X4_9 : FL RX4 9 4 0 true (.array .int) := ⟨_, _, _, tyX4, rfl, Nat.le_of_ble_eq_true rfl, iuX4, tyX4_ok, nmX4, Or.inl (inT_of 77 (by decide +kernel) (by decide +kernel)), rfl, by decide +kernel⟩
theorem fl_X4_15 : FL RX4 15 4 1 false .int := ⟨_, _, _, tyX4, rfl, Nat.le_of_ble_eq_true rfl, iuX4, tyX4_ok, nmX4, Or.inl (inT_of 78 (by decide +kernel) (by decide +kernel)), rfl, by decide +kernel⟩
theorem fl_X5_15 : FL RX5 15 5 0 true (.array (.object "BoredKings$Moment")) := ⟨_, _, _, tyX5, rfl, Nat.le_of_ble_eq_true rfl, iuX5, tyX5_ok, nmX5, Or.inl (inT_of 200 (by decide +kernel) (by decide +kernel)), rfl, by decide +kernel⟩
theorem fl_X5_22 : FL RX5 22 5 1 false .int := ⟨_, _, _, tyX5, rfl, Nat.le_of_ble_eq_true rfl, iuX5, tyX5_ok, nmX5, Or.inl (inT_of 201 (by decide +kernel) (by decide +kernel)), rfl, by decide +kernel⟩
theorem fl_X5_26 : FL RX5 26 5 2 false .int := ⟨_, _, _, tyX5, rfl, Nat.le_of_ble_eq_true rfl, iuX5, tyX5_ok, nmX5, Or.inl (inT_of 202 (by decide +kernel) (by decide +kernel)), rfl, by decide +kernel⟩
theorem fl_X6_9 : FL RX6 9 6 0 true (.array .int) := ⟨_, _, _, tyX6, rfl, Nat.le_of_ble_eq_true rfl, iuX6, tyX6_ok, nmX6, Or.inl (inT_of 217 (by decide +kernel) (by decide +kernel)), rfl, by decide +kernel⟩
theorem fl_X6_15 : FL RX6 15 6 1 true (.array .int) := ⟨_, _, _, tyX6, rfl, Nat.le_of_ble_eq_true rfl, iuX6, tyX6_ok, nmX6, Or.inl (inT_of 218 (by decide +kernel) (by decide +kernel)), rfl, by decide +kernel⟩
theorem fl_X6_18 : FL RX6 18 6 2 false .int := ⟨_, _, _, tyX6, rfl, Nat.le_of_ble_eq_true rfl, iuX6, tyX6_ok, nmX6, Or.inl (inT_of 219 (by decide +kernel) (by decide +kernel)), rfl, by decide +kernel⟩
theorem fl_X7_9 : FL RX7 9 7 0 true (.array .int) := ⟨_, _, _, tyX7, rfl, Nat.le_of_ble_eq_true rfl, iuX7, tyX7_ok, nmX7, Or.inl (inT_of 99 (by decide +kernel) (by decide +kernel)), rfl, by decide +kernel⟩
theorem fl_X7_15 : FL RX7 15 7 1 true (.array .int) := ⟨_, _, _, tyX7, rfl, Nat.le_of_ble_eq_true rfl, iuX7, tyX7_ok, nmX7, Or.inl (inT_of 102 (by decide +kernel) (by decide +kernel)), rfl, by decide +kernel⟩
theorem fl_X7_18 : FL RX7 18 7 2 true (.array .int) := ⟨_, _, _, tyX7, rfl, Nat.le_of_ble_eq_true rfl, iuX7, tyX7_ok, nmX7, Or.inl (inT_of 105 (by decide +kernel) (by decide +kernel)), rfl, by decide +kernel⟩
theorem fl_X7_21 : FL RX7 21 7 3 false .int := ⟨_, _, _, tyX7, rfl, Nat.le_of_ble_eq_true rfl, iuX7, tyX7_ok, nmX7, Or.inl (inT_of 108 (by decide +kernel) (by decide +kernel)), rfl, by decide +kernel⟩
theorem fl_X9_7 : FL RX9 7 9 1 true (.array .int) := ⟨_, _, _, tyX9, rfl, Nat.le_of_ble_eq_true rfl, iuX9, tyX9_ok, nmX9, Or.inl (inT_of 805 (by decide +kernel) (by decide +kernel)), rfl, by decide +kernel⟩
theorem fl_X9_13 : FL RX9 13 9 3 true (.array .int) := ⟨_, _, _, tyX9, rfl, Nat.le_of_ble_eq_true rfl, iuX9, tyX9_ok, nmX9, Or.inl (inT_of 807 (by decide +kernel) (by decide +kernel)), rfl, by decide +kernel⟩
theorem fl_X9_16 : FL RX9 16 9 4 true (.array .int) := ⟨_, _, _, tyX9, rfl, Nat.le_of_ble_eq_true rfl, iuX9, tyX9_ok, nmX9, Or.inl (inT_of 808 (by decide +kernel) (by decide +kernel)), rfl, by decide +kernel⟩
theorem fl_X9_19 : FL RX9 19 9 6 true (.array .int) := ⟨_, _, _, tyX9, rfl, Nat.le_of_ble_eq_true rfl, iuX9, tyX9_ok, nmX9, Or.inl (inT_of 810 (by decide +kernel) (by decide +kernel)), rfl, by decide +kernel⟩
theorem fl_X9_22 : FL RX9 22 9 8 true (.array .int) := ⟨_, _, _, tyX9, rfl, Nat.le_of_ble_eq_true rfl, iuX9, tyX9_ok, nmX9, Or.inl (inT_of 812 (by decide +kernel) (by decide +kernel)), rfl, by decide +kernel⟩
theorem fl_X9_25 : FL RX9 25 9 10 true (.array .int) := ⟨_, _, _, tyX9, rfl, Nat.le_of_ble_eq_true rfl, iuX9, tyX9_ok, nmX9, Or.inl (inT_of 814 (by decide +kernel) (by decide +kernel)), rfl, by decide +kernel⟩
theorem fl_X9_28 : FL RX9 28 9 11 true (.array .int) := ⟨_, _, _, tyX9, rfl, Nat.le_of_ble_eq_true rfl, iuX9, tyX9_ok, nmX9, Or.inl (inT_of 815 (by decide +kernel) (by decide +kernel)), rfl, by decide +kernel⟩
theorem fl_X9_31 : FL RX9 31 9 14 true (.array .int) := ⟨_, _, _, tyX9, rfl, Nat.le_of_ble_eq_true rfl, iuX9, tyX9_ok, nmX9, Or.inl (inT_of 818 (by decide +kernel) (by decide +kernel)), rfl, by decide +kernel⟩
theorem fl_X9_34 : FL RX9 34 9 16 true (.array .int) := ⟨_, _, _, tyX9, rfl, Nat.le_of_ble_eq_true rfl, iuX9, tyX9_ok, nmX9, Or.inl (inT_of 820 (by decide +kernel) (by decide +kernel)), rfl, by decide +kernel⟩
theorem fl_X9_37 : FL RX9 37 9 18 true (.array .int) := ⟨_, _, _, tyX9, rfl, Nat.le_of_ble_eq_true rfl, iuX9, tyX9_ok, nmX9, Or.inl (inT_of 822 (by decide +kernel) (by decide +kernel)), rfl, by decide +kernel⟩
theorem fl_X9_40 : FL RX9 40 9 19 true (.array .int) := ⟨_, _, _, tyX9, rfl, Nat.le_of_ble_eq_true rfl, iuX9, tyX9_ok, nmX9, Or.inl (inT_of 823 (by decide +kernel) (by decide +kernel)), rfl, by decide +kernel⟩
theorem fl_X9_43 : FL RX9 43 9 22 true (.array .int) := ⟨_, _, _, tyX9, rfl, Nat.le_of_ble_eq_true rfl, iuX9, tyX9_ok, nmX9, Or.inl (inT_of 826 (by decide +kernel) (by decide +kernel)), rfl, by decide +kernel⟩
theorem fl_X9_46 : FL RX9 46 9 23 true (.array .int) := ⟨_, _, _, tyX9, rfl, Nat.le_of_ble_eq_true rfl, iuX9, tyX9_ok, nmX9, Or.inl (inT_of 827 (by decide +kernel) (by decide +kernel)), rfl, by decide +kernel⟩
theorem fl_X9_63 : FL RX9 63 9 15 false .int := ⟨_, _, _, tyX9, rfl, Nat.le_of_ble_eq_true rfl, iuX9, tyX9_ok, nmX9, Or.inl (inT_of 819 (by decide +kernel) (by decide +kernel)), rfl, by decide +kernel⟩
theorem fl_X9_67 : FL RX9 67 9 0 false .int := ⟨_, _, _, tyX9, rfl, Nat.le_of_ble_eq_true rfl, iuX9, tyX9_ok, nmX9, Or.inl (inT_of 804 (by decide +kernel) (by decide +kernel)), rfl, by decide +kernel⟩
theorem fl_X9_74 : FL RX9 74 9 12 false .int := ⟨_, _, _, tyX9, rfl, Nat.le_of_ble_eq_true rfl, iuX9, tyX9_ok, nmX9, Or.inl (inT_of 816 (by decide +kernel) (by decide +kernel)), rfl, by decide +kernel⟩
theorem fl_X9_77 : FL RX9 77 9 13 false .int := ⟨_, _, _, tyX9, rfl, Nat.le_of_ble_eq_true rfl, iuX9, tyX9_ok, nmX9, Or.inl (inT_of 817 (by decide +kernel) (by decide +kernel)), rfl, by decide +kernel⟩
theorem fl_X9_88 : FL RX9 88 9 17 false .int := ⟨_, _, _, tyX9, rfl, Nat.le_of_ble_eq_true rfl, iuX9, tyX9_ok, nmX9, Or.inl (inT_of 821 (by decide +kernel) (by decide +kernel)), rfl, by decide +kernel⟩
theorem fl_X9_114 : FL RX9 114 9 2 false .int := ⟨_, _, _, tyX9, rfl, Nat.le_of_ble_eq_true rfl, iuX9, tyX9_ok, nmX9, Or.inl (inT_of 806 (by decide +kernel) (by decide +kernel)), rfl, by decide +kernel⟩
theorem fl_X9_121 : FL RX9 121 9 5 false .int := ⟨_, _, _, tyX9, rfl, Nat.le_of_ble_eq_true rfl, iuX9, tyX9_ok, nmX9, Or.inl (inT_of 809 (by decide +kernel) (by decide +kernel)), rfl, by decide +kernel⟩
theorem fl_X9_124 : FL RX9 124 9 7 false .int := ⟨_, _, _, tyX9, rfl, Nat.le_of_ble_eq_true rfl, iuX9, tyX9_ok, nmX9, Or.inl (inT_of 811 (by decide +kernel) (by decide +kernel)), rfl, by decide +kernel⟩
theorem fl_X9_127 : FL RX9 127 9 9 false .int := ⟨_, _, _, tyX9, rfl, Nat.le_of_ble_eq_true rfl, iuX9, tyX9_ok, nmX9, Or.inl (inT_of 813 (by decide +kernel) (by decide +kernel)), rfl, by decide +kernel⟩
theorem fl_X9_130 : FL RX9 130 9 21 false .int := ⟨_, _, _, tyX9, rfl, Nat.le_of_ble_eq_true rfl, iuX9, tyX9_ok, nmX9, Or.inl (inT_of 825 (by decide +kernel) (by decide +kernel)), rfl, by decide +kernel⟩
theorem fl_X9_144 : FL RX9 144 9 20 false .int := ⟨_, _, _, tyX9, rfl, Nat.le_of_ble_eq_true rfl, iuX9, tyX9_ok, nmX9, Or.inl (inT_of 824 (by decide +kernel) (by decide +kernel)), rfl, by decide +kernel⟩
theorem mb_X7_clear : MLb yX7_clear cX7_clear 1 none 0 := ⟨(inT_of 339 (by decide +kernel) (by decide +kernel)), by decide +kernel, (inT_of 48 (by decide +kernel) (by decide +kernel)), by decide +kernel, by decide +kernel, by decide +kernel⟩
theorem ml_X0_38 : MLV RX0 38 yX7_clear cX7_clear 1 none 0 := ⟨mb_X7_clear, Or.inl (inT_of 336 (by decide +kernel) (by decide +kernel)), (inT_of 337 (by decide +kernel) (by decide +kernel)), (inT_of 338 (by decide +kernel) (by decide +kernel))⟩
theorem mb_X4_letterAt : MLb yX4_letterAt cX4_letterAt 2 (some .int) 1 := ⟨(inT_of 343 (by decide +kernel) (by decide +kernel)), by decide +kernel, (inT_of 46 (by decide +kernel) (by decide +kernel)), by decide +kernel, by decide +kernel, by decide +kernel⟩
theorem ml_X0_46 : MLV RX0 46 yX4_letterAt cX4_letterAt 2 (some .int) 1 := ⟨mb_X4_letterAt, Or.inl (inT_of 340 (by decide +kernel) (by decide +kernel)), (inT_of 341 (by decide +kernel) (by decide +kernel)), (inT_of 342 (by decide +kernel) (by decide +kernel))⟩
theorem mb_X0_numbersOf : MLb yX0_numbersOf cX0_numbersOf 1 (some .int) 1 := ⟨(inT_of 346 (by decide +kernel) (by decide +kernel)), by decide +kernel, (inT_of 47 (by decide +kernel) (by decide +kernel)), by decide +kernel, by decide +kernel, by decide +kernel⟩
theorem ml_X0_50 : MLS RX0 50 yX0_numbersOf cX0_numbersOf 1 (some .int) 1 := ⟨mb_X0_numbersOf, Or.inl (inT_of 344 (by decide +kernel) (by decide +kernel)), (inT_of 345 (by decide +kernel) (by decide +kernel))⟩
theorem mb_X0_readNumbers : MLb yX0_readNumbers cX0_readNumbers 8 (some .int) 3 := ⟨(inT_of 350 (by decide +kernel) (by decide +kernel)), by decide +kernel, (inT_of 47 (by decide +kernel) (by decide +kernel)), by decide +kernel, by decide +kernel, by decide +kernel⟩
theorem ml_X0_53 : MLV RX0 53 yX0_readNumbers cX0_readNumbers 8 (some .int) 3 := ⟨mb_X0_readNumbers, Or.inl (inT_of 347 (by decide +kernel) (by decide +kernel)), (inT_of 349 (by decide +kernel) (by decide +kernel)), (inT_of 0 (by decide +kernel) (by decide +kernel))⟩
theorem mb_X0_takes : MLb yX0_takes cX0_takes 2 (some .boolean) 1 := ⟨(inT_of 367 (by decide +kernel) (by decide +kernel)), by decide +kernel, (inT_of 47 (by decide +kernel) (by decide +kernel)), by decide +kernel, by decide +kernel, by decide +kernel⟩
theorem ml_X0_57 : MLV RX0 57 yX0_takes cX0_takes 2 (some .boolean) 1 := ⟨mb_X0_takes, Or.inl (inT_of 364 (by decide +kernel) (by decide +kernel)), (inT_of 366 (by decide +kernel) (by decide +kernel)), (inT_of 1 (by decide +kernel) (by decide +kernel))⟩
theorem mb_X4_figuresAt : MLb yX4_figuresAt cX4_figuresAt 3 (some .int) 1 := ⟨(inT_of 354 (by decide +kernel) (by decide +kernel)), by decide +kernel, (inT_of 46 (by decide +kernel) (by decide +kernel)), by decide +kernel, by decide +kernel, by decide +kernel⟩
theorem ml_X0_61 : MLV RX0 61 yX4_figuresAt cX4_figuresAt 3 (some .int) 1 := ⟨mb_X4_figuresAt, Or.inl (inT_of 351 (by decide +kernel) (by decide +kernel)), (inT_of 352 (by decide +kernel) (by decide +kernel)), (inT_of 353 (by decide +kernel) (by decide +kernel))⟩
theorem mb_X4_numberAt : MLb yX4_numberAt cX4_numberAt 5 (some .int) 2 := ⟨(inT_of 363 (by decide +kernel) (by decide +kernel)), by decide +kernel, (inT_of 46 (by decide +kernel) (by decide +kernel)), by decide +kernel, by decide +kernel, by decide +kernel⟩
theorem ml_X0_64 : MLV RX0 64 yX4_numberAt cX4_numberAt 5 (some .int) 2 := ⟨mb_X4_numberAt, Or.inl (inT_of 360 (by decide +kernel) (by decide +kernel)), (inT_of 361 (by decide +kernel) (by decide +kernel)), (inT_of 362 (by decide +kernel) (by decide +kernel))⟩
theorem mb_X0_takesPerson : MLb yX0_takesPerson cX0_takesPerson 4 (some .boolean) 3 := ⟨(inT_of 371 (by decide +kernel) (by decide +kernel)), by decide +kernel, (inT_of 47 (by decide +kernel) (by decide +kernel)), by decide +kernel, by decide +kernel, by decide +kernel⟩
theorem ml_X0_68 : MLV RX0 68 yX0_takesPerson cX0_takesPerson 4 (some .boolean) 3 := ⟨mb_X0_takesPerson, Or.inl (inT_of 368 (by decide +kernel) (by decide +kernel)), (inT_of 370 (by decide +kernel) (by decide +kernel)), (inT_of 2 (by decide +kernel) (by decide +kernel))⟩
theorem mb_X0_takesThing : MLb yX0_takesThing cX0_takesThing 4 (some .boolean) 3 := ⟨(inT_of 375 (by decide +kernel) (by decide +kernel)), by decide +kernel, (inT_of 47 (by decide +kernel) (by decide +kernel)), by decide +kernel, by decide +kernel, by decide +kernel⟩
theorem ml_X0_72 : MLV RX0 72 yX0_takesThing cX0_takesThing 4 (some .boolean) 3 := ⟨mb_X0_takesThing, Or.inl (inT_of 372 (by decide +kernel) (by decide +kernel)), (inT_of 374 (by decide +kernel) (by decide +kernel)), (inT_of 3 (by decide +kernel) (by decide +kernel))⟩
theorem mb_X0_takesFade : MLb yX0_takesFade cX0_takesFade 2 (some .boolean) 1 := ⟨(inT_of 389 (by decide +kernel) (by decide +kernel)), by decide +kernel, (inT_of 47 (by decide +kernel) (by decide +kernel)), by decide +kernel, by decide +kernel, by decide +kernel⟩
theorem ml_X0_75 : MLV RX0 75 yX0_takesFade cX0_takesFade 2 (some .boolean) 1 := ⟨mb_X0_takesFade, Or.inl (inT_of 386 (by decide +kernel) (by decide +kernel)), (inT_of 388 (by decide +kernel) (by decide +kernel)), (inT_of 4 (by decide +kernel) (by decide +kernel))⟩
theorem mb_X8_isTopics : MLb yX8_isTopics cX8_isTopics 1 (some .boolean) 1 := ⟨(inT_of 378 (by decide +kernel) (by decide +kernel)), by decide +kernel, (inT_of 45 (by decide +kernel) (by decide +kernel)), by decide +kernel, by decide +kernel, by decide +kernel⟩
theorem ml_X0_78 : MLS RX0 78 yX8_isTopics cX8_isTopics 1 (some .boolean) 1 := ⟨mb_X8_isTopics, Or.inr ⟨"BoredKings", (inT_of 376 (by decide +kernel) (by decide +kernel))⟩, (inT_of 377 (by decide +kernel) (by decide +kernel))⟩
theorem mb_X8_isStrength : MLb yX8_isStrength cX8_isStrength 1 (some .boolean) 1 := ⟨(inT_of 381 (by decide +kernel) (by decide +kernel)), by decide +kernel, (inT_of 45 (by decide +kernel) (by decide +kernel)), by decide +kernel, by decide +kernel, by decide +kernel⟩
theorem ml_X0_81 : MLS RX0 81 yX8_isStrength cX8_isStrength 1 (some .boolean) 1 := ⟨mb_X8_isStrength, Or.inr ⟨"BoredKings", (inT_of 379 (by decide +kernel) (by decide +kernel))⟩, (inT_of 380 (by decide +kernel) (by decide +kernel))⟩
theorem mb_X7_add : MLb yX7_add cX7_add 4 (some .boolean) 3 := ⟨(inT_of 385 (by decide +kernel) (by decide +kernel)), by decide +kernel, (inT_of 48 (by decide +kernel) (by decide +kernel)), by decide +kernel, by decide +kernel, by decide +kernel⟩
theorem ml_X0_84 : MLV RX0 84 yX7_add cX7_add 4 (some .boolean) 3 := ⟨mb_X7_add, Or.inl (inT_of 382 (by decide +kernel) (by decide +kernel)), (inT_of 383 (by decide +kernel) (by decide +kernel)), (inT_of 384 (by decide +kernel) (by decide +kernel))⟩
theorem mb_J7_fill_53178 : MLb yJ7_fill_53178 cJ7_fill_53178 4 none 2 := ⟨(inT_of 396 (by decide +kernel) (by decide +kernel)), by decide +kernel, (inT_of 59 (by decide +kernel) (by decide +kernel)), by decide +kernel, by decide +kernel, by decide +kernel⟩
theorem ml_X1_35 : MLS RX1 35 yJ7_fill_53178 cJ7_fill_53178 4 none 2 := ⟨mb_J7_fill_53178, Or.inl (inT_of 394 (by decide +kernel) (by decide +kernel)), (inT_of 395 (by decide +kernel) (by decide +kernel))⟩
theorem mb_X7_copyFrom : MLb yX7_copyFrom cX7_copyFrom 3 none 1 := ⟨(inT_of 400 (by decide +kernel) (by decide +kernel)), by decide +kernel, (inT_of 48 (by decide +kernel) (by decide +kernel)), by decide +kernel, by decide +kernel, by decide +kernel⟩
theorem ml_X1_44 : MLV RX1 44 yX7_copyFrom cX7_copyFrom 3 none 1 := ⟨mb_X7_copyFrom, Or.inl (inT_of 397 (by decide +kernel) (by decide +kernel)), (inT_of 398 (by decide +kernel) (by decide +kernel)), (inT_of 399 (by decide +kernel) (by decide +kernel))⟩
theorem mb_J9_min_7cf53 : MLb yJ9_min_7cf53 cJ9_min_7cf53 2 (some .int) 2 := ⟨(inT_of 516 (by decide +kernel) (by decide +kernel)), by decide +kernel, (inT_of 51 (by decide +kernel) (by decide +kernel)), by decide +kernel, by decide +kernel, by decide +kernel⟩
theorem ml_X2_33 : MLS RX2 33 yJ9_min_7cf53 cJ9_min_7cf53 2 (some .int) 2 := ⟨mb_J9_min_7cf53, Or.inl (inT_of 514 (by decide +kernel) (by decide +kernel)), (inT_of 515 (by decide +kernel) (by decide +kernel))⟩
theorem ml_X2_42 : MLS RX2 42 yJ7_fill_53178 cJ7_fill_53178 4 none 2 := ⟨mb_J7_fill_53178, Or.inl (inT_of 517 (by decide +kernel) (by decide +kernel)), (inT_of 395 (by decide +kernel) (by decide +kernel))⟩
theorem mb_X2_isLookedAt : MLb yX2_isLookedAt cX2_isLookedAt 2 (some .boolean) 1 := ⟨(inT_of 521 (by decide +kernel) (by decide +kernel)), by decide +kernel, (inT_of 53 (by decide +kernel) (by decide +kernel)), by decide +kernel, by decide +kernel, by decide +kernel⟩
theorem ml_X2_56 : MLV RX2 56 yX2_isLookedAt cX2_isLookedAt 2 (some .boolean) 1 := ⟨mb_X2_isLookedAt, Or.inl (inT_of 518 (by decide +kernel) (by decide +kernel)), (inT_of 520 (by decide +kernel) (by decide +kernel)), (inT_of 10 (by decide +kernel) (by decide +kernel))⟩
theorem mb_X2_weigh : MLb yX2_weigh cX2_weigh 4 none 2 := ⟨(inT_of 525 (by decide +kernel) (by decide +kernel)), by decide +kernel, (inT_of 53 (by decide +kernel) (by decide +kernel)), by decide +kernel, by decide +kernel, by decide +kernel⟩
theorem ml_X2_71 : MLV RX2 71 yX2_weigh cX2_weigh 4 none 2 := ⟨mb_X2_weigh, Or.inl (inT_of 522 (by decide +kernel) (by decide +kernel)), (inT_of 523 (by decide +kernel) (by decide +kernel)), (inT_of 524 (by decide +kernel) (by decide +kernel))⟩
theorem mb_X2_isPlace : MLb yX2_isPlace cX2_isPlace 1 (some .boolean) 1 := ⟨(inT_of 528 (by decide +kernel) (by decide +kernel)), by decide +kernel, (inT_of 53 (by decide +kernel) (by decide +kernel)), by decide +kernel, by decide +kernel, by decide +kernel⟩
theorem ml_X2_75 : MLS RX2 75 yX2_isPlace cX2_isPlace 1 (some .boolean) 1 := ⟨mb_X2_isPlace, Or.inl (inT_of 526 (by decide +kernel) (by decide +kernel)), (inT_of 527 (by decide +kernel) (by decide +kernel))⟩
theorem mb_X2_gainBy : MLb yX2_gainBy cX2_gainBy 8 (some .int) 4 := ⟨(inT_of 532 (by decide +kernel) (by decide +kernel)), by decide +kernel, (inT_of 53 (by decide +kernel) (by decide +kernel)), by decide +kernel, by decide +kernel, by decide +kernel⟩
theorem ml_X2_81 : MLV RX2 81 yX2_gainBy cX2_gainBy 8 (some .int) 4 := ⟨mb_X2_gainBy, Or.inl (inT_of 529 (by decide +kernel) (by decide +kernel)), (inT_of 531 (by decide +kernel) (by decide +kernel)), (inT_of 11 (by decide +kernel) (by decide +kernel))⟩
theorem mb_X8_comesBy : MLb yX8_comesBy cX8_comesBy 7 (some .int) 6 := ⟨(inT_of 535 (by decide +kernel) (by decide +kernel)), by decide +kernel, (inT_of 45 (by decide +kernel) (by decide +kernel)), by decide +kernel, by decide +kernel, by decide +kernel⟩
theorem ml_X2_88 : MLS RX2 88 yX8_comesBy cX8_comesBy 7 (some .int) 6 := ⟨mb_X8_comesBy, Or.inr ⟨"BoredKings", (inT_of 533 (by decide +kernel) (by decide +kernel))⟩, (inT_of 534 (by decide +kernel) (by decide +kernel))⟩
theorem mb_X2_addTimes : MLb yX2_addTimes cX2_addTimes 6 none 4 := ⟨(inT_of 654 (by decide +kernel) (by decide +kernel)), by decide +kernel, (inT_of 53 (by decide +kernel) (by decide +kernel)), by decide +kernel, by decide +kernel, by decide +kernel⟩
theorem ml_X2_92 : MLV RX2 92 yX2_addTimes cX2_addTimes 6 none 4 := ⟨mb_X2_addTimes, Or.inl (inT_of 651 (by decide +kernel) (by decide +kernel)), (inT_of 653 (by decide +kernel) (by decide +kernel)), (inT_of 16 (by decide +kernel) (by decide +kernel))⟩
theorem mb_X2_gainOfOneMore : MLb yX2_gainOfOneMore cX2_gainOfOneMore 5 (some .int) 4 := ⟨(inT_of 658 (by decide +kernel) (by decide +kernel)), by decide +kernel, (inT_of 53 (by decide +kernel) (by decide +kernel)), by decide +kernel, by decide +kernel, by decide +kernel⟩
theorem ml_X2_96 : MLV RX2 96 yX2_gainOfOneMore cX2_gainOfOneMore 5 (some .int) 4 := ⟨mb_X2_gainOfOneMore, Or.inl (inT_of 655 (by decide +kernel) (by decide +kernel)), (inT_of 656 (by decide +kernel) (by decide +kernel)), (inT_of 657 (by decide +kernel) (by decide +kernel))⟩
theorem mb_X3_lineUp : MLb yX3_lineUp cX3_lineUp 2 none 0 := ⟨(inT_of 549 (by decide +kernel) (by decide +kernel)), by decide +kernel, (inT_of 54 (by decide +kernel) (by decide +kernel)), by decide +kernel, by decide +kernel, by decide +kernel⟩
theorem ml_X3_23 : MLV RX3 23 yX3_lineUp cX3_lineUp 2 none 0 := ⟨mb_X3_lineUp, Or.inl (inT_of 546 (by decide +kernel) (by decide +kernel)), (inT_of 547 (by decide +kernel) (by decide +kernel)), (inT_of 548 (by decide +kernel) (by decide +kernel))⟩
theorem mb_X3_reigning : MLb yX3_reigning cX3_reigning 1 (some .int) 0 := ⟨(inT_of 553 (by decide +kernel) (by decide +kernel)), by decide +kernel, (inT_of 54 (by decide +kernel) (by decide +kernel)), by decide +kernel, by decide +kernel, by decide +kernel⟩
theorem ml_X3_39 : MLV RX3 39 yX3_reigning cX3_reigning 1 (some .int) 0 := ⟨mb_X3_reigning, Or.inl (inT_of 566 (by decide +kernel) (by decide +kernel)), (inT_of 551 (by decide +kernel) (by decide +kernel)), (inT_of 552 (by decide +kernel) (by decide +kernel))⟩
theorem mb_X0_faded : MLb yX0_faded cX0_faded 2 (some .int) 1 := ⟨(inT_of 570 (by decide +kernel) (by decide +kernel)), by decide +kernel, (inT_of 47 (by decide +kernel) (by decide +kernel)), by decide +kernel, by decide +kernel, by decide +kernel⟩
theorem ml_X3_43 : MLV RX3 43 yX0_faded cX0_faded 2 (some .int) 1 := ⟨mb_X0_faded, Or.inl (inT_of 567 (by decide +kernel) (by decide +kernel)), (inT_of 568 (by decide +kernel) (by decide +kernel)), (inT_of 569 (by decide +kernel) (by decide +kernel))⟩
theorem mb_X2_gainOf : MLb yX2_gainOf cX2_gainOf 3 (some .int) 2 := ⟨(inT_of 574 (by decide +kernel) (by decide +kernel)), by decide +kernel, (inT_of 53 (by decide +kernel) (by decide +kernel)), by decide +kernel, by decide +kernel, by decide +kernel⟩
theorem ml_X3_49 : MLV RX3 49 yX2_gainOf cX2_gainOf 3 (some .int) 2 := ⟨mb_X2_gainOf, Or.inl (inT_of 571 (by decide +kernel) (by decide +kernel)), (inT_of 572 (by decide +kernel) (by decide +kernel)), (inT_of 573 (by decide +kernel) (by decide +kernel))⟩
theorem mb_X0_standsOf : MLb yX0_standsOf cX0_standsOf 2 (some .int) 1 := ⟨(inT_of 578 (by decide +kernel) (by decide +kernel)), by decide +kernel, (inT_of 47 (by decide +kernel) (by decide +kernel)), by decide +kernel, by decide +kernel, by decide +kernel⟩
theorem ml_X3_55 : MLV RX3 55 yX0_standsOf cX0_standsOf 2 (some .int) 1 := ⟨mb_X0_standsOf, Or.inl (inT_of 575 (by decide +kernel) (by decide +kernel)), (inT_of 576 (by decide +kernel) (by decide +kernel)), (inT_of 577 (by decide +kernel) (by decide +kernel))⟩
theorem mb_X3_ringsOn : MLb yX3_ringsOn cX3_ringsOn 3 (some .boolean) 1 := ⟨(inT_of 565 (by decide +kernel) (by decide +kernel)), by decide +kernel, (inT_of 54 (by decide +kernel) (by decide +kernel)), by decide +kernel, by decide +kernel, by decide +kernel⟩
theorem ml_X3_61 : MLV RX3 61 yX3_ringsOn cX3_ringsOn 3 (some .boolean) 1 := ⟨mb_X3_ringsOn, Or.inl (inT_of 562 (by decide +kernel) (by decide +kernel)), (inT_of 563 (by decide +kernel) (by decide +kernel)), (inT_of 564 (by decide +kernel) (by decide +kernel))⟩
theorem mb_X3_change : MLb yX3_change cX3_change 1 none 0 := ⟨(inT_of 582 (by decide +kernel) (by decide +kernel)), by decide +kernel, (inT_of 54 (by decide +kernel) (by decide +kernel)), by decide +kernel, by decide +kernel, by decide +kernel⟩
theorem ml_X3_65 : MLV RX3 65 yX3_change cX3_change 1 none 0 := ⟨mb_X3_change, Or.inl (inT_of 579 (by decide +kernel) (by decide +kernel)), (inT_of 581 (by decide +kernel) (by decide +kernel)), (inT_of 12 (by decide +kernel) (by decide +kernel))⟩
theorem ml_X3_68 : MLS RX3 68 yJ9_min_7cf53 cJ9_min_7cf53 2 (some .int) 2 := ⟨mb_J9_min_7cf53, Or.inl (inT_of 684 (by decide +kernel) (by decide +kernel)), (inT_of 515 (by decide +kernel) (by decide +kernel))⟩
theorem mb_X3_sortDown : MLb yX3_sortDown cX3_sortDown 5 none 2 := ⟨(inT_of 688 (by decide +kernel) (by decide +kernel)), by decide +kernel, (inT_of 54 (by decide +kernel) (by decide +kernel)), by decide +kernel, by decide +kernel, by decide +kernel⟩
theorem ml_X3_73 : MLV RX3 73 yX3_sortDown cX3_sortDown 5 none 2 := ⟨mb_X3_sortDown, Or.inl (inT_of 685 (by decide +kernel) (by decide +kernel)), (inT_of 687 (by decide +kernel) (by decide +kernel)), (inT_of 18 (by decide +kernel) (by decide +kernel))⟩
theorem mb_X3_swap : MLb yX3_swap cX3_swap 4 none 2 := ⟨(inT_of 693 (by decide +kernel) (by decide +kernel)), by decide +kernel, (inT_of 54 (by decide +kernel) (by decide +kernel)), by decide +kernel, by decide +kernel, by decide +kernel⟩
theorem ml_X3_77 : MLV RX3 77 yX3_swap cX3_swap 4 none 2 := ⟨mb_X3_swap, Or.inl (inT_of 690 (by decide +kernel) (by decide +kernel)), (inT_of 692 (by decide +kernel) (by decide +kernel)), (inT_of 19 (by decide +kernel) (by decide +kernel))⟩
theorem mb_J9_max_7cf53 : MLb yJ9_max_7cf53 cJ9_max_7cf53 2 (some .int) 2 := ⟨(inT_of 196 (by decide +kernel) (by decide +kernel)), by decide +kernel, (inT_of 51 (by decide +kernel) (by decide +kernel)), by decide +kernel, by decide +kernel, by decide +kernel⟩
theorem ml_X3_80 : MLS RX3 80 yJ9_max_7cf53 cJ9_max_7cf53 2 (some .int) 2 := ⟨mb_J9_max_7cf53, Or.inl (inT_of 689 (by decide +kernel) (by decide +kernel)), (inT_of 195 (by decide +kernel) (by decide +kernel))⟩
theorem ml_X4_19 : MLV RX4 19 yX4_letterAt cX4_letterAt 2 (some .int) 1 := ⟨mb_X4_letterAt, Or.inl (inT_of 359 (by decide +kernel) (by decide +kernel)), (inT_of 341 (by decide +kernel) (by decide +kernel)), (inT_of 342 (by decide +kernel) (by decide +kernel))⟩
theorem mb_X4_isFigure : MLb yX4_isFigure cX4_isFigure 3 (some .boolean) 1 := ⟨(inT_of 358 (by decide +kernel) (by decide +kernel)), by decide +kernel, (inT_of 46 (by decide +kernel) (by decide +kernel)), by decide +kernel, by decide +kernel, by decide +kernel⟩
theorem ml_X4_23 : MLV RX4 23 yX4_isFigure cX4_isFigure 3 (some .boolean) 1 := ⟨mb_X4_isFigure, Or.inl (inT_of 355 (by decide +kernel) (by decide +kernel)), (inT_of 356 (by decide +kernel) (by decide +kernel)), (inT_of 357 (by decide +kernel) (by decide +kernel))⟩
theorem mb_X5_placeBehind : MLb yX5_placeBehind cX5_placeBehind 3 (some (.object "BoredKings$Moment")) 1 := ⟨(inT_of 498 (by decide +kernel) (by decide +kernel)), by decide +kernel, (inT_of 50 (by decide +kernel) (by decide +kernel)), by decide +kernel, by decide +kernel, by decide +kernel⟩
theorem ml_X5_29 : MLV RX5 29 yX5_placeBehind cX5_placeBehind 3 (some (.object "BoredKings$Moment")) 1 := ⟨mb_X5_placeBehind, Or.inl (inT_of 495 (by decide +kernel) (by decide +kernel)), (inT_of 497 (by decide +kernel) (by decide +kernel)), (inT_of 8 (by decide +kernel) (by decide +kernel))⟩
theorem mb_X1_copyFrom : MLb yX1_copyFrom cX1_copyFrom 2 none 1 := ⟨(inT_of 502 (by decide +kernel) (by decide +kernel)), by decide +kernel, (inT_of 49 (by decide +kernel) (by decide +kernel)), by decide +kernel, by decide +kernel, by decide +kernel⟩
theorem ml_X5_33 : MLV RX5 33 yX1_copyFrom cX1_copyFrom 2 none 1 := ⟨mb_X1_copyFrom, Or.inl (inT_of 499 (by decide +kernel) (by decide +kernel)), (inT_of 500 (by decide +kernel) (by decide +kernel)), (inT_of 501 (by decide +kernel) (by decide +kernel))⟩
theorem ml_X5_7 : MLS RX5 7 yJ9_max_7cf53 cJ9_max_7cf53 2 (some .int) 2 := ⟨mb_J9_max_7cf53, Or.inl (inT_of 194 (by decide +kernel) (by decide +kernel)), (inT_of 195 (by decide +kernel) (by decide +kernel))⟩
theorem ml_X6_22 : MLS RX6 22 yJ9_max_7cf53 cJ9_max_7cf53 2 (some .int) 2 := ⟨mb_J9_max_7cf53, Or.inl (inT_of 727 (by decide +kernel) (by decide +kernel)), (inT_of 195 (by decide +kernel) (by decide +kernel))⟩
theorem ml_X7_25 : MLV RX7 25 yX7_clear cX7_clear 1 none 0 := ⟨mb_X7_clear, Or.inl (inT_of 401 (by decide +kernel) (by decide +kernel)), (inT_of 337 (by decide +kernel) (by decide +kernel)), (inT_of 338 (by decide +kernel) (by decide +kernel))⟩
theorem ml_X7_28 : MLV RX7 28 yX7_add cX7_add 4 (some .boolean) 3 := ⟨mb_X7_add, Or.inl (inT_of 402 (by decide +kernel) (by decide +kernel)), (inT_of 383 (by decide +kernel) (by decide +kernel)), (inT_of 384 (by decide +kernel) (by decide +kernel))⟩
theorem mb_X5_clear : MLb yX5_clear cX5_clear 1 none 0 := ⟨(inT_of 458 (by decide +kernel) (by decide +kernel)), by decide +kernel, (inT_of 50 (by decide +kernel) (by decide +kernel)), by decide +kernel, by decide +kernel, by decide +kernel⟩
theorem ml_X8_106 : MLV RX8 106 yX5_clear cX5_clear 1 none 0 := ⟨mb_X5_clear, Or.inl (inT_of 455 (by decide +kernel) (by decide +kernel)), (inT_of 456 (by decide +kernel) (by decide +kernel)), (inT_of 457 (by decide +kernel) (by decide +kernel))⟩
theorem mb_X6_clear : MLb yX6_clear cX6_clear 1 none 0 := ⟨(inT_of 462 (by decide +kernel) (by decide +kernel)), by decide +kernel, (inT_of 52 (by decide +kernel) (by decide +kernel)), by decide +kernel, by decide +kernel, by decide +kernel⟩
theorem ml_X8_107 : MLV RX8 107 yX6_clear cX6_clear 1 none 0 := ⟨mb_X6_clear, Or.inl (inT_of 459 (by decide +kernel) (by decide +kernel)), (inT_of 460 (by decide +kernel) (by decide +kernel)), (inT_of 461 (by decide +kernel) (by decide +kernel))⟩
theorem mb_X8_isPerson : MLb yX8_isPerson cX8_isPerson 2 (some .boolean) 1 := ⟨(inT_of 470 (by decide +kernel) (by decide +kernel)), by decide +kernel, (inT_of 45 (by decide +kernel) (by decide +kernel)), by decide +kernel, by decide +kernel, by decide +kernel⟩
theorem ml_X8_108 : MLV RX8 108 yX8_isPerson cX8_isPerson 2 (some .boolean) 1 := ⟨mb_X8_isPerson, Or.inl (inT_of 467 (by decide +kernel) (by decide +kernel)), (inT_of 469 (by decide +kernel) (by decide +kernel)), (inT_of 5 (by decide +kernel) (by decide +kernel))⟩
theorem mb_X8_placeOf : MLb yX8_placeOf cX8_placeOf 3 (some .int) 1 := ⟨(inT_of 474 (by decide +kernel) (by decide +kernel)), by decide +kernel, (inT_of 45 (by decide +kernel) (by decide +kernel)), by decide +kernel, by decide +kernel, by decide +kernel⟩
theorem ml_X8_120 : MLV RX8 120 yX8_placeOf cX8_placeOf 3 (some .int) 1 := ⟨mb_X8_placeOf, Or.inl (inT_of 471 (by decide +kernel) (by decide +kernel)), (inT_of 473 (by decide +kernel) (by decide +kernel)), (inT_of 6 (by decide +kernel) (by decide +kernel))⟩
theorem mb_X8_isThing : MLb yX8_isThing cX8_isThing 2 (some .boolean) 1 := ⟨(inT_of 482 (by decide +kernel) (by decide +kernel)), by decide +kernel, (inT_of 45 (by decide +kernel) (by decide +kernel)), by decide +kernel, by decide +kernel, by decide +kernel⟩
theorem ml_X8_127 : MLV RX8 127 yX8_isThing cX8_isThing 2 (some .boolean) 1 := ⟨mb_X8_isThing, Or.inl (inT_of 479 (by decide +kernel) (by decide +kernel)), (inT_of 481 (by decide +kernel) (by decide +kernel)), (inT_of 7 (by decide +kernel) (by decide +kernel))⟩
theorem mb_X1_isHidden : MLb yX1_isHidden cX1_isHidden 2 (some .boolean) 1 := ⟨(inT_of 486 (by decide +kernel) (by decide +kernel)), by decide +kernel, (inT_of 49 (by decide +kernel) (by decide +kernel)), by decide +kernel, by decide +kernel, by decide +kernel⟩
theorem ml_X8_145 : MLV RX8 145 yX1_isHidden cX1_isHidden 2 (some .boolean) 1 := ⟨mb_X1_isHidden, Or.inl (inT_of 483 (by decide +kernel) (by decide +kernel)), (inT_of 484 (by decide +kernel) (by decide +kernel)), (inT_of 485 (by decide +kernel) (by decide +kernel))⟩
theorem mb_X5_put : MLb yX5_put cX5_put 3 none 1 := ⟨(inT_of 494 (by decide +kernel) (by decide +kernel)), by decide +kernel, (inT_of 50 (by decide +kernel) (by decide +kernel)), by decide +kernel, by decide +kernel, by decide +kernel⟩
theorem ml_X8_150 : MLV RX8 150 yX5_put cX5_put 3 none 1 := ⟨mb_X5_put, Or.inl (inT_of 491 (by decide +kernel) (by decide +kernel)), (inT_of 492 (by decide +kernel) (by decide +kernel)), (inT_of 493 (by decide +kernel) (by decide +kernel))⟩
theorem mb_X8_lookAhead : MLb yX8_lookAhead cX8_lookAhead 2 none 1 := ⟨(inT_of 509 (by decide +kernel) (by decide +kernel)), by decide +kernel, (inT_of 45 (by decide +kernel) (by decide +kernel)), by decide +kernel, by decide +kernel, by decide +kernel⟩
theorem ml_X8_154 : MLV RX8 154 yX8_lookAhead cX8_lookAhead 2 none 1 := ⟨mb_X8_lookAhead, Or.inl (inT_of 506 (by decide +kernel) (by decide +kernel)), (inT_of 508 (by decide +kernel) (by decide +kernel)), (inT_of 9 (by decide +kernel) (by decide +kernel))⟩
theorem mb_X3_start : MLb yX3_start cX3_start 2 none 1 := ⟨(inT_of 545 (by decide +kernel) (by decide +kernel)), by decide +kernel, (inT_of 54 (by decide +kernel) (by decide +kernel)), by decide +kernel, by decide +kernel, by decide +kernel⟩
theorem ml_X8_157 : MLV RX8 157 yX3_start cX3_start 2 none 1 := ⟨mb_X3_start, Or.inl (inT_of 542 (by decide +kernel) (by decide +kernel)), (inT_of 543 (by decide +kernel) (by decide +kernel)), (inT_of 544 (by decide +kernel) (by decide +kernel))⟩
theorem ml_X8_160 : MLV RX8 160 yX3_reigning cX3_reigning 1 (some .int) 0 := ⟨mb_X3_reigning, Or.inl (inT_of 550 (by decide +kernel) (by decide +kernel)), (inT_of 551 (by decide +kernel) (by decide +kernel)), (inT_of 552 (by decide +kernel) (by decide +kernel))⟩
theorem mb_X1_addReigned : MLb yX1_addReigned cX1_addReigned 2 none 1 := ⟨(inT_of 557 (by decide +kernel) (by decide +kernel)), by decide +kernel, (inT_of 49 (by decide +kernel) (by decide +kernel)), by decide +kernel, by decide +kernel, by decide +kernel⟩
theorem ml_X8_163 : MLV RX8 163 yX1_addReigned cX1_addReigned 2 none 1 := ⟨mb_X1_addReigned, Or.inl (inT_of 554 (by decide +kernel) (by decide +kernel)), (inT_of 555 (by decide +kernel) (by decide +kernel)), (inT_of 556 (by decide +kernel) (by decide +kernel))⟩
theorem mb_X3_live : MLb yX3_live cX3_live 3 (some .boolean) 1 := ⟨(inT_of 561 (by decide +kernel) (by decide +kernel)), by decide +kernel, (inT_of 54 (by decide +kernel) (by decide +kernel)), by decide +kernel, by decide +kernel, by decide +kernel⟩
theorem ml_X8_166 : MLV RX8 166 yX3_live cX3_live 3 (some .boolean) 1 := ⟨mb_X3_live, Or.inl (inT_of 558 (by decide +kernel) (by decide +kernel)), (inT_of 559 (by decide +kernel) (by decide +kernel)), (inT_of 560 (by decide +kernel) (by decide +kernel))⟩
theorem ml_X8_179 : MLS RX8 179 yX8_isTopics cX8_isTopics 1 (some .boolean) 1 := ⟨mb_X8_isTopics, Or.inl (inT_of 591 (by decide +kernel) (by decide +kernel)), (inT_of 377 (by decide +kernel) (by decide +kernel))⟩
theorem ml_X8_182 : MLS RX8 182 yX8_isStrength cX8_isStrength 1 (some .boolean) 1 := ⟨mb_X8_isStrength, Or.inl (inT_of 592 (by decide +kernel) (by decide +kernel)), (inT_of 380 (by decide +kernel) (by decide +kernel))⟩
theorem ml_X8_188 : MLV RX8 188 yX7_add cX7_add 4 (some .boolean) 3 := ⟨mb_X7_add, Or.inl (inT_of 593 (by decide +kernel) (by decide +kernel)), (inT_of 383 (by decide +kernel) (by decide +kernel)), (inT_of 384 (by decide +kernel) (by decide +kernel))⟩
theorem mb_X5_takeInto : MLb yX5_takeInto cX5_takeInto 3 (some .boolean) 1 := ⟨(inT_of 601 (by decide +kernel) (by decide +kernel)), by decide +kernel, (inT_of 50 (by decide +kernel) (by decide +kernel)), by decide +kernel, by decide +kernel, by decide +kernel⟩
theorem ml_X8_192 : MLV RX8 192 yX5_takeInto cX5_takeInto 3 (some .boolean) 1 := ⟨mb_X5_takeInto, Or.inl (inT_of 598 (by decide +kernel) (by decide +kernel)), (inT_of 599 (by decide +kernel) (by decide +kernel)), (inT_of 600 (by decide +kernel) (by decide +kernel))⟩
theorem mb_X8_isDayFromNow : MLb yX8_isDayFromNow cX8_isDayFromNow 1 (some .boolean) 1 := ⟨(inT_of 608 (by decide +kernel) (by decide +kernel)), by decide +kernel, (inT_of 45 (by decide +kernel) (by decide +kernel)), by decide +kernel, by decide +kernel, by decide +kernel⟩
theorem ml_X8_197 : MLS RX8 197 yX8_isDayFromNow cX8_isDayFromNow 1 (some .boolean) 1 := ⟨mb_X8_isDayFromNow, Or.inl (inT_of 606 (by decide +kernel) (by decide +kernel)), (inT_of 607 (by decide +kernel) (by decide +kernel))⟩
theorem mb_X8_isHalf : MLb yX8_isHalf cX8_isHalf 1 (some .boolean) 1 := ⟨(inT_of 611 (by decide +kernel) (by decide +kernel)), by decide +kernel, (inT_of 45 (by decide +kernel) (by decide +kernel)), by decide +kernel, by decide +kernel, by decide +kernel⟩
theorem ml_X8_200 : MLS RX8 200 yX8_isHalf cX8_isHalf 1 (some .boolean) 1 := ⟨mb_X8_isHalf, Or.inl (inT_of 609 (by decide +kernel) (by decide +kernel)), (inT_of 610 (by decide +kernel) (by decide +kernel))⟩
theorem ml_X8_203 : MLV RX8 203 yX3_ringsOn cX3_ringsOn 3 (some .boolean) 1 := ⟨mb_X3_ringsOn, Or.inl (inT_of 612 (by decide +kernel) (by decide +kernel)), (inT_of 563 (by decide +kernel) (by decide +kernel)), (inT_of 564 (by decide +kernel) (by decide +kernel))⟩
theorem mb_X8_firstBell : MLb yX8_firstBell cX8_firstBell 2 (some .int) 0 := ⟨(inT_of 620 (by decide +kernel) (by decide +kernel)), by decide +kernel, (inT_of 45 (by decide +kernel) (by decide +kernel)), by decide +kernel, by decide +kernel, by decide +kernel⟩
theorem ml_X8_206 : MLV RX8 206 yX8_firstBell cX8_firstBell 2 (some .int) 0 := ⟨mb_X8_firstBell, Or.inl (inT_of 617 (by decide +kernel) (by decide +kernel)), (inT_of 619 (by decide +kernel) (by decide +kernel)), (inT_of 13 (by decide +kernel) (by decide +kernel))⟩
theorem mb_X2_shownAtAll : MLb yX2_shownAtAll cX2_shownAtAll 3 (some .int) 0 := ⟨(inT_of 628 (by decide +kernel) (by decide +kernel)), by decide +kernel, (inT_of 53 (by decide +kernel) (by decide +kernel)), by decide +kernel, by decide +kernel, by decide +kernel⟩
theorem ml_X8_209 : MLV RX8 209 yX2_shownAtAll cX2_shownAtAll 3 (some .int) 0 := ⟨mb_X2_shownAtAll, Or.inl (inT_of 625 (by decide +kernel) (by decide +kernel)), (inT_of 626 (by decide +kernel) (by decide +kernel)), (inT_of 627 (by decide +kernel) (by decide +kernel))⟩
theorem mb_J6_bitCount_0f7a4 : MLb yJ6_bitCount_0f7a4 cJ6_bitCount_0f7a4 1 (some .int) 1 := ⟨(inT_of 538 (by decide +kernel) (by decide +kernel)), by decide +kernel, (inT_of 62 (by decide +kernel) (by decide +kernel)), by decide +kernel, by decide +kernel, by decide +kernel⟩
theorem ml_X8_212 : MLS RX8 212 yJ6_bitCount_0f7a4 cJ6_bitCount_0f7a4 1 (some .int) 1 := ⟨mb_J6_bitCount_0f7a4, Or.inl (inT_of 536 (by decide +kernel) (by decide +kernel)), (inT_of 537 (by decide +kernel) (by decide +kernel))⟩
theorem mb_X8_staysWithout : MLb yX8_staysWithout cX8_staysWithout 6 (some .boolean) 2 := ⟨(inT_of 632 (by decide +kernel) (by decide +kernel)), by decide +kernel, (inT_of 45 (by decide +kernel) (by decide +kernel)), by decide +kernel, by decide +kernel, by decide +kernel⟩
theorem ml_X8_217 : MLV RX8 217 yX8_staysWithout cX8_staysWithout 6 (some .boolean) 2 := ⟨mb_X8_staysWithout, Or.inl (inT_of 629 (by decide +kernel) (by decide +kernel)), (inT_of 631 (by decide +kernel) (by decide +kernel)), (inT_of 14 (by decide +kernel) (by decide +kernel))⟩
theorem mb_X8_firstReignOf : MLb yX8_firstReignOf cX8_firstReignOf 3 (some .int) 1 := ⟨(inT_of 646 (by decide +kernel) (by decide +kernel)), by decide +kernel, (inT_of 45 (by decide +kernel) (by decide +kernel)), by decide +kernel, by decide +kernel, by decide +kernel⟩
theorem ml_X8_221 : MLV RX8 221 yX8_firstReignOf cX8_firstReignOf 3 (some .int) 1 := ⟨mb_X8_firstReignOf, Or.inl (inT_of 643 (by decide +kernel) (by decide +kernel)), (inT_of 645 (by decide +kernel) (by decide +kernel)), (inT_of 15 (by decide +kernel) (by decide +kernel))⟩
theorem mb_X2_add : MLb yX2_add cX2_add 4 none 3 := ⟨(inT_of 650 (by decide +kernel) (by decide +kernel)), by decide +kernel, (inT_of 53 (by decide +kernel) (by decide +kernel)), by decide +kernel, by decide +kernel, by decide +kernel⟩
theorem ml_X8_224 : MLV RX8 224 yX2_add cX2_add 4 none 3 := ⟨mb_X2_add, Or.inl (inT_of 647 (by decide +kernel) (by decide +kernel)), (inT_of 648 (by decide +kernel) (by decide +kernel)), (inT_of 649 (by decide +kernel) (by decide +kernel))⟩
theorem mb_X2_takeAway : MLb yX2_takeAway cX2_takeAway 4 none 3 := ⟨(inT_of 662 (by decide +kernel) (by decide +kernel)), by decide +kernel, (inT_of 53 (by decide +kernel) (by decide +kernel)), by decide +kernel, by decide +kernel, by decide +kernel⟩
theorem ml_X8_227 : MLV RX8 227 yX2_takeAway cX2_takeAway 4 none 3 := ⟨mb_X2_takeAway, Or.inl (inT_of 659 (by decide +kernel) (by decide +kernel)), (inT_of 660 (by decide +kernel) (by decide +kernel)), (inT_of 661 (by decide +kernel) (by decide +kernel))⟩
theorem ml_X8_230 : MLV RX8 230 yX3_lineUp cX3_lineUp 2 none 0 := ⟨mb_X3_lineUp, Or.inl (inT_of 667 (by decide +kernel) (by decide +kernel)), (inT_of 547 (by decide +kernel) (by decide +kernel)), (inT_of 548 (by decide +kernel) (by decide +kernel))⟩
theorem mb_X8_bellsInOrder : MLb yX8_bellsInOrder cX8_bellsInOrder 5 (some .int) 2 := ⟨(inT_of 671 (by decide +kernel) (by decide +kernel)), by decide +kernel, (inT_of 45 (by decide +kernel) (by decide +kernel)), by decide +kernel, by decide +kernel, by decide +kernel⟩
theorem ml_X8_233 : MLV RX8 233 yX8_bellsInOrder cX8_bellsInOrder 5 (some .int) 2 := ⟨mb_X8_bellsInOrder, Or.inl (inT_of 668 (by decide +kernel) (by decide +kernel)), (inT_of 670 (by decide +kernel) (by decide +kernel)), (inT_of 17 (by decide +kernel) (by decide +kernel))⟩
theorem mb_X3_copyLine : MLb yX3_copyLine cX3_copyLine 3 none 1 := ⟨(inT_of 679 (by decide +kernel) (by decide +kernel)), by decide +kernel, (inT_of 54 (by decide +kernel) (by decide +kernel)), by decide +kernel, by decide +kernel, by decide +kernel⟩
theorem ml_X8_237 : MLV RX8 237 yX3_copyLine cX3_copyLine 3 none 1 := ⟨mb_X3_copyLine, Or.inl (inT_of 676 (by decide +kernel) (by decide +kernel)), (inT_of 677 (by decide +kernel) (by decide +kernel)), (inT_of 678 (by decide +kernel) (by decide +kernel))⟩
theorem mb_X3_lineUpNext : MLb yX3_lineUpNext cX3_lineUpNext 7 (some .boolean) 1 := ⟨(inT_of 683 (by decide +kernel) (by decide +kernel)), by decide +kernel, (inT_of 54 (by decide +kernel) (by decide +kernel)), by decide +kernel, by decide +kernel, by decide +kernel⟩
theorem ml_X8_241 : MLV RX8 241 yX3_lineUpNext cX3_lineUpNext 7 (some .boolean) 1 := ⟨mb_X3_lineUpNext, Or.inl (inT_of 680 (by decide +kernel) (by decide +kernel)), (inT_of 681 (by decide +kernel) (by decide +kernel)), (inT_of 682 (by decide +kernel) (by decide +kernel))⟩
theorem mb_X2_look : MLb yX2_look cX2_look 7 none 4 := ⟨(inT_of 513 (by decide +kernel) (by decide +kernel)), by decide +kernel, (inT_of 53 (by decide +kernel) (by decide +kernel)), by decide +kernel, by decide +kernel, by decide +kernel⟩
theorem ml_X8_244 : MLV RX8 244 yX2_look cX2_look 7 none 4 := ⟨mb_X2_look, Or.inl (inT_of 510 (by decide +kernel) (by decide +kernel)), (inT_of 511 (by decide +kernel) (by decide +kernel)), (inT_of 512 (by decide +kernel) (by decide +kernel))⟩
theorem mb_X6_add : MLb yX6_add cX6_add 3 (some .boolean) 2 := ⟨(inT_of 705 (by decide +kernel) (by decide +kernel)), by decide +kernel, (inT_of 52 (by decide +kernel) (by decide +kernel)), by decide +kernel, by decide +kernel, by decide +kernel⟩
theorem ml_X8_248 : MLV RX8 248 yX6_add cX6_add 3 (some .boolean) 2 := ⟨mb_X6_add, Or.inl (inT_of 702 (by decide +kernel) (by decide +kernel)), (inT_of 703 (by decide +kernel) (by decide +kernel)), (inT_of 704 (by decide +kernel) (by decide +kernel))⟩
theorem ml_X8_252 : MLV RX8 252 yX2_weigh cX2_weigh 4 none 2 := ⟨mb_X2_weigh, Or.inl (inT_of 714 (by decide +kernel) (by decide +kernel)), (inT_of 523 (by decide +kernel) (by decide +kernel)), (inT_of 524 (by decide +kernel) (by decide +kernel))⟩
theorem mb_X8_wasSo : MLb yX8_wasSo cX8_wasSo 3 (some .boolean) 0 := ⟨(inT_of 718 (by decide +kernel) (by decide +kernel)), by decide +kernel, (inT_of 45 (by decide +kernel) (by decide +kernel)), by decide +kernel, by decide +kernel, by decide +kernel⟩
theorem ml_X8_256 : MLV RX8 256 yX8_wasSo cX8_wasSo 3 (some .boolean) 0 := ⟨mb_X8_wasSo, Or.inl (inT_of 715 (by decide +kernel) (by decide +kernel)), (inT_of 717 (by decide +kernel) (by decide +kernel)), (inT_of 20 (by decide +kernel) (by decide +kernel))⟩
theorem mb_X8_staysWith : MLb yX8_staysWith cX8_staysWith 8 (some .boolean) 4 := ⟨(inT_of 739 (by decide +kernel) (by decide +kernel)), by decide +kernel, (inT_of 45 (by decide +kernel) (by decide +kernel)), by decide +kernel, by decide +kernel, by decide +kernel⟩
theorem ml_X8_260 : MLV RX8 260 yX8_staysWith cX8_staysWith 8 (some .boolean) 4 := ⟨mb_X8_staysWith, Or.inl (inT_of 736 (by decide +kernel) (by decide +kernel)), (inT_of 738 (by decide +kernel) (by decide +kernel)), (inT_of 21 (by decide +kernel) (by decide +kernel))⟩
theorem mb_X8_power : MLb yX8_power cX8_power 4 (some .int) 2 := ⟨(inT_of 744 (by decide +kernel) (by decide +kernel)), by decide +kernel, (inT_of 45 (by decide +kernel) (by decide +kernel)), by decide +kernel, by decide +kernel, by decide +kernel⟩
theorem ml_X8_264 : MLS RX8 264 yX8_power cX8_power 4 (some .int) 2 := ⟨mb_X8_power, Or.inl (inT_of 742 (by decide +kernel) (by decide +kernel)), (inT_of 743 (by decide +kernel) (by decide +kernel))⟩
theorem mb_X8_greatestDivisor : MLb yX8_greatestDivisor cX8_greatestDivisor 4 (some .int) 2 := ⟨(inT_of 747 (by decide +kernel) (by decide +kernel)), by decide +kernel, (inT_of 45 (by decide +kernel) (by decide +kernel)), by decide +kernel, by decide +kernel, by decide +kernel⟩
theorem ml_X8_267 : MLS RX8 267 yX8_greatestDivisor cX8_greatestDivisor 4 (some .int) 2 := ⟨mb_X8_greatestDivisor, Or.inl (inT_of 745 (by decide +kernel) (by decide +kernel)), (inT_of 746 (by decide +kernel) (by decide +kernel))⟩
theorem ml_X8_270 : MLS RX8 270 yJ9_max_7cf53 cJ9_max_7cf53 2 (some .int) 2 := ⟨mb_J9_max_7cf53, Or.inl (inT_of 748 (by decide +kernel) (by decide +kernel)), (inT_of 195 (by decide +kernel) (by decide +kernel))⟩
theorem ml_X8_275 : MLV RX8 275 yX2_gainOf cX2_gainOf 3 (some .int) 2 := ⟨mb_X2_gainOf, Or.inl (inT_of 740 (by decide +kernel) (by decide +kernel)), (inT_of 572 (by decide +kernel) (by decide +kernel)), (inT_of 573 (by decide +kernel) (by decide +kernel))⟩
theorem ml_X8_278 : MLV RX8 278 yX0_standsOf cX0_standsOf 2 (some .int) 1 := ⟨mb_X0_standsOf, Or.inl (inT_of 638 (by decide +kernel) (by decide +kernel)), (inT_of 576 (by decide +kernel) (by decide +kernel)), (inT_of 577 (by decide +kernel) (by decide +kernel))⟩
theorem mb_X8_draw : MLb yX8_draw cX8_draw 4 (some .int) 2 := ⟨(inT_of 763 (by decide +kernel) (by decide +kernel)), by decide +kernel, (inT_of 45 (by decide +kernel) (by decide +kernel)), by decide +kernel, by decide +kernel, by decide +kernel⟩
theorem ml_X8_281 : MLS RX8 281 yX8_draw cX8_draw 4 (some .int) 2 := ⟨mb_X8_draw, Or.inl (inT_of 761 (by decide +kernel) (by decide +kernel)), (inT_of 762 (by decide +kernel) (by decide +kernel))⟩
theorem ml_X8_287 : MLV RX8 287 yX0_faded cX0_faded 2 (some .int) 1 := ⟨mb_X0_faded, Or.inl (inT_of 633 (by decide +kernel) (by decide +kernel)), (inT_of 568 (by decide +kernel) (by decide +kernel)), (inT_of 569 (by decide +kernel) (by decide +kernel))⟩
theorem mb_X2_gainWithout : MLb yX2_gainWithout cX2_gainWithout 4 (some .int) 3 := ⟨(inT_of 637 (by decide +kernel) (by decide +kernel)), by decide +kernel, (inT_of 53 (by decide +kernel) (by decide +kernel)), by decide +kernel, by decide +kernel, by decide +kernel⟩
theorem ml_X8_290 : MLV RX8 290 yX2_gainWithout cX2_gainWithout 4 (some .int) 3 := ⟨mb_X2_gainWithout, Or.inl (inT_of 634 (by decide +kernel) (by decide +kernel)), (inT_of 635 (by decide +kernel) (by decide +kernel)), (inT_of 636 (by decide +kernel) (by decide +kernel))⟩
theorem ml_X8_294 : MLV RX8 294 yX2_gainOfOneMore cX2_gainOfOneMore 5 (some .int) 4 := ⟨mb_X2_gainOfOneMore, Or.inl (inT_of 741 (by decide +kernel) (by decide +kernel)), (inT_of 656 (by decide +kernel) (by decide +kernel)), (inT_of 657 (by decide +kernel) (by decide +kernel))⟩
theorem mb_X3_startLine : MLb yX3_startLine cX3_startLine 2 none 1 := ⟨(inT_of 675 (by decide +kernel) (by decide +kernel)), by decide +kernel, (inT_of 54 (by decide +kernel) (by decide +kernel)), by decide +kernel, by decide +kernel, by decide +kernel⟩
theorem ml_X8_298 : MLV RX8 298 yX3_startLine cX3_startLine 2 none 1 := ⟨mb_X3_startLine, Or.inl (inT_of 672 (by decide +kernel) (by decide +kernel)), (inT_of 673 (by decide +kernel) (by decide +kernel)), (inT_of 674 (by decide +kernel) (by decide +kernel))⟩
theorem mb_X3_startFirst : MLb yX3_startFirst cX3_startFirst 1 none 0 := ⟨(inT_of 722 (by decide +kernel) (by decide +kernel)), by decide +kernel, (inT_of 54 (by decide +kernel) (by decide +kernel)), by decide +kernel, by decide +kernel, by decide +kernel⟩
theorem ml_X8_301 : MLV RX8 301 yX3_startFirst cX3_startFirst 1 none 0 := ⟨mb_X3_startFirst, Or.inl (inT_of 719 (by decide +kernel) (by decide +kernel)), (inT_of 720 (by decide +kernel) (by decide +kernel)), (inT_of 721 (by decide +kernel) (by decide +kernel))⟩
theorem mb_X6_lastDay : MLb yX6_lastDay cX6_lastDay 3 (some .int) 0 := ⟨(inT_of 726 (by decide +kernel) (by decide +kernel)), by decide +kernel, (inT_of 52 (by decide +kernel) (by decide +kernel)), by decide +kernel, by decide +kernel, by decide +kernel⟩
theorem ml_X8_304 : MLV RX8 304 yX6_lastDay cX6_lastDay 3 (some .int) 0 := ⟨mb_X6_lastDay, Or.inl (inT_of 723 (by decide +kernel) (by decide +kernel)), (inT_of 724 (by decide +kernel) (by decide +kernel)), (inT_of 725 (by decide +kernel) (by decide +kernel))⟩
theorem mb_X6_agrees : MLb yX6_agrees cX6_agrees 4 (some .boolean) 2 := ⟨(inT_of 731 (by decide +kernel) (by decide +kernel)), by decide +kernel, (inT_of 52 (by decide +kernel) (by decide +kernel)), by decide +kernel, by decide +kernel, by decide +kernel⟩
theorem ml_X8_307 : MLV RX8 307 yX6_agrees cX6_agrees 4 (some .boolean) 2 := ⟨mb_X6_agrees, Or.inl (inT_of 728 (by decide +kernel) (by decide +kernel)), (inT_of 729 (by decide +kernel) (by decide +kernel)), (inT_of 730 (by decide +kernel) (by decide +kernel))⟩
theorem mb_J0_length_8abf5 : MLb yJ0_length_8abf5 cJ0_length_8abf5 1 (some .int) 0 := ⟨(inT_of 283 (by decide +kernel) (by decide +kernel)), by decide +kernel, (inT_of 55 (by decide +kernel) (by decide +kernel)), by decide +kernel, by decide +kernel, by decide +kernel⟩
theorem ml_X8_76 : MLV RX8 76 yJ0_length_8abf5 cJ0_length_8abf5 1 (some .int) 0 := ⟨mb_J0_length_8abf5, Or.inl (inT_of 280 (by decide +kernel) (by decide +kernel)), (inT_of 281 (by decide +kernel) (by decide +kernel)), (inT_of 282 (by decide +kernel) (by decide +kernel))⟩
theorem mb_J0_charAt_5068e : MLb yJ0_charAt_5068e cJ0_charAt_5068e 2 (some .char) 1 := ⟨(inT_of 293 (by decide +kernel) (by decide +kernel)), by decide +kernel, (inT_of 55 (by decide +kernel) (by decide +kernel)), by decide +kernel, by decide +kernel, by decide +kernel⟩
theorem ml_X8_82 : MLV RX8 82 yJ0_charAt_5068e cJ0_charAt_5068e 2 (some .char) 1 := ⟨mb_J0_charAt_5068e, Or.inl (inT_of 290 (by decide +kernel) (by decide +kernel)), (inT_of 291 (by decide +kernel) (by decide +kernel)), (inT_of 292 (by decide +kernel) (by decide +kernel))⟩
theorem mb_X4_append : MLb yX4_append cX4_append 2 (some .boolean) 1 := ⟨(inT_of 331 (by decide +kernel) (by decide +kernel)), by decide +kernel, (inT_of 46 (by decide +kernel) (by decide +kernel)), by decide +kernel, by decide +kernel, by decide +kernel⟩
theorem ml_X8_86 : MLV RX8 86 yX4_append cX4_append 2 (some .boolean) 1 := ⟨mb_X4_append, Or.inl (inT_of 328 (by decide +kernel) (by decide +kernel)), (inT_of 329 (by decide +kernel) (by decide +kernel)), (inT_of 330 (by decide +kernel) (by decide +kernel))⟩
theorem mb_X0_read : MLb yX0_read cX0_read 6 (some .int) 1 := ⟨(inT_of 335 (by decide +kernel) (by decide +kernel)), by decide +kernel, (inT_of 47 (by decide +kernel) (by decide +kernel)), by decide +kernel, by decide +kernel, by decide +kernel⟩
theorem ml_X8_90 : MLV RX8 90 yX0_read cX0_read 6 (some .int) 1 := ⟨mb_X0_read, Or.inl (inT_of 332 (by decide +kernel) (by decide +kernel)), (inT_of 333 (by decide +kernel) (by decide +kernel)), (inT_of 334 (by decide +kernel) (by decide +kernel))⟩
theorem mb_X1_begin : MLb yX1_begin cX1_begin 2 none 1 := ⟨(inT_of 393 (by decide +kernel) (by decide +kernel)), by decide +kernel, (inT_of 49 (by decide +kernel) (by decide +kernel)), by decide +kernel, by decide +kernel, by decide +kernel⟩
theorem ml_X8_94 : MLV RX8 94 yX1_begin cX1_begin 2 none 1 := ⟨mb_X1_begin, Or.inl (inT_of 390 (by decide +kernel) (by decide +kernel)), (inT_of 391 (by decide +kernel) (by decide +kernel)), (inT_of 392 (by decide +kernel) (by decide +kernel))⟩
theorem mb_X4_clear : MLb yX4_clear cX4_clear 1 none 0 := ⟨(inT_of 406 (by decide +kernel) (by decide +kernel)), by decide +kernel, (inT_of 46 (by decide +kernel) (by decide +kernel)), by decide +kernel, by decide +kernel, by decide +kernel⟩
theorem ml_X8_97 : MLV RX8 97 yX4_clear cX4_clear 1 none 0 := ⟨mb_X4_clear, Or.inl (inT_of 403 (by decide +kernel) (by decide +kernel)), (inT_of 404 (by decide +kernel) (by decide +kernel)), (inT_of 405 (by decide +kernel) (by decide +kernel))⟩
theorem mb_X9_content : MLb yX9_content cX9_content 4 (some .int) 1 := ⟨(inT_of 1049 (by decide +kernel) (by decide +kernel)), by decide +kernel, (inT_of 60 (by decide +kernel) (by decide +kernel)), by decide +kernel, by decide +kernel, by decide +kernel⟩
theorem ml_L_101 : MLV RL 101 yX9_content cX9_content 4 (some .int) 1 := ⟨mb_X9_content, Or.inl (inT_of 1046 (by decide +kernel) (by decide +kernel)), (inT_of 1047 (by decide +kernel) (by decide +kernel)), (inT_of 1048 (by decide +kernel) (by decide +kernel))⟩
theorem mb_X8_dull : MLb yX8_dull cX8_dull 6 (some .int) 1 := ⟨(inT_of 756 (by decide +kernel) (by decide +kernel)), by decide +kernel, (inT_of 45 (by decide +kernel) (by decide +kernel)), by decide +kernel, by decide +kernel, by decide +kernel⟩
theorem ml_L_102 : MLV RL 102 yX8_dull cX8_dull 6 (some .int) 1 := ⟨mb_X8_dull, Or.inl (inT_of 753 (by decide +kernel) (by decide +kernel)), (inT_of 754 (by decide +kernel) (by decide +kernel)), (inT_of 755 (by decide +kernel) (by decide +kernel))⟩
theorem mb_X9_dull : MLb yX9_dull cX9_dull 6 (some .int) 1 := ⟨(inT_of 1053 (by decide +kernel) (by decide +kernel)), by decide +kernel, (inT_of 60 (by decide +kernel) (by decide +kernel)), by decide +kernel, by decide +kernel, by decide +kernel⟩
theorem ml_L_105 : MLV RL 105 yX9_dull cX9_dull 6 (some .int) 1 := ⟨mb_X9_dull, Or.inl (inT_of 1050 (by decide +kernel) (by decide +kernel)), (inT_of 1051 (by decide +kernel) (by decide +kernel)), (inT_of 1052 (by decide +kernel) (by decide +kernel))⟩
theorem mb_X8_year : MLb yX8_year cX8_year 7 (some .int) 3 := ⟨(inT_of 760 (by decide +kernel) (by decide +kernel)), by decide +kernel, (inT_of 45 (by decide +kernel) (by decide +kernel)), by decide +kernel, by decide +kernel, by decide +kernel⟩
theorem ml_L_106 : MLV RL 106 yX8_year cX8_year 7 (some .int) 3 := ⟨mb_X8_year, Or.inl (inT_of 757 (by decide +kernel) (by decide +kernel)), (inT_of 758 (by decide +kernel) (by decide +kernel)), (inT_of 759 (by decide +kernel) (by decide +kernel))⟩
theorem mb_X9_year : MLb yX9_year cX9_year 9 (some .int) 3 := ⟨(inT_of 1057 (by decide +kernel) (by decide +kernel)), by decide +kernel, (inT_of 60 (by decide +kernel) (by decide +kernel)), by decide +kernel, by decide +kernel, by decide +kernel⟩
theorem ml_L_109 : MLV RL 109 yX9_year cX9_year 9 (some .int) 3 := ⟨mb_X9_year, Or.inl (inT_of 1054 (by decide +kernel) (by decide +kernel)), (inT_of 1055 (by decide +kernel) (by decide +kernel)), (inT_of 1056 (by decide +kernel) (by decide +kernel))⟩
theorem mb_X8_keep : MLb yX8_keep cX8_keep 1 (some .int) 0 := ⟨(inT_of 771 (by decide +kernel) (by decide +kernel)), by decide +kernel, (inT_of 45 (by decide +kernel) (by decide +kernel)), by decide +kernel, by decide +kernel, by decide +kernel⟩
theorem ml_L_110 : MLV RL 110 yX8_keep cX8_keep 1 (some .int) 0 := ⟨mb_X8_keep, Or.inl (inT_of 768 (by decide +kernel) (by decide +kernel)), (inT_of 769 (by decide +kernel) (by decide +kernel)), (inT_of 770 (by decide +kernel) (by decide +kernel))⟩
theorem mb_X9_keep : MLb yX9_keep cX9_keep 1 (some .int) 0 := ⟨(inT_of 1065 (by decide +kernel) (by decide +kernel)), by decide +kernel, (inT_of 60 (by decide +kernel) (by decide +kernel)), by decide +kernel, by decide +kernel, by decide +kernel⟩
theorem ml_L_113 : MLV RL 113 yX9_keep cX9_keep 1 (some .int) 0 := ⟨mb_X9_keep, Or.inl (inT_of 1062 (by decide +kernel) (by decide +kernel)), (inT_of 1063 (by decide +kernel) (by decide +kernel)), (inT_of 1064 (by decide +kernel) (by decide +kernel))⟩
theorem mb_X8_back : MLb yX8_back cX8_back 1 (some .int) 0 := ⟨(inT_of 775 (by decide +kernel) (by decide +kernel)), by decide +kernel, (inT_of 45 (by decide +kernel) (by decide +kernel)), by decide +kernel, by decide +kernel, by decide +kernel⟩
theorem ml_L_114 : MLV RL 114 yX8_back cX8_back 1 (some .int) 0 := ⟨mb_X8_back, Or.inl (inT_of 772 (by decide +kernel) (by decide +kernel)), (inT_of 773 (by decide +kernel) (by decide +kernel)), (inT_of 774 (by decide +kernel) (by decide +kernel))⟩
theorem mb_X9_back : MLb yX9_back cX9_back 2 (some .int) 0 := ⟨(inT_of 1069 (by decide +kernel) (by decide +kernel)), by decide +kernel, (inT_of 60 (by decide +kernel) (by decide +kernel)), by decide +kernel, by decide +kernel, by decide +kernel⟩
theorem ml_L_117 : MLV RL 117 yX9_back cX9_back 2 (some .int) 0 := ⟨mb_X9_back, Or.inl (inT_of 1066 (by decide +kernel) (by decide +kernel)), (inT_of 1067 (by decide +kernel) (by decide +kernel)), (inT_of 1068 (by decide +kernel) (by decide +kernel))⟩
theorem mb_X8_count : MLb yX8_count cX8_count 2 (some .int) 1 := ⟨(inT_of 779 (by decide +kernel) (by decide +kernel)), by decide +kernel, (inT_of 45 (by decide +kernel) (by decide +kernel)), by decide +kernel, by decide +kernel, by decide +kernel⟩
theorem ml_L_118 : MLV RL 118 yX8_count cX8_count 2 (some .int) 1 := ⟨mb_X8_count, Or.inl (inT_of 776 (by decide +kernel) (by decide +kernel)), (inT_of 777 (by decide +kernel) (by decide +kernel)), (inT_of 778 (by decide +kernel) (by decide +kernel))⟩
theorem mb_X9_count : MLb yX9_count cX9_count 2 (some .int) 1 := ⟨(inT_of 1073 (by decide +kernel) (by decide +kernel)), by decide +kernel, (inT_of 60 (by decide +kernel) (by decide +kernel)), by decide +kernel, by decide +kernel, by decide +kernel⟩
theorem ml_L_121 : MLV RL 121 yX9_count cX9_count 2 (some .int) 1 := ⟨mb_X9_count, Or.inl (inT_of 1070 (by decide +kernel) (by decide +kernel)), (inT_of 1071 (by decide +kernel) (by decide +kernel)), (inT_of 1072 (by decide +kernel) (by decide +kernel))⟩
theorem mb_X8_write : MLb yX8_write cX8_write 2 (some .int) 1 := ⟨(inT_of 442 (by decide +kernel) (by decide +kernel)), by decide +kernel, (inT_of 45 (by decide +kernel) (by decide +kernel)), by decide +kernel, by decide +kernel, by decide +kernel⟩
theorem ml_L_13 : MLV RL 13 yX8_write cX8_write 2 (some .int) 1 := ⟨mb_X8_write, Or.inl (inT_of 439 (by decide +kernel) (by decide +kernel)), (inT_of 440 (by decide +kernel) (by decide +kernel)), (inT_of 441 (by decide +kernel) (by decide +kernel))⟩
theorem mb_X9_write : MLb yX9_write cX9_write 2 (some .int) 1 := ⟨(inT_of 880 (by decide +kernel) (by decide +kernel)), by decide +kernel, (inT_of 60 (by decide +kernel) (by decide +kernel)), by decide +kernel, by decide +kernel, by decide +kernel⟩
theorem ml_L_17 : MLV RL 17 yX9_write cX9_write 2 (some .int) 1 := ⟨mb_X9_write, Or.inl (inT_of 877 (by decide +kernel) (by decide +kernel)), (inT_of 878 (by decide +kernel) (by decide +kernel)), (inT_of 879 (by decide +kernel) (by decide +kernel))⟩
theorem mb_X8_wipe : MLb yX8_wipe cX8_wipe 2 (some .int) 0 := ⟨(inT_of 446 (by decide +kernel) (by decide +kernel)), by decide +kernel, (inT_of 45 (by decide +kernel) (by decide +kernel)), by decide +kernel, by decide +kernel, by decide +kernel⟩
theorem ml_L_18 : MLV RL 18 yX8_wipe cX8_wipe 2 (some .int) 0 := ⟨mb_X8_wipe, Or.inl (inT_of 443 (by decide +kernel) (by decide +kernel)), (inT_of 444 (by decide +kernel) (by decide +kernel)), (inT_of 445 (by decide +kernel) (by decide +kernel))⟩
theorem mb_X9_wipe : MLb yX9_wipe cX9_wipe 2 (some .int) 0 := ⟨(inT_of 887 (by decide +kernel) (by decide +kernel)), by decide +kernel, (inT_of 60 (by decide +kernel) (by decide +kernel)), by decide +kernel, by decide +kernel, by decide +kernel⟩
theorem ml_L_22 : MLV RL 22 yX9_wipe cX9_wipe 2 (some .int) 0 := ⟨mb_X9_wipe, Or.inl (inT_of 884 (by decide +kernel) (by decide +kernel)), (inT_of 885 (by decide +kernel) (by decide +kernel)), (inT_of 886 (by decide +kernel) (by decide +kernel))⟩
theorem mb_X8_fault : MLb yX8_fault cX8_fault 1 (some .int) 0 := ⟨(inT_of 450 (by decide +kernel) (by decide +kernel)), by decide +kernel, (inT_of 45 (by decide +kernel) (by decide +kernel)), by decide +kernel, by decide +kernel, by decide +kernel⟩
theorem ml_L_23 : MLV RL 23 yX8_fault cX8_fault 1 (some .int) 0 := ⟨mb_X8_fault, Or.inl (inT_of 447 (by decide +kernel) (by decide +kernel)), (inT_of 448 (by decide +kernel) (by decide +kernel)), (inT_of 449 (by decide +kernel) (by decide +kernel))⟩
theorem mb_X9_fault : MLb yX9_fault cX9_fault 2 (some .int) 0 := ⟨(inT_of 891 (by decide +kernel) (by decide +kernel)), by decide +kernel, (inT_of 60 (by decide +kernel) (by decide +kernel)), by decide +kernel, by decide +kernel, by decide +kernel⟩
theorem ml_L_26 : MLV RL 26 yX9_fault cX9_fault 2 (some .int) 0 := ⟨mb_X9_fault, Or.inl (inT_of 888 (by decide +kernel) (by decide +kernel)), (inT_of 889 (by decide +kernel) (by decide +kernel)), (inT_of 890 (by decide +kernel) (by decide +kernel))⟩
theorem mb_X8_lay : MLb yX8_lay cX8_lay 1 (some .int) 0 := ⟨(inT_of 454 (by decide +kernel) (by decide +kernel)), by decide +kernel, (inT_of 45 (by decide +kernel) (by decide +kernel)), by decide +kernel, by decide +kernel, by decide +kernel⟩
theorem ml_L_27 : MLV RL 27 yX8_lay cX8_lay 1 (some .int) 0 := ⟨mb_X8_lay, Or.inl (inT_of 451 (by decide +kernel) (by decide +kernel)), (inT_of 452 (by decide +kernel) (by decide +kernel)), (inT_of 453 (by decide +kernel) (by decide +kernel))⟩
theorem mb_X9_lay : MLb yX9_lay cX9_lay 1 (some .int) 0 := ⟨(inT_of 926 (by decide +kernel) (by decide +kernel)), by decide +kernel, (inT_of 60 (by decide +kernel) (by decide +kernel)), by decide +kernel, by decide +kernel, by decide +kernel⟩
theorem ml_L_30 : MLV RL 30 yX9_lay cX9_lay 1 (some .int) 0 := ⟨mb_X9_lay, Or.inl (inT_of 923 (by decide +kernel) (by decide +kernel)), (inT_of 924 (by decide +kernel) (by decide +kernel)), (inT_of 925 (by decide +kernel) (by decide +kernel))⟩
theorem mb_X8_person : MLb yX8_person cX8_person 3 (some .int) 2 := ⟨(inT_of 466 (by decide +kernel) (by decide +kernel)), by decide +kernel, (inT_of 45 (by decide +kernel) (by decide +kernel)), by decide +kernel, by decide +kernel, by decide +kernel⟩
theorem ml_L_31 : MLV RL 31 yX8_person cX8_person 3 (some .int) 2 := ⟨mb_X8_person, Or.inl (inT_of 463 (by decide +kernel) (by decide +kernel)), (inT_of 464 (by decide +kernel) (by decide +kernel)), (inT_of 465 (by decide +kernel) (by decide +kernel))⟩
theorem mb_X9_person : MLb yX9_person cX9_person 4 (some .int) 2 := ⟨(inT_of 931 (by decide +kernel) (by decide +kernel)), by decide +kernel, (inT_of 60 (by decide +kernel) (by decide +kernel)), by decide +kernel, by decide +kernel, by decide +kernel⟩
theorem ml_L_35 : MLV RL 35 yX9_person cX9_person 4 (some .int) 2 := ⟨mb_X9_person, Or.inl (inT_of 928 (by decide +kernel) (by decide +kernel)), (inT_of 929 (by decide +kernel) (by decide +kernel)), (inT_of 930 (by decide +kernel) (by decide +kernel))⟩
theorem mb_X8_thing : MLb yX8_thing cX8_thing 3 (some .int) 2 := ⟨(inT_of 478 (by decide +kernel) (by decide +kernel)), by decide +kernel, (inT_of 45 (by decide +kernel) (by decide +kernel)), by decide +kernel, by decide +kernel, by decide +kernel⟩
theorem ml_L_36 : MLV RL 36 yX8_thing cX8_thing 3 (some .int) 2 := ⟨mb_X8_thing, Or.inl (inT_of 475 (by decide +kernel) (by decide +kernel)), (inT_of 476 (by decide +kernel) (by decide +kernel)), (inT_of 477 (by decide +kernel) (by decide +kernel))⟩
theorem mb_X9_thing : MLb yX9_thing cX9_thing 3 (some .int) 2 := ⟨(inT_of 939 (by decide +kernel) (by decide +kernel)), by decide +kernel, (inT_of 60 (by decide +kernel) (by decide +kernel)), by decide +kernel, by decide +kernel, by decide +kernel⟩
theorem ml_L_39 : MLV RL 39 yX9_thing cX9_thing 3 (some .int) 2 := ⟨mb_X9_thing, Or.inl (inT_of 936 (by decide +kernel) (by decide +kernel)), (inT_of 937 (by decide +kernel) (by decide +kernel)), (inT_of 938 (by decide +kernel) (by decide +kernel))⟩
theorem mb_X8_pass : MLb yX8_pass cX8_pass 4 (some .int) 1 := ⟨(inT_of 490 (by decide +kernel) (by decide +kernel)), by decide +kernel, (inT_of 45 (by decide +kernel) (by decide +kernel)), by decide +kernel, by decide +kernel, by decide +kernel⟩
theorem ml_L_40 : MLV RL 40 yX8_pass cX8_pass 4 (some .int) 1 := ⟨mb_X8_pass, Or.inl (inT_of 487 (by decide +kernel) (by decide +kernel)), (inT_of 488 (by decide +kernel) (by decide +kernel)), (inT_of 489 (by decide +kernel) (by decide +kernel))⟩
theorem mb_X9_pass : MLb yX9_pass cX9_pass 3 (some .int) 1 := ⟨(inT_of 947 (by decide +kernel) (by decide +kernel)), by decide +kernel, (inT_of 60 (by decide +kernel) (by decide +kernel)), by decide +kernel, by decide +kernel, by decide +kernel⟩
theorem ml_L_43 : MLV RL 43 yX9_pass cX9_pass 3 (some .int) 1 := ⟨mb_X9_pass, Or.inl (inT_of 944 (by decide +kernel) (by decide +kernel)), (inT_of 945 (by decide +kernel) (by decide +kernel)), (inT_of 946 (by decide +kernel) (by decide +kernel))⟩
theorem mb_X8_hide : MLb yX8_hide cX8_hide 2 (some .int) 1 := ⟨(inT_of 586 (by decide +kernel) (by decide +kernel)), by decide +kernel, (inT_of 45 (by decide +kernel) (by decide +kernel)), by decide +kernel, by decide +kernel, by decide +kernel⟩
theorem ml_L_44 : MLV RL 44 yX8_hide cX8_hide 2 (some .int) 1 := ⟨mb_X8_hide, Or.inl (inT_of 583 (by decide +kernel) (by decide +kernel)), (inT_of 584 (by decide +kernel) (by decide +kernel)), (inT_of 585 (by decide +kernel) (by decide +kernel))⟩
theorem mb_X9_hide : MLb yX9_hide cX9_hide 2 (some .int) 1 := ⟨(inT_of 985 (by decide +kernel) (by decide +kernel)), by decide +kernel, (inT_of 60 (by decide +kernel) (by decide +kernel)), by decide +kernel, by decide +kernel, by decide +kernel⟩
theorem ml_L_47 : MLV RL 47 yX9_hide cX9_hide 2 (some .int) 1 := ⟨mb_X9_hide, Or.inl (inT_of 982 (by decide +kernel) (by decide +kernel)), (inT_of 983 (by decide +kernel) (by decide +kernel)), (inT_of 984 (by decide +kernel) (by decide +kernel))⟩
theorem mb_X8_arrange : MLb yX8_arrange cX8_arrange 4 (some .int) 3 := ⟨(inT_of 590 (by decide +kernel) (by decide +kernel)), by decide +kernel, (inT_of 45 (by decide +kernel) (by decide +kernel)), by decide +kernel, by decide +kernel, by decide +kernel⟩
theorem ml_L_48 : MLV RL 48 yX8_arrange cX8_arrange 4 (some .int) 3 := ⟨mb_X8_arrange, Or.inl (inT_of 587 (by decide +kernel) (by decide +kernel)), (inT_of 588 (by decide +kernel) (by decide +kernel)), (inT_of 589 (by decide +kernel) (by decide +kernel))⟩
theorem mb_X9_arrange : MLb yX9_arrange cX9_arrange 4 (some .int) 3 := ⟨(inT_of 989 (by decide +kernel) (by decide +kernel)), by decide +kernel, (inT_of 60 (by decide +kernel) (by decide +kernel)), by decide +kernel, by decide +kernel, by decide +kernel⟩
theorem ml_L_52 : MLV RL 52 yX9_arrange cX9_arrange 4 (some .int) 3 := ⟨mb_X9_arrange, Or.inl (inT_of 986 (by decide +kernel) (by decide +kernel)), (inT_of 987 (by decide +kernel) (by decide +kernel)), (inT_of 988 (by decide +kernel) (by decide +kernel))⟩
theorem mb_X8_undo : MLb yX8_undo cX8_undo 1 (some .int) 0 := ⟨(inT_of 597 (by decide +kernel) (by decide +kernel)), by decide +kernel, (inT_of 45 (by decide +kernel) (by decide +kernel)), by decide +kernel, by decide +kernel, by decide +kernel⟩
theorem ml_L_53 : MLV RL 53 yX8_undo cX8_undo 1 (some .int) 0 := ⟨mb_X8_undo, Or.inl (inT_of 594 (by decide +kernel) (by decide +kernel)), (inT_of 595 (by decide +kernel) (by decide +kernel)), (inT_of 596 (by decide +kernel) (by decide +kernel))⟩
theorem mb_X9_undo : MLb yX9_undo cX9_undo 2 (some .int) 0 := ⟨(inT_of 993 (by decide +kernel) (by decide +kernel)), by decide +kernel, (inT_of 60 (by decide +kernel) (by decide +kernel)), by decide +kernel, by decide +kernel, by decide +kernel⟩
theorem ml_L_56 : MLV RL 56 yX9_undo cX9_undo 2 (some .int) 0 := ⟨mb_X9_undo, Or.inl (inT_of 990 (by decide +kernel) (by decide +kernel)), (inT_of 991 (by decide +kernel) (by decide +kernel)), (inT_of 992 (by decide +kernel) (by decide +kernel))⟩
theorem mb_X8_king : MLb yX8_king cX8_king 4 (some .int) 2 := ⟨(inT_of 605 (by decide +kernel) (by decide +kernel)), by decide +kernel, (inT_of 45 (by decide +kernel) (by decide +kernel)), by decide +kernel, by decide +kernel, by decide +kernel⟩
theorem ml_L_57 : MLV RL 57 yX8_king cX8_king 4 (some .int) 2 := ⟨mb_X8_king, Or.inl (inT_of 602 (by decide +kernel) (by decide +kernel)), (inT_of 603 (by decide +kernel) (by decide +kernel)), (inT_of 604 (by decide +kernel) (by decide +kernel))⟩
theorem mb_X9_king : MLb yX9_king cX9_king 3 (some .int) 2 := ⟨(inT_of 997 (by decide +kernel) (by decide +kernel)), by decide +kernel, (inT_of 60 (by decide +kernel) (by decide +kernel)), by decide +kernel, by decide +kernel, by decide +kernel⟩
theorem ml_L_60 : MLV RL 60 yX9_king cX9_king 3 (some .int) 2 := ⟨mb_X9_king, Or.inl (inT_of 994 (by decide +kernel) (by decide +kernel)), (inT_of 995 (by decide +kernel) (by decide +kernel)), (inT_of 996 (by decide +kernel) (by decide +kernel))⟩
theorem mb_X8_bell : MLb yX8_bell cX8_bell 2 (some .int) 0 := ⟨(inT_of 616 (by decide +kernel) (by decide +kernel)), by decide +kernel, (inT_of 45 (by decide +kernel) (by decide +kernel)), by decide +kernel, by decide +kernel, by decide +kernel⟩
theorem ml_L_61 : MLV RL 61 yX8_bell cX8_bell 2 (some .int) 0 := ⟨mb_X8_bell, Or.inl (inT_of 613 (by decide +kernel) (by decide +kernel)), (inT_of 614 (by decide +kernel) (by decide +kernel)), (inT_of 615 (by decide +kernel) (by decide +kernel))⟩
theorem mb_X9_bell : MLb yX9_bell cX9_bell 1 (some .int) 0 := ⟨(inT_of 1001 (by decide +kernel) (by decide +kernel)), by decide +kernel, (inT_of 60 (by decide +kernel) (by decide +kernel)), by decide +kernel, by decide +kernel, by decide +kernel⟩
theorem ml_L_64 : MLV RL 64 yX9_bell cX9_bell 1 (some .int) 0 := ⟨mb_X9_bell, Or.inl (inT_of 998 (by decide +kernel) (by decide +kernel)), (inT_of 999 (by decide +kernel) (by decide +kernel)), (inT_of 1000 (by decide +kernel) (by decide +kernel))⟩
theorem mb_X8_hides : MLb yX8_hides cX8_hides 6 (some .int) 1 := ⟨(inT_of 624 (by decide +kernel) (by decide +kernel)), by decide +kernel, (inT_of 45 (by decide +kernel) (by decide +kernel)), by decide +kernel, by decide +kernel, by decide +kernel⟩
theorem ml_L_65 : MLV RL 65 yX8_hides cX8_hides 6 (some .int) 1 := ⟨mb_X8_hides, Or.inl (inT_of 621 (by decide +kernel) (by decide +kernel)), (inT_of 622 (by decide +kernel) (by decide +kernel)), (inT_of 623 (by decide +kernel) (by decide +kernel))⟩
theorem mb_X9_hides : MLb yX9_hides cX9_hides 5 (some .int) 1 := ⟨(inT_of 1009 (by decide +kernel) (by decide +kernel)), by decide +kernel, (inT_of 60 (by decide +kernel) (by decide +kernel)), by decide +kernel, by decide +kernel, by decide +kernel⟩
theorem ml_L_68 : MLV RL 68 yX9_hides cX9_hides 5 (some .int) 1 := ⟨mb_X9_hides, Or.inl (inT_of 1006 (by decide +kernel) (by decide +kernel)), (inT_of 1007 (by decide +kernel) (by decide +kernel)), (inT_of 1008 (by decide +kernel) (by decide +kernel))⟩
theorem mb_X8_raise : MLb yX8_raise cX8_raise 8 (some .int) 2 := ⟨(inT_of 642 (by decide +kernel) (by decide +kernel)), by decide +kernel, (inT_of 45 (by decide +kernel) (by decide +kernel)), by decide +kernel, by decide +kernel, by decide +kernel⟩
theorem ml_L_69 : MLV RL 69 yX8_raise cX8_raise 8 (some .int) 2 := ⟨mb_X8_raise, Or.inl (inT_of 639 (by decide +kernel) (by decide +kernel)), (inT_of 640 (by decide +kernel) (by decide +kernel)), (inT_of 641 (by decide +kernel) (by decide +kernel))⟩
theorem mb_X9_raise : MLb yX9_raise cX9_raise 7 (some .int) 2 := ⟨(inT_of 1013 (by decide +kernel) (by decide +kernel)), by decide +kernel, (inT_of 60 (by decide +kernel) (by decide +kernel)), by decide +kernel, by decide +kernel, by decide +kernel⟩
theorem ml_L_72 : MLV RL 72 yX9_raise cX9_raise 7 (some .int) 2 := ⟨mb_X9_raise, Or.inl (inT_of 1010 (by decide +kernel) (by decide +kernel)), (inT_of 1011 (by decide +kernel) (by decide +kernel)), (inT_of 1012 (by decide +kernel) (by decide +kernel))⟩
theorem mb_X8_order : MLb yX8_order cX8_order 6 (some .int) 2 := ⟨(inT_of 666 (by decide +kernel) (by decide +kernel)), by decide +kernel, (inT_of 45 (by decide +kernel) (by decide +kernel)), by decide +kernel, by decide +kernel, by decide +kernel⟩
theorem ml_L_73 : MLV RL 73 yX8_order cX8_order 6 (some .int) 2 := ⟨mb_X8_order, Or.inl (inT_of 663 (by decide +kernel) (by decide +kernel)), (inT_of 664 (by decide +kernel) (by decide +kernel)), (inT_of 665 (by decide +kernel) (by decide +kernel))⟩
theorem mb_X9_order : MLb yX9_order cX9_order 7 (some .int) 2 := ⟨(inT_of 1021 (by decide +kernel) (by decide +kernel)), by decide +kernel, (inT_of 60 (by decide +kernel) (by decide +kernel)), by decide +kernel, by decide +kernel, by decide +kernel⟩
theorem ml_L_76 : MLV RL 76 yX9_order cX9_order 7 (some .int) 2 := ⟨mb_X9_order, Or.inl (inT_of 1018 (by decide +kernel) (by decide +kernel)), (inT_of 1019 (by decide +kernel) (by decide +kernel)), (inT_of 1020 (by decide +kernel) (by decide +kernel))⟩
theorem mb_X8_away : MLb yX8_away cX8_away 6 (some .int) 1 := ⟨(inT_of 697 (by decide +kernel) (by decide +kernel)), by decide +kernel, (inT_of 45 (by decide +kernel) (by decide +kernel)), by decide +kernel, by decide +kernel, by decide +kernel⟩
theorem ml_L_77 : MLV RL 77 yX8_away cX8_away 6 (some .int) 1 := ⟨mb_X8_away, Or.inl (inT_of 694 (by decide +kernel) (by decide +kernel)), (inT_of 695 (by decide +kernel) (by decide +kernel)), (inT_of 696 (by decide +kernel) (by decide +kernel))⟩
theorem mb_X9_away : MLb yX9_away cX9_away 6 (some .int) 1 := ⟨(inT_of 1029 (by decide +kernel) (by decide +kernel)), by decide +kernel, (inT_of 60 (by decide +kernel) (by decide +kernel)), by decide +kernel, by decide +kernel, by decide +kernel⟩
theorem ml_L_80 : MLV RL 80 yX9_away cX9_away 6 (some .int) 1 := ⟨mb_X9_away, Or.inl (inT_of 1026 (by decide +kernel) (by decide +kernel)), (inT_of 1027 (by decide +kernel) (by decide +kernel)), (inT_of 1028 (by decide +kernel) (by decide +kernel))⟩
theorem mb_X8_seen : MLb yX8_seen cX8_seen 3 (some .int) 2 := ⟨(inT_of 701 (by decide +kernel) (by decide +kernel)), by decide +kernel, (inT_of 45 (by decide +kernel) (by decide +kernel)), by decide +kernel, by decide +kernel, by decide +kernel⟩
theorem ml_L_81 : MLV RL 81 yX8_seen cX8_seen 3 (some .int) 2 := ⟨mb_X8_seen, Or.inl (inT_of 698 (by decide +kernel) (by decide +kernel)), (inT_of 699 (by decide +kernel) (by decide +kernel)), (inT_of 700 (by decide +kernel) (by decide +kernel))⟩
theorem mb_X9_seen : MLb yX9_seen cX9_seen 3 (some .int) 2 := ⟨(inT_of 1033 (by decide +kernel) (by decide +kernel)), by decide +kernel, (inT_of 60 (by decide +kernel) (by decide +kernel)), by decide +kernel, by decide +kernel, by decide +kernel⟩
theorem ml_L_84 : MLV RL 84 yX9_seen cX9_seen 3 (some .int) 2 := ⟨mb_X9_seen, Or.inl (inT_of 1030 (by decide +kernel) (by decide +kernel)), (inT_of 1031 (by decide +kernel) (by decide +kernel)), (inT_of 1032 (by decide +kernel) (by decide +kernel))⟩
theorem mb_X8_forget : MLb yX8_forget cX8_forget 2 (some .int) 0 := ⟨(inT_of 709 (by decide +kernel) (by decide +kernel)), by decide +kernel, (inT_of 45 (by decide +kernel) (by decide +kernel)), by decide +kernel, by decide +kernel, by decide +kernel⟩
theorem ml_L_85 : MLV RL 85 yX8_forget cX8_forget 2 (some .int) 0 := ⟨mb_X8_forget, Or.inl (inT_of 706 (by decide +kernel) (by decide +kernel)), (inT_of 707 (by decide +kernel) (by decide +kernel)), (inT_of 708 (by decide +kernel) (by decide +kernel))⟩
theorem mb_X9_forget : MLb yX9_forget cX9_forget 2 (some .int) 0 := ⟨(inT_of 1037 (by decide +kernel) (by decide +kernel)), by decide +kernel, (inT_of 60 (by decide +kernel) (by decide +kernel)), by decide +kernel, by decide +kernel, by decide +kernel⟩
theorem ml_L_88 : MLV RL 88 yX9_forget cX9_forget 2 (some .int) 0 := ⟨mb_X9_forget, Or.inl (inT_of 1034 (by decide +kernel) (by decide +kernel)), (inT_of 1035 (by decide +kernel) (by decide +kernel)), (inT_of 1036 (by decide +kernel) (by decide +kernel))⟩
theorem mb_X8_tastes : MLb yX8_tastes cX8_tastes 6 (some .int) 2 := ⟨(inT_of 713 (by decide +kernel) (by decide +kernel)), by decide +kernel, (inT_of 45 (by decide +kernel) (by decide +kernel)), by decide +kernel, by decide +kernel, by decide +kernel⟩
theorem ml_L_89 : MLV RL 89 yX8_tastes cX8_tastes 6 (some .int) 2 := ⟨mb_X8_tastes, Or.inl (inT_of 710 (by decide +kernel) (by decide +kernel)), (inT_of 711 (by decide +kernel) (by decide +kernel)), (inT_of 712 (by decide +kernel) (by decide +kernel))⟩
theorem mb_X9_tastes : MLb yX9_tastes cX9_tastes 10 (some .int) 2 := ⟨(inT_of 1041 (by decide +kernel) (by decide +kernel)), by decide +kernel, (inT_of 60 (by decide +kernel) (by decide +kernel)), by decide +kernel, by decide +kernel, by decide +kernel⟩
theorem ml_L_92 : MLV RL 92 yX9_tastes cX9_tastes 10 (some .int) 2 := ⟨mb_X9_tastes, Or.inl (inT_of 1038 (by decide +kernel) (by decide +kernel)), (inT_of 1039 (by decide +kernel) (by decide +kernel)), (inT_of 1040 (by decide +kernel) (by decide +kernel))⟩
theorem mb_X8_lasts : MLb yX8_lasts cX8_lasts 9 (some .int) 5 := ⟨(inT_of 735 (by decide +kernel) (by decide +kernel)), by decide +kernel, (inT_of 45 (by decide +kernel) (by decide +kernel)), by decide +kernel, by decide +kernel, by decide +kernel⟩
theorem ml_L_93 : MLV RL 93 yX8_lasts cX8_lasts 9 (some .int) 5 := ⟨mb_X8_lasts, Or.inl (inT_of 732 (by decide +kernel) (by decide +kernel)), (inT_of 733 (by decide +kernel) (by decide +kernel)), (inT_of 734 (by decide +kernel) (by decide +kernel))⟩
theorem mb_X9_lasts : MLb yX9_lasts cX9_lasts 12 (some .int) 5 := ⟨(inT_of 1045 (by decide +kernel) (by decide +kernel)), by decide +kernel, (inT_of 60 (by decide +kernel) (by decide +kernel)), by decide +kernel, by decide +kernel, by decide +kernel⟩
theorem ml_L_97 : MLV RL 97 yX9_lasts cX9_lasts 12 (some .int) 5 := ⟨mb_X9_lasts, Or.inl (inT_of 1042 (by decide +kernel) (by decide +kernel)), (inT_of 1043 (by decide +kernel) (by decide +kernel)), (inT_of 1044 (by decide +kernel) (by decide +kernel))⟩
theorem mb_X8_content : MLb yX8_content cX8_content 4 (some .int) 1 := ⟨(inT_of 752 (by decide +kernel) (by decide +kernel)), by decide +kernel, (inT_of 45 (by decide +kernel) (by decide +kernel)), by decide +kernel, by decide +kernel, by decide +kernel⟩
theorem ml_L_98 : MLV RL 98 yX8_content cX8_content 4 (some .int) 1 := ⟨mb_X8_content, Or.inl (inT_of 749 (by decide +kernel) (by decide +kernel)), (inT_of 750 (by decide +kernel) (by decide +kernel)), (inT_of 751 (by decide +kernel) (by decide +kernel))⟩
theorem mb_X9_readThingOf : MLb yX9_readThingOf cX9_readThingOf 1 (some .boolean) 0 := ⟨(inT_of 918 (by decide +kernel) (by decide +kernel)), by decide +kernel, (inT_of 60 (by decide +kernel) (by decide +kernel)), by decide +kernel, by decide +kernel, by decide +kernel⟩
theorem ml_X9_101 : MLV RX9 101 yX9_readThingOf cX9_readThingOf 1 (some .boolean) 0 := ⟨mb_X9_readThingOf, Or.inl (inT_of 915 (by decide +kernel) (by decide +kernel)), (inT_of 917 (by decide +kernel) (by decide +kernel)), (inT_of 30 (by decide +kernel) (by decide +kernel))⟩
theorem mb_X9_readFadesOf : MLb yX9_readFadesOf cX9_readFadesOf 2 (some .boolean) 0 := ⟨(inT_of 922 (by decide +kernel) (by decide +kernel)), by decide +kernel, (inT_of 60 (by decide +kernel) (by decide +kernel)), by decide +kernel, by decide +kernel, by decide +kernel⟩
theorem ml_X9_104 : MLV RX9 104 yX9_readFadesOf cX9_readFadesOf 2 (some .boolean) 0 := ⟨mb_X9_readFadesOf, Or.inl (inT_of 919 (by decide +kernel) (by decide +kernel)), (inT_of 921 (by decide +kernel) (by decide +kernel)), (inT_of 31 (by decide +kernel) (by decide +kernel))⟩
theorem mb_X9_readItem : MLb yX9_readItem cX9_readItem 2 (some .boolean) 0 := ⟨(inT_of 895 (by decide +kernel) (by decide +kernel)), by decide +kernel, (inT_of 60 (by decide +kernel) (by decide +kernel)), by decide +kernel, by decide +kernel, by decide +kernel⟩
theorem ml_X9_107 : MLV RX9 107 yX9_readItem cX9_readItem 2 (some .boolean) 0 := ⟨mb_X9_readItem, Or.inl (inT_of 892 (by decide +kernel) (by decide +kernel)), (inT_of 894 (by decide +kernel) (by decide +kernel)), (inT_of 25 (by decide +kernel) (by decide +kernel))⟩
theorem ml_X9_110 : MLV RX9 110 yX9_fault cX9_fault 2 (some .int) 0 := ⟨mb_X9_fault, Or.inl (inT_of 927 (by decide +kernel) (by decide +kernel)), (inT_of 889 (by decide +kernel) (by decide +kernel)), (inT_of 890 (by decide +kernel) (by decide +kernel))⟩
theorem mb_X9_put : MLb yX9_put cX9_put 5 none 4 := ⟨(inT_of 803 (by decide +kernel) (by decide +kernel)), by decide +kernel, (inT_of 60 (by decide +kernel) (by decide +kernel)), by decide +kernel, by decide +kernel, by decide +kernel⟩
theorem ml_X9_117 : MLS RX9 117 yX9_put cX9_put 5 none 4 := ⟨mb_X9_put, Or.inl (inT_of 801 (by decide +kernel) (by decide +kernel)), (inT_of 802 (by decide +kernel) (by decide +kernel))⟩
theorem mb_X9_bits : MLb yX9_bits cX9_bits 3 (some .int) 1 := ⟨(inT_of 977 (by decide +kernel) (by decide +kernel)), by decide +kernel, (inT_of 60 (by decide +kernel) (by decide +kernel)), by decide +kernel, by decide +kernel, by decide +kernel⟩
theorem ml_X9_133 : MLS RX9 133 yX9_bits cX9_bits 3 (some .int) 1 := ⟨mb_X9_bits, Or.inl (inT_of 975 (by decide +kernel) (by decide +kernel)), (inT_of 976 (by decide +kernel) (by decide +kernel))⟩
theorem mb_X9_has : MLb yX9_has cX9_has 2 (some .boolean) 2 := ⟨(inT_of 970 (by decide +kernel) (by decide +kernel)), by decide +kernel, (inT_of 60 (by decide +kernel) (by decide +kernel)), by decide +kernel, by decide +kernel, by decide +kernel⟩
theorem ml_X9_136 : MLS RX9 136 yX9_has cX9_has 2 (some .boolean) 2 := ⟨mb_X9_has, Or.inl (inT_of 968 (by decide +kernel) (by decide +kernel)), (inT_of 969 (by decide +kernel) (by decide +kernel))⟩
theorem mb_X9_comesBy : MLb yX9_comesBy cX9_comesBy 6 (some .int) 4 := ⟨(inT_of 974 (by decide +kernel) (by decide +kernel)), by decide +kernel, (inT_of 60 (by decide +kernel) (by decide +kernel)), by decide +kernel, by decide +kernel, by decide +kernel⟩
theorem ml_X9_140 : MLV RX9 140 yX9_comesBy cX9_comesBy 6 (some .int) 4 := ⟨mb_X9_comesBy, Or.inl (inT_of 971 (by decide +kernel) (by decide +kernel)), (inT_of 973 (by decide +kernel) (by decide +kernel)), (inT_of 39 (by decide +kernel) (by decide +kernel))⟩
theorem mb_X9_comes : MLb yX9_comes cX9_comes 7 (some .int) 2 := ⟨(inT_of 967 (by decide +kernel) (by decide +kernel)), by decide +kernel, (inT_of 60 (by decide +kernel) (by decide +kernel)), by decide +kernel, by decide +kernel, by decide +kernel⟩
theorem ml_X9_147 : MLV RX9 147 yX9_comes cX9_comes 7 (some .int) 2 := ⟨mb_X9_comes, Or.inl (inT_of 964 (by decide +kernel) (by decide +kernel)), (inT_of 966 (by decide +kernel) (by decide +kernel)), (inT_of 38 (by decide +kernel) (by decide +kernel))⟩
theorem mb_X9_isEnough : MLb yX9_isEnough cX9_isEnough 3 (some .boolean) 2 := ⟨(inT_of 981 (by decide +kernel) (by decide +kernel)), by decide +kernel, (inT_of 60 (by decide +kernel) (by decide +kernel)), by decide +kernel, by decide +kernel, by decide +kernel⟩
theorem ml_X9_151 : MLV RX9 151 yX9_isEnough cX9_isEnough 3 (some .boolean) 2 := ⟨mb_X9_isEnough, Or.inl (inT_of 978 (by decide +kernel) (by decide +kernel)), (inT_of 980 (by decide +kernel) (by decide +kernel)), (inT_of 40 (by decide +kernel) (by decide +kernel))⟩
theorem mb_X9_goes : MLb yX9_goes cX9_goes 5 (some .boolean) 0 := ⟨(inT_of 963 (by decide +kernel) (by decide +kernel)), by decide +kernel, (inT_of 60 (by decide +kernel) (by decide +kernel)), by decide +kernel, by decide +kernel, by decide +kernel⟩
theorem ml_X9_154 : MLV RX9 154 yX9_goes cX9_goes 5 (some .boolean) 0 := ⟨mb_X9_goes, Or.inl (inT_of 960 (by decide +kernel) (by decide +kernel)), (inT_of 962 (by decide +kernel) (by decide +kernel)), (inT_of 37 (by decide +kernel) (by decide +kernel))⟩
theorem mb_X9_isPerson : MLb yX9_isPerson cX9_isPerson 2 (some .boolean) 1 := ⟨(inT_of 935 (by decide +kernel) (by decide +kernel)), by decide +kernel, (inT_of 60 (by decide +kernel) (by decide +kernel)), by decide +kernel, by decide +kernel, by decide +kernel⟩
theorem ml_X9_157 : MLV RX9 157 yX9_isPerson cX9_isPerson 2 (some .boolean) 1 := ⟨mb_X9_isPerson, Or.inl (inT_of 932 (by decide +kernel) (by decide +kernel)), (inT_of 934 (by decide +kernel) (by decide +kernel)), (inT_of 32 (by decide +kernel) (by decide +kernel))⟩
theorem mb_X9_isThing : MLb yX9_isThing cX9_isThing 2 (some .boolean) 1 := ⟨(inT_of 943 (by decide +kernel) (by decide +kernel)), by decide +kernel, (inT_of 60 (by decide +kernel) (by decide +kernel)), by decide +kernel, by decide +kernel, by decide +kernel⟩
theorem ml_X9_160 : MLV RX9 160 yX9_isThing cX9_isThing 2 (some .boolean) 1 := ⟨mb_X9_isThing, Or.inl (inT_of 940 (by decide +kernel) (by decide +kernel)), (inT_of 942 (by decide +kernel) (by decide +kernel)), (inT_of 33 (by decide +kernel) (by decide +kernel))⟩
theorem mb_X9_remembers : MLb yX9_remembers cX9_remembers 2 none 0 := ⟨(inT_of 951 (by decide +kernel) (by decide +kernel)), by decide +kernel, (inT_of 60 (by decide +kernel) (by decide +kernel)), by decide +kernel, by decide +kernel, by decide +kernel⟩
theorem ml_X9_163 : MLV RX9 163 yX9_remembers cX9_remembers 2 none 0 := ⟨mb_X9_remembers, Or.inl (inT_of 948 (by decide +kernel) (by decide +kernel)), (inT_of 950 (by decide +kernel) (by decide +kernel)), (inT_of 34 (by decide +kernel) (by decide +kernel))⟩
theorem mb_X9_from : MLb yX9_from cX9_from 2 none 1 := ⟨(inT_of 955 (by decide +kernel) (by decide +kernel)), by decide +kernel, (inT_of 60 (by decide +kernel) (by decide +kernel)), by decide +kernel, by decide +kernel, by decide +kernel⟩
theorem ml_X9_166 : MLV RX9 166 yX9_from cX9_from 2 none 1 := ⟨mb_X9_from, Or.inl (inT_of 952 (by decide +kernel) (by decide +kernel)), (inT_of 954 (by decide +kernel) (by decide +kernel)), (inT_of 35 (by decide +kernel) (by decide +kernel))⟩
theorem mb_X9_goesOn : MLb yX9_goesOn cX9_goesOn 4 (some .int) 1 := ⟨(inT_of 959 (by decide +kernel) (by decide +kernel)), by decide +kernel, (inT_of 60 (by decide +kernel) (by decide +kernel)), by decide +kernel, by decide +kernel, by decide +kernel⟩
theorem ml_X9_170 : MLV RX9 170 yX9_goesOn cX9_goesOn 4 (some .int) 1 := ⟨mb_X9_goesOn, Or.inl (inT_of 956 (by decide +kernel) (by decide +kernel)), (inT_of 958 (by decide +kernel) (by decide +kernel)), (inT_of 36 (by decide +kernel) (by decide +kernel))⟩
theorem mb_X9_firstBell : MLb yX9_firstBell cX9_firstBell 2 (some .int) 0 := ⟨(inT_of 1005 (by decide +kernel) (by decide +kernel)), by decide +kernel, (inT_of 60 (by decide +kernel) (by decide +kernel)), by decide +kernel, by decide +kernel, by decide +kernel⟩
theorem ml_X9_173 : MLV RX9 173 yX9_firstBell cX9_firstBell 2 (some .int) 0 := ⟨mb_X9_firstBell, Or.inl (inT_of 1002 (by decide +kernel) (by decide +kernel)), (inT_of 1004 (by decide +kernel) (by decide +kernel)), (inT_of 41 (by decide +kernel) (by decide +kernel))⟩
theorem mb_X9_reignsOn : MLb yX9_reignsOn cX9_reignsOn 3 (some .int) 1 := ⟨(inT_of 1017 (by decide +kernel) (by decide +kernel)), by decide +kernel, (inT_of 60 (by decide +kernel) (by decide +kernel)), by decide +kernel, by decide +kernel, by decide +kernel⟩
theorem ml_X9_176 : MLV RX9 176 yX9_reignsOn cX9_reignsOn 3 (some .int) 1 := ⟨mb_X9_reignsOn, Or.inl (inT_of 1014 (by decide +kernel) (by decide +kernel)), (inT_of 1016 (by decide +kernel) (by decide +kernel)), (inT_of 42 (by decide +kernel) (by decide +kernel))⟩
theorem mb_X9_isOrder : MLb yX9_isOrder cX9_isOrder 5 (some .boolean) 1 := ⟨(inT_of 1025 (by decide +kernel) (by decide +kernel)), by decide +kernel, (inT_of 60 (by decide +kernel) (by decide +kernel)), by decide +kernel, by decide +kernel, by decide +kernel⟩
theorem ml_X9_179 : MLV RX9 179 yX9_isOrder cX9_isOrder 5 (some .boolean) 1 := ⟨mb_X9_isOrder, Or.inl (inT_of 1022 (by decide +kernel) (by decide +kernel)), (inT_of 1024 (by decide +kernel) (by decide +kernel)), (inT_of 43 (by decide +kernel) (by decide +kernel))⟩
theorem mb_X9_clearTold : MLb yX9_clearTold cX9_clearTold 2 none 0 := ⟨(inT_of 789 (by decide +kernel) (by decide +kernel)), by decide +kernel, (inT_of 60 (by decide +kernel) (by decide +kernel)), by decide +kernel, by decide +kernel, by decide +kernel⟩
theorem ml_X9_49 : MLV RX9 49 yX9_clearTold cX9_clearTold 2 none 0 := ⟨mb_X9_clearTold, Or.inl (inT_of 786 (by decide +kernel) (by decide +kernel)), (inT_of 788 (by decide +kernel) (by decide +kernel)), (inT_of 22 (by decide +kernel) (by decide +kernel))⟩
theorem mb_X9_tellsPerson : MLb yX9_tellsPerson cX9_tellsPerson 4 none 3 := ⟨(inT_of 793 (by decide +kernel) (by decide +kernel)), by decide +kernel, (inT_of 60 (by decide +kernel) (by decide +kernel)), by decide +kernel, by decide +kernel, by decide +kernel⟩
theorem ml_X9_52 : MLV RX9 52 yX9_tellsPerson cX9_tellsPerson 4 none 3 := ⟨mb_X9_tellsPerson, Or.inl (inT_of 790 (by decide +kernel) (by decide +kernel)), (inT_of 792 (by decide +kernel) (by decide +kernel)), (inT_of 23 (by decide +kernel) (by decide +kernel))⟩
theorem mb_X9_addsThing : MLb yX9_addsThing cX9_addsThing 5 none 4 := ⟨(inT_of 796 (by decide +kernel) (by decide +kernel)), by decide +kernel, (inT_of 60 (by decide +kernel) (by decide +kernel)), by decide +kernel, by decide +kernel, by decide +kernel⟩
theorem ml_X9_56 : MLS RX9 56 yX9_addsThing cX9_addsThing 5 none 4 := ⟨mb_X9_addsThing, Or.inl (inT_of 794 (by decide +kernel) (by decide +kernel)), (inT_of 795 (by decide +kernel) (by decide +kernel))⟩
theorem mb_X9_settles : MLb yX9_settles cX9_settles 2 none 0 := ⟨(inT_of 800 (by decide +kernel) (by decide +kernel)), by decide +kernel, (inT_of 60 (by decide +kernel) (by decide +kernel)), by decide +kernel, by decide +kernel, by decide +kernel⟩
theorem ml_X9_60 : MLV RX9 60 yX9_settles cX9_settles 2 none 0 := ⟨mb_X9_settles, Or.inl (inT_of 797 (by decide +kernel) (by decide +kernel)), (inT_of 799 (by decide +kernel) (by decide +kernel)), (inT_of 24 (by decide +kernel) (by decide +kernel))⟩
theorem mb_X9_in : MLb yX9_in cX9_in 3 (some .boolean) 3 := ⟨(inT_of 883 (by decide +kernel) (by decide +kernel)), by decide +kernel, (inT_of 60 (by decide +kernel) (by decide +kernel)), by decide +kernel, by decide +kernel, by decide +kernel⟩
theorem ml_X9_70 : MLS RX9 70 yX9_in cX9_in 3 (some .boolean) 3 := ⟨mb_X9_in, Or.inl (inT_of 881 (by decide +kernel) (by decide +kernel)), (inT_of 882 (by decide +kernel) (by decide +kernel))⟩
theorem mb_X9_letterAt : MLb yX9_letterAt cX9_letterAt 2 (some .int) 1 := ⟨(inT_of 899 (by decide +kernel) (by decide +kernel)), by decide +kernel, (inT_of 60 (by decide +kernel) (by decide +kernel)), by decide +kernel, by decide +kernel, by decide +kernel⟩
theorem ml_X9_80 : MLV RX9 80 yX9_letterAt cX9_letterAt 2 (some .int) 1 := ⟨mb_X9_letterAt, Or.inl (inT_of 896 (by decide +kernel) (by decide +kernel)), (inT_of 898 (by decide +kernel) (by decide +kernel)), (inT_of 26 (by decide +kernel) (by decide +kernel))⟩
theorem mb_X9_isFigure : MLb yX9_isFigure cX9_isFigure 1 (some .boolean) 1 := ⟨(inT_of 910 (by decide +kernel) (by decide +kernel)), by decide +kernel, (inT_of 60 (by decide +kernel) (by decide +kernel)), by decide +kernel, by decide +kernel, by decide +kernel⟩
theorem ml_X9_84 : MLS RX9 84 yX9_isFigure cX9_isFigure 1 (some .boolean) 1 := ⟨mb_X9_isFigure, Or.inl (inT_of 908 (by decide +kernel) (by decide +kernel)), (inT_of 909 (by decide +kernel) (by decide +kernel))⟩
theorem mb_X9_readNumbers : MLb yX9_readNumbers cX9_readNumbers 3 (some .boolean) 1 := ⟨(inT_of 907 (by decide +kernel) (by decide +kernel)), by decide +kernel, (inT_of 60 (by decide +kernel) (by decide +kernel)), by decide +kernel, by decide +kernel, by decide +kernel⟩
theorem ml_X9_91 : MLV RX9 91 yX9_readNumbers cX9_readNumbers 3 (some .boolean) 1 := ⟨mb_X9_readNumbers, Or.inl (inT_of 904 (by decide +kernel) (by decide +kernel)), (inT_of 906 (by decide +kernel) (by decide +kernel)), (inT_of 28 (by decide +kernel) (by decide +kernel))⟩
theorem mb_X9_isTold : MLb yX9_isTold cX9_isTold 4 (some .boolean) 3 := ⟨(inT_of 914 (by decide +kernel) (by decide +kernel)), by decide +kernel, (inT_of 60 (by decide +kernel) (by decide +kernel)), by decide +kernel, by decide +kernel, by decide +kernel⟩
theorem ml_X9_94 : MLV RX9 94 yX9_isTold cX9_isTold 4 (some .boolean) 3 := ⟨mb_X9_isTold, Or.inl (inT_of 911 (by decide +kernel) (by decide +kernel)), (inT_of 913 (by decide +kernel) (by decide +kernel)), (inT_of 29 (by decide +kernel) (by decide +kernel))⟩
theorem mb_X9_readPersonOf : MLb yX9_readPersonOf cX9_readPersonOf 1 (some .boolean) 0 := ⟨(inT_of 903 (by decide +kernel) (by decide +kernel)), by decide +kernel, (inT_of 60 (by decide +kernel) (by decide +kernel)), by decide +kernel, by decide +kernel, by decide +kernel⟩
theorem ml_X9_97 : MLV RX9 97 yX9_readPersonOf cX9_readPersonOf 1 (some .boolean) 0 := ⟨mb_X9_readPersonOf, Or.inl (inT_of 900 (by decide +kernel) (by decide +kernel)), (inT_of 902 (by decide +kernel) (by decide +kernel)), (inT_of 27 (by decide +kernel) (by decide +kernel))⟩
theorem mb_J3_checkIndex_8e157 : MLb yJ3_checkIndex_8e157 cJ3_checkIndex_8e157 3 (some .int) 3 := ⟨(inT_of 308 (by decide +kernel) (by decide +kernel)), by decide +kernel, (inT_of 57 (by decide +kernel) (by decide +kernel)), by decide +kernel, by decide +kernel, by decide +kernel⟩
theorem ml_J0_1059 : MLS RJ0 1059 yJ3_checkIndex_8e157 cJ3_checkIndex_8e157 3 (some .int) 3 := ⟨mb_J3_checkIndex_8e157, Or.inl (inT_of 306 (by decide +kernel) (by decide +kernel)), (inT_of 307 (by decide +kernel) (by decide +kernel))⟩
theorem mb_J0_coder_7d493 : MLb yJ0_coder_7d493 cJ0_coder_7d493 1 (some .byte) 0 := ⟨(inT_of 287 (by decide +kernel) (by decide +kernel)), by decide +kernel, (inT_of 55 (by decide +kernel) (by decide +kernel)), by decide +kernel, by decide +kernel, by decide +kernel⟩
theorem ml_J0_335 : MLV RJ0 335 yJ0_coder_7d493 cJ0_coder_7d493 1 (some .byte) 0 := ⟨mb_J0_coder_7d493, Or.inl (inT_of 284 (by decide +kernel) (by decide +kernel)), (inT_of 285 (by decide +kernel) (by decide +kernel)), (inT_of 286 (by decide +kernel) (by decide +kernel))⟩
theorem mb_J0_isLatin1_aae02 : MLb yJ0_isLatin1_aae02 cJ0_isLatin1_aae02 1 (some .boolean) 0 := ⟨(inT_of 297 (by decide +kernel) (by decide +kernel)), by decide +kernel, (inT_of 55 (by decide +kernel) (by decide +kernel)), by decide +kernel, by decide +kernel, by decide +kernel⟩
theorem ml_J0_492 : MLV RJ0 492 yJ0_isLatin1_aae02 cJ0_isLatin1_aae02 1 (some .boolean) 0 := ⟨mb_J0_isLatin1_aae02, Or.inl (inT_of 294 (by decide +kernel) (by decide +kernel)), (inT_of 295 (by decide +kernel) (by decide +kernel)), (inT_of 296 (by decide +kernel) (by decide +kernel))⟩
theorem mb_J1_charAt_3b067 : MLb yJ1_charAt_3b067 cJ1_charAt_3b067 2 (some .char) 2 := ⟨(inT_of 300 (by decide +kernel) (by decide +kernel)), by decide +kernel, (inT_of 56 (by decide +kernel) (by decide +kernel)), by decide +kernel, by decide +kernel, by decide +kernel⟩
theorem ml_J0_495 : MLS RJ0 495 yJ1_charAt_3b067 cJ1_charAt_3b067 2 (some .char) 2 := ⟨mb_J1_charAt_3b067, Or.inl (inT_of 298 (by decide +kernel) (by decide +kernel)), (inT_of 299 (by decide +kernel) (by decide +kernel))⟩
theorem mb_J2_charAt_3b067 : MLb yJ2_charAt_3b067 cJ2_charAt_3b067 2 (some .char) 2 := ⟨(inT_of 311 (by decide +kernel) (by decide +kernel)), by decide +kernel, (inT_of 58 (by decide +kernel) (by decide +kernel)), by decide +kernel, by decide +kernel, by decide +kernel⟩
theorem ml_J0_498 : MLS RJ0 498 yJ2_charAt_3b067 cJ2_charAt_3b067 2 (some .char) 2 := ⟨mb_J2_charAt_3b067, Or.inl (inT_of 309 (by decide +kernel) (by decide +kernel)), (inT_of 310 (by decide +kernel) (by decide +kernel))⟩
theorem mb_J0_checkIndex_df160 : MLb yJ0_checkIndex_df160 cJ0_checkIndex_df160 2 none 2 := ⟨(inT_of 303 (by decide +kernel) (by decide +kernel)), by decide +kernel, (inT_of 55 (by decide +kernel) (by decide +kernel)), by decide +kernel, by decide +kernel, by decide +kernel⟩
theorem ml_J1_9 : MLS RJ1 9 yJ0_checkIndex_df160 cJ0_checkIndex_df160 2 none 2 := ⟨mb_J0_checkIndex_df160, Or.inl (inT_of 301 (by decide +kernel) (by decide +kernel)), (inT_of 302 (by decide +kernel) (by decide +kernel))⟩
theorem ml_J2_414 : MLS RJ2 414 yJ0_checkIndex_df160 cJ0_checkIndex_df160 2 none 2 := ⟨mb_J0_checkIndex_df160, Or.inl (inT_of 318 (by decide +kernel) (by decide +kernel)), (inT_of 302 (by decide +kernel) (by decide +kernel))⟩
theorem mb_J2_length_9d52b : MLb yJ2_length_9d52b cJ2_length_9d52b 1 (some .int) 1 := ⟨(inT_of 317 (by decide +kernel) (by decide +kernel)), by decide +kernel, (inT_of 58 (by decide +kernel) (by decide +kernel)), by decide +kernel, by decide +kernel, by decide +kernel⟩
theorem ml_J2_48 : MLS RJ2 48 yJ2_length_9d52b cJ2_length_9d52b 1 (some .int) 1 := ⟨mb_J2_length_9d52b, Or.inl (inT_of 315 (by decide +kernel) (by decide +kernel)), (inT_of 316 (by decide +kernel) (by decide +kernel))⟩
theorem mb_J2_checkIndex_2214a : MLb yJ2_checkIndex_2214a cJ2_checkIndex_2214a 2 none 2 := ⟨(inT_of 314 (by decide +kernel) (by decide +kernel)), by decide +kernel, (inT_of 58 (by decide +kernel) (by decide +kernel)), by decide +kernel, by decide +kernel, by decide +kernel⟩
theorem ml_J2_67 : MLS RJ2 67 yJ2_checkIndex_2214a cJ2_checkIndex_2214a 2 none 2 := ⟨mb_J2_checkIndex_2214a, Or.inl (inT_of 312 (by decide +kernel) (by decide +kernel)), (inT_of 313 (by decide +kernel) (by decide +kernel))⟩
theorem mb_J2_getChar_3b067 : MLb yJ2_getChar_3b067 cJ2_getChar_3b067 2 (some .char) 2 := ⟨(inT_of 321 (by decide +kernel) (by decide +kernel)), by decide +kernel, (inT_of 58 (by decide +kernel) (by decide +kernel)), by decide +kernel, by decide +kernel, by decide +kernel⟩
theorem ml_J2_71 : MLS RJ2 71 yJ2_getChar_3b067 cJ2_getChar_3b067 2 (some .char) 2 := ⟨mb_J2_getChar_3b067, Or.inl (inT_of 319 (by decide +kernel) (by decide +kernel)), (inT_of 320 (by decide +kernel) (by decide +kernel))⟩
end
section
def f_J6_bitCount_0f7a4 (a0 : Int32) (FM : FMem) : Opt :=
  bindv (a0 - ((((a0).toUInt32 >>> (((1 : Int32)).toUInt32 &&& Int32.toUInt32 31)).toInt32) &&& (1431655765 : Int32))) fun v1 =>
  bindv ((v1 &&& (858993459 : Int32)) + ((((v1).toUInt32 >>> (((2 : Int32)).toUInt32 &&& Int32.toUInt32 31)).toInt32) &&& (858993459 : Int32))) fun v2 =>
  bindv ((v2 + (((v2).toUInt32 >>> (((4 : Int32)).toUInt32 &&& Int32.toUInt32 31)).toInt32)) &&& (252645135 : Int32)) fun v3 =>
  bindv (v3 + (((v3).toUInt32 >>> (((8 : Int32)).toUInt32 &&& Int32.toUInt32 31)).toInt32)) fun v4 =>
  bindv (v4 + (((v4).toUInt32 >>> (((16 : Int32)).toUInt32 &&& Int32.toUInt32 31)).toInt32)) fun v5 =>
  some ((v5 &&& (63 : Int32)), FM)
set_option maxHeartbeats 4000000 in
set_option maxRecDepth 100000 in
theorem m_J6_bitCount_0f7a4 (l : Launch) (D : va_G) (cI cM : ClassId) (b : Nat) (a0 : Int32) (FM : FMem) (r0 : Int32) (FR : FMem) (h : f_J6_bitCount_0f7a4 a0 FM = some (r0, FR)) : Mt l (wdC D cI cM b) yJ6_bitCount_0f7a4 cJ6_bitCount_0f7a4 1 (some .int) 0 0 [.int a0] FM (some (.int r0)) FR := by
  refine Mt.of (by decide) (cat_cons rfl cat_nil) [some (.int a0)] rfl (Nat.le_of_ble_eq_true rfl) (fun V hV => ?_)
  unfold f_J6_bitCount_0f7a4 at h
  refine r_iload_n hV dJ6_bitCount_0f7a4_0 rfl ?_
  refine r_iload_n hV dJ6_bitCount_0f7a4_1 rfl ?_
  refine r_iconst (v := (1 : Int32)) hV dJ6_bitCount_0f7a4_2 rfl ?_
  refine r_iushr hV dJ6_bitCount_0f7a4_3 ?_
  refine r_ldcw (v := 1431655765) hV (inT_of 539 (by decide +kernel) (by decide +kernel)) dJ6_bitCount_0f7a4_4 ?_
  refine r_iand hV dJ6_bitCount_0f7a4_7 ?_
  refine r_isub hV dJ6_bitCount_0f7a4_8 ?_
  refine r_bv h (fun v1 h => ?_)
  refine r_istore_n hV dJ6_bitCount_0f7a4_9 (Nat.le_of_ble_eq_true rfl) rfl ?_
  refine r_iload_n hV dJ6_bitCount_0f7a4_10 rfl ?_
  refine r_ldcw (v := 858993459) hV (inT_of 540 (by decide +kernel) (by decide +kernel)) dJ6_bitCount_0f7a4_11 ?_
  refine r_iand hV dJ6_bitCount_0f7a4_14 ?_
  refine r_iload_n hV dJ6_bitCount_0f7a4_15 rfl ?_
  refine r_iconst (v := (2 : Int32)) hV dJ6_bitCount_0f7a4_16 rfl ?_
  refine r_iushr hV dJ6_bitCount_0f7a4_17 ?_
  refine r_ldcw (v := 858993459) hV (inT_of 540 (by decide +kernel) (by decide +kernel)) dJ6_bitCount_0f7a4_18 ?_
  refine r_iand hV dJ6_bitCount_0f7a4_21 ?_
  refine r_iadd hV dJ6_bitCount_0f7a4_22 ?_
  refine r_bv h (fun v2 h => ?_)
  refine r_istore_n hV dJ6_bitCount_0f7a4_23 (Nat.le_of_ble_eq_true rfl) rfl ?_
  refine r_iload_n hV dJ6_bitCount_0f7a4_24 rfl ?_
  refine r_iload_n hV dJ6_bitCount_0f7a4_25 rfl ?_
  refine r_iconst (v := (4 : Int32)) hV dJ6_bitCount_0f7a4_26 rfl ?_
  refine r_iushr hV dJ6_bitCount_0f7a4_27 ?_
  refine r_iadd hV dJ6_bitCount_0f7a4_28 ?_
  refine r_ldcw (v := 252645135) hV (inT_of 541 (by decide +kernel) (by decide +kernel)) dJ6_bitCount_0f7a4_29 ?_
  refine r_iand hV dJ6_bitCount_0f7a4_32 ?_
  refine r_bv h (fun v3 h => ?_)
  refine r_istore_n hV dJ6_bitCount_0f7a4_33 (Nat.le_of_ble_eq_true rfl) rfl ?_
  refine r_iload_n hV dJ6_bitCount_0f7a4_34 rfl ?_
  refine r_iload_n hV dJ6_bitCount_0f7a4_35 rfl ?_
  refine r_bipush (v := (8 : Int32)) hV dJ6_bitCount_0f7a4_36 rfl ?_
  refine r_iushr hV dJ6_bitCount_0f7a4_38 ?_
  refine r_iadd hV dJ6_bitCount_0f7a4_39 ?_
  refine r_bv h (fun v4 h => ?_)
  refine r_istore_n hV dJ6_bitCount_0f7a4_40 (Nat.le_of_ble_eq_true rfl) rfl ?_
  refine r_iload_n hV dJ6_bitCount_0f7a4_41 rfl ?_
  refine r_iload_n hV dJ6_bitCount_0f7a4_42 rfl ?_
  refine r_bipush (v := (16 : Int32)) hV dJ6_bitCount_0f7a4_43 rfl ?_
  refine r_iushr hV dJ6_bitCount_0f7a4_45 ?_
  refine r_iadd hV dJ6_bitCount_0f7a4_46 ?_
  refine r_bv h (fun v5 h => ?_)
  refine r_istore_n hV dJ6_bitCount_0f7a4_47 (Nat.le_of_ble_eq_true rfl) rfl ?_
  refine r_iload_n hV dJ6_bitCount_0f7a4_48 rfl ?_
  refine r_bipush (v := (63 : Int32)) hV dJ6_bitCount_0f7a4_49 rfl ?_
  refine r_iand hV dJ6_bitCount_0f7a4_51 ?_
  exact r_iret hV rfl dJ6_bitCount_0f7a4_52 (ret_r h) (ret_m h)
def J7_fill_53178_b5s (u n : Nat) (k5 : Int32 → Int32 → Int32 → FMem → Opt) (x1 : Int32) (x2 : Int32) (x3 : Int32) (FM : FMem) : Opt :=
  if x3 ≤ x2 then (
    some (0, FM)
  ) else (
    grd (inb x2 n) <|
    bindm (fset FM u ((x2).toNatClampNeg) x1) fun M4 =>
    k5 x1 (x2 + (1 : Int32)) x3 M4
  )
def J7_fill_53178_b5 (u n : Nat) : Nat → Int32 → Int32 → Int32 → FMem → Opt
  | 0, _, _, _, _ => none
  | n + 1, x1, x2, x3, FM => J7_fill_53178_b5s u n (J7_fill_53178_b5 u n n) x1 x2 x3 FM
def f_J7_fill_53178 (u n : Nat) (a1 : Int32) (FM : FMem) : Opt :=
  bindv (Int32.ofNat n) fun v1 =>
  J7_fill_53178_b5 u n FU a1 (0 : Int32) v1 FM
set_option maxHeartbeats 4000000 in
set_option maxRecDepth 100000 in
theorem m_J7_fill_53178 (l : Launch) (D : va_G) (cI cM : ClassId) (b : Nat) (u n : Nat) (hU : isAr (wdC D cI cM b) cI u n) (a1 : Int32) (FM : FMem) (r0 : Int32) (FR : FMem) (h : f_J7_fill_53178 u n a1 FM = some (r0, FR)) : Mt l (wdC D cI cM b) yJ7_fill_53178 cJ7_fill_53178 4 none 0 0 [.ref (b + u), .int a1] FM none FR := by
  refine Mt.of (by decide) (cat_cons rfl (cat_cons rfl cat_nil)) [some (.ref (b + u)), some (.int a1), none, none] rfl (Nat.le_of_ble_eq_true rfl) (fun V hV => ?_)
  have B5 : ∀ (k5 : Int32 → Int32 → Int32 → FMem → Opt) (hk5 : ∀ (x1 : Int32) (x2 : Int32) (x3 : Int32) (FM : FMem), k5 x1 x2 x3 FM = some (r0, FR) → V FM 5 [some (.ref (b + u)), some (.int x1), some (.int x2), some (.int x3)] []) (x1 : Int32) (x2 : Int32) (x3 : Int32) (FM : FMem), J7_fill_53178_b5s u n k5 x1 x2 x3 FM = some (r0, FR) → V FM 5 [some (.ref (b + u)), some (.int x1), some (.int x2), some (.int x3)] [] := by
    intro k5 hk5 x1 x2 x3 FM h
    unfold J7_fill_53178_b5s at h
    refine r_iload_n hV dJ7_fill_53178_5 rfl ?_
    refine r_iload_n hV dJ7_fill_53178_6 rfl ?_
    refine r_icmpge hV 20 dJ7_fill_53178_7 rfl (fun c2 => ?_) (fun c2 => ?_)
    · have h := (if_pos c2).symm.trans h
      exact r_vret hV rfl dJ7_fill_53178_20 rfl (ret_m h)
    · have h := (if_neg c2).symm.trans h
      refine r_aload_n hV dJ7_fill_53178_10 rfl ?_
      refine r_iload_n hV dJ7_fill_53178_11 rfl ?_
      refine r_iload_n hV dJ7_fill_53178_12 rfl ?_
      obtain ⟨g3, h⟩ := grd_some h
      refine r_ast hV hU (inb_in g3) ((x2).toNatClampNeg) rfl dJ7_fill_53178_13 ?_
      refine r_bm h (fun M4 h => ?_)
      refine r_iinc (v := (1 : Int32)) hV dJ7_fill_53178_14 rfl rfl rfl ?_
      refine r_goto hV 5 dJ7_fill_53178_17 rfl ?_
      exact hk5 x1 (x2 + (1 : Int32)) x3 M4 h
  have L5 : ∀ (n : Nat) (x1 : Int32) (x2 : Int32) (x3 : Int32) (FM : FMem), J7_fill_53178_b5 u n n x1 x2 x3 FM = some (r0, FR) → V FM 5 [some (.ref (b + u)), some (.int x1), some (.int x2), some (.int x3)] [] := by
    intro  n
    induction n with
    | zero => intro x1 x2 x3 FM h; exact absurd (show (none : Opt) = some (r0, FR) from h) (fun h9 => by cases h9)
    | succ n ih => intro x1 x2 x3 FM h; exact B5 (J7_fill_53178_b5 u n n) ih x1 x2 x3 FM h
  unfold f_J7_fill_53178 at h
  refine r_iconst (v := (0 : Int32)) hV dJ7_fill_53178_0 rfl ?_
  refine r_istore_n hV dJ7_fill_53178_1 (Nat.le_of_ble_eq_true rfl) rfl ?_
  refine r_aload_n hV dJ7_fill_53178_2 rfl ?_
  refine r_len hV hU (v := (Int32.ofNat n)) rfl dJ7_fill_53178_3 ?_
  refine r_bv h (fun v1 h => ?_)
  refine r_istore_n hV dJ7_fill_53178_4 (Nat.le_of_ble_eq_true rfl) rfl ?_
  exact L5 FU a1 (0 : Int32) v1 FM h
end
section
def f_X7_clear (t : Nat) (FM : FMem) : Opt :=
  bindm (fset FM t 3 (0 : Int32)) fun M1 =>
  some (0, M1)
set_option maxHeartbeats 4000000 in
set_option maxRecDepth 100000 in
theorem m_X7_clear (l : Launch) (D : va_G) (cI cM : ClassId) (b : Nat) (t : Nat) (hT : isTh D cI cM b t) (FM : FMem) (r0 : Int32) (FR : FMem) (h : f_X7_clear t FM = some (r0, FR)) : Mt l (wdC D cI cM b) yX7_clear cX7_clear 1 none 0 0 [.ref (b + t)] FM none FR := by
  refine Mt.of (by decide) (cat_cons rfl cat_nil) [some (.ref (b + t))] rfl (Nat.le_of_ble_eq_true rfl) (fun V hV => ?_)
  unfold f_X7_clear at h
  refine r_aload_n hV dX7_clear_0 rfl ?_
  refine r_iconst (v := (0 : Int32)) hV dX7_clear_1 rfl ?_
  refine r_puti hV fl_X7_21 hT.2.2.1 (fun _ _ => rfl) (Nat.le_of_ble_eq_true rfl) dX7_clear_2 ?_
  refine r_bm h (fun M1 h => ?_)
  exact r_vret hV rfl dX7_clear_5 rfl (ret_m h)
def f_X7_add (t : Nat) (a1 a2 a3 : Int32) (FM : FMem) : Opt :=
  if (FM t 3) < (9 : Int32) then (
    grd (inb (FM t 3) 9) <|
    bindm (fset FM (t + 1) (((FM t 3)).toNatClampNeg) a1) fun M3 =>
    grd (inb (M3 t 3) 9) <|
    bindm (fset M3 (t + 2) (((M3 t 3)).toNatClampNeg) a2) fun M5 =>
    grd (inb (M5 t 3) 9) <|
    bindm (fset M5 (t + 3) (((M5 t 3)).toNatClampNeg) a3) fun M7 =>
    bindm (fset M7 t 3 ((M7 t 3) + (1 : Int32))) fun M8 =>
    some ((1 : Int32), M8)
  ) else (
    some ((0 : Int32), FM)
  )
set_option maxHeartbeats 4000000 in
set_option maxRecDepth 100000 in
theorem m_X7_add (l : Launch) (D : va_G) (cI cM : ClassId) (b : Nat) (t : Nat) (hT : isTh D cI cM b t) (a1 a2 a3 : Int32) (FM : FMem) (r0 : Int32) (FR : FMem) (h : f_X7_add t a1 a2 a3 FM = some (r0, FR)) : Mt l (wdC D cI cM b) yX7_add cX7_add 4 (some .boolean) 0 0 [.ref (b + t), .int a1, .int a2, .int a3] FM (some (.int r0)) FR := by
  refine Mt.of (by decide) (cat_cons rfl (cat_cons rfl (cat_cons rfl (cat_cons rfl cat_nil)))) [some (.ref (b + t)), some (.int a1), some (.int a2), some (.int a3)] rfl (Nat.le_of_ble_eq_true rfl) (fun V hV => ?_)
  unfold f_X7_add at h
  refine r_aload_n hV dX7_add_0 rfl ?_
  refine r_geto hV fl_X7_21 hT.2.2.1 rfl dX7_add_1 ?_
  refine r_bipush (v := (9 : Int32)) hV dX7_add_4 rfl ?_
  refine r_icmplt hV 11 dX7_add_6 rfl (fun c1 => ?_) (fun c1 => ?_)
  · have h := (if_pos c1).symm.trans h
    refine r_aload_n hV dX7_add_11 rfl ?_
    refine r_geto hV fl_X7_9 hT.2.2.1 rfl dX7_add_12 ?_
    refine r_aload_n hV dX7_add_15 rfl ?_
    refine r_geto hV fl_X7_21 hT.2.2.1 rfl dX7_add_16 ?_
    refine r_iload_n hV dX7_add_19 rfl ?_
    obtain ⟨g2, h⟩ := grd_some h
    refine r_ast hV hT.2.2.2.1 (inb_in g2) (((FM t 3)).toNatClampNeg) rfl dX7_add_20 ?_
    refine r_bm h (fun M3 h => ?_)
    refine r_aload_n hV dX7_add_21 rfl ?_
    refine r_geto hV fl_X7_15 hT.2.2.1 rfl dX7_add_22 ?_
    refine r_aload_n hV dX7_add_25 rfl ?_
    refine r_geto hV fl_X7_21 hT.2.2.1 rfl dX7_add_26 ?_
    refine r_iload_n hV dX7_add_29 rfl ?_
    obtain ⟨g4, h⟩ := grd_some h
    refine r_ast hV hT.2.2.2.2.1 (inb_in g4) (((M3 t 3)).toNatClampNeg) rfl dX7_add_30 ?_
    refine r_bm h (fun M5 h => ?_)
    refine r_aload_n hV dX7_add_31 rfl ?_
    refine r_geto hV fl_X7_18 hT.2.2.1 rfl dX7_add_32 ?_
    refine r_aload_n hV dX7_add_35 rfl ?_
    refine r_geto hV fl_X7_21 hT.2.2.1 rfl dX7_add_36 ?_
    refine r_iload_n hV dX7_add_39 rfl ?_
    obtain ⟨g6, h⟩ := grd_some h
    refine r_ast hV hT.2.2.2.2.2 (inb_in g6) (((M5 t 3)).toNatClampNeg) rfl dX7_add_40 ?_
    refine r_bm h (fun M7 h => ?_)
    refine r_aload_n hV dX7_add_41 rfl ?_
    refine r_dup hV dX7_add_42 rfl ?_
    refine r_geto hV fl_X7_21 hT.2.2.1 rfl dX7_add_43 ?_
    refine r_iconst (v := (1 : Int32)) hV dX7_add_46 rfl ?_
    refine r_iadd hV dX7_add_47 ?_
    refine r_puti hV fl_X7_21 hT.2.2.1 (fun _ _ => rfl) (Nat.le_of_ble_eq_true rfl) dX7_add_48 ?_
    refine r_bm h (fun M8 h => ?_)
    refine r_iconst (v := (1 : Int32)) hV dX7_add_51 rfl ?_
    exact r_zret hV rfl (Or.inr rfl) dX7_add_52 (ret_r h) (ret_m h)
  · have h := (if_neg c1).symm.trans h
    refine r_iconst (v := (0 : Int32)) hV dX7_add_9 rfl ?_
    exact r_zret hV rfl (Or.inl rfl) dX7_add_10 (ret_r h) (ret_m h)
def X7_copyFrom_b6s (t u : Nat) (k6 : Int32 → FMem → Opt) (x2 : Int32) (FM : FMem) : Opt :=
  if (FM u 3) ≤ x2 then (
    some (0, FM)
  ) else (
    if (9 : Int32) ≤ x2 then (
      some (0, FM)
    ) else (
      grd (inb x2 9) <|
      grd (inb x2 9) <|
      grd (inb x2 9) <|
      bnd (f_X7_add t (FM (u + 1) ((x2).toNatClampNeg)) (FM (u + 2) ((x2).toNatClampNeg)) (FM (u + 3) ((x2).toNatClampNeg)) FM) fun r9 M10 =>
      k6 (x2 + (1 : Int32)) M10
    )
  )
def X7_copyFrom_b6 (t u : Nat) : Nat → Int32 → FMem → Opt
  | 0, _, _ => none
  | n + 1, x2, FM => X7_copyFrom_b6s t u (X7_copyFrom_b6 t u n) x2 FM
def f_X7_copyFrom (t u : Nat) (FM : FMem) : Opt :=
  bnd (f_X7_clear t FM) fun r1 M2 =>
  X7_copyFrom_b6 t u FU (0 : Int32) M2
set_option maxHeartbeats 4000000 in
set_option maxRecDepth 100000 in
theorem m_X7_copyFrom (l : Launch) (D : va_G) (cI cM : ClassId) (b : Nat) (t u : Nat) (hT : isTh D cI cM b t) (hU : isTh D cI cM b u) (FM : FMem) (r0 : Int32) (FR : FMem) (h : f_X7_copyFrom t u FM = some (r0, FR)) : Mt l (wdC D cI cM b) yX7_copyFrom cX7_copyFrom 3 none 1 23 [.ref (b + t), .ref (b + u)] FM none FR := by
  refine Mt.of (by decide) (cat_cons rfl (cat_cons rfl cat_nil)) [some (.ref (b + t)), some (.ref (b + u)), none] rfl (Nat.le_of_ble_eq_true rfl) (fun V hV => ?_)
  have B6 : ∀ (k6 : Int32 → FMem → Opt) (hk6 : ∀ (x2 : Int32) (FM : FMem), k6 x2 FM = some (r0, FR) → V FM 6 [some (.ref (b + t)), some (.ref (b + u)), some (.int x2)] []) (x2 : Int32) (FM : FMem), X7_copyFrom_b6s t u k6 x2 FM = some (r0, FR) → V FM 6 [some (.ref (b + t)), some (.ref (b + u)), some (.int x2)] [] := by
    intro k6 hk6 x2 FM h
    unfold X7_copyFrom_b6s at h
    refine r_iload_n hV dX7_copyFrom_6 rfl ?_
    refine r_aload_n hV dX7_copyFrom_7 rfl ?_
    refine r_geto hV fl_X7_21 hU.2.2.1 rfl dX7_copyFrom_8 ?_
    refine r_icmpge hV 49 dX7_copyFrom_11 rfl (fun c4 => ?_) (fun c4 => ?_)
    · have h := (if_pos c4).symm.trans h
      exact r_vret hV rfl dX7_copyFrom_49 rfl (ret_m h)
    · have h := (if_neg c4).symm.trans h
      refine r_iload_n hV dX7_copyFrom_14 rfl ?_
      refine r_bipush (v := (9 : Int32)) hV dX7_copyFrom_15 rfl ?_
      refine r_icmpge hV 49 dX7_copyFrom_17 rfl (fun c5 => ?_) (fun c5 => ?_)
      · have h := (if_pos c5).symm.trans h
        exact r_vret hV rfl dX7_copyFrom_49 rfl (ret_m h)
      · have h := (if_neg c5).symm.trans h
        refine r_aload_n hV dX7_copyFrom_20 rfl ?_
        refine r_aload_n hV dX7_copyFrom_21 rfl ?_
        refine r_geto hV fl_X7_9 hU.2.2.1 rfl dX7_copyFrom_22 ?_
        refine r_iload_n hV dX7_copyFrom_25 rfl ?_
        obtain ⟨g6, h⟩ := grd_some h
        refine r_ald hV hU.2.2.2.1 (inb_in g6) ((x2).toNatClampNeg) rfl dX7_copyFrom_26 ?_
        refine r_aload_n hV dX7_copyFrom_27 rfl ?_
        refine r_geto hV fl_X7_15 hU.2.2.1 rfl dX7_copyFrom_28 ?_
        refine r_iload_n hV dX7_copyFrom_31 rfl ?_
        obtain ⟨g7, h⟩ := grd_some h
        refine r_ald hV hU.2.2.2.2.1 (inb_in g7) ((x2).toNatClampNeg) rfl dX7_copyFrom_32 ?_
        refine r_aload_n hV dX7_copyFrom_33 rfl ?_
        refine r_geto hV fl_X7_18 hU.2.2.1 rfl dX7_copyFrom_34 ?_
        refine r_iload_n hV dX7_copyFrom_37 rfl ?_
        obtain ⟨g8, h⟩ := grd_some h
        refine r_ald hV hU.2.2.2.2.2 (inb_in g8) ((x2).toNatClampNeg) rfl dX7_copyFrom_38 ?_
        obtain ⟨r9, M10, q11, h⟩ := bnd_some h
        refine r_cVi hV (m_X7_add l D cI cM b t hT (FM (u + 1) ((x2).toNatClampNeg)) (FM (u + 2) ((x2).toNatClampNeg)) (FM (u + 3) ((x2).toNatClampNeg)) FM _ _ q11) ml_X7_28 hT.2.2.1 rfl rfl (by decide) (Nat.le_of_ble_eq_true rfl) rfl dX7_copyFrom_39 ?_
        refine r_pop hV dX7_copyFrom_42 rfl ?_
        refine r_iinc (v := (1 : Int32)) hV dX7_copyFrom_43 rfl rfl rfl ?_
        refine r_goto hV 6 dX7_copyFrom_46 rfl ?_
        exact hk6 (x2 + (1 : Int32)) M10 h
  have L6 : ∀ (n : Nat) (x2 : Int32) (FM : FMem), X7_copyFrom_b6 t u n x2 FM = some (r0, FR) → V FM 6 [some (.ref (b + t)), some (.ref (b + u)), some (.int x2)] [] := by
    intro  n
    induction n with
    | zero => intro x2 FM h; exact absurd (show (none : Opt) = some (r0, FR) from h) (fun h9 => by cases h9)
    | succ n ih => intro x2 FM h; exact B6 (X7_copyFrom_b6 t u n) ih x2 FM h
  unfold f_X7_copyFrom at h
  refine r_aload_n hV dX7_copyFrom_0 rfl ?_
  obtain ⟨r1, M2, q3, h⟩ := bnd_some h
  refine r_cVv hV (m_X7_clear l D cI cM b t hT FM _ _ q3) ml_X7_25 hT.2.2.1 rfl rfl (by decide) (Nat.le_of_ble_eq_true rfl) rfl dX7_copyFrom_1 ?_
  refine r_iconst (v := (0 : Int32)) hV dX7_copyFrom_4 rfl ?_
  refine r_istore_n hV dX7_copyFrom_5 (Nat.le_of_ble_eq_true rfl) rfl ?_
  exact L6 FU (0 : Int32) M2 h
end
