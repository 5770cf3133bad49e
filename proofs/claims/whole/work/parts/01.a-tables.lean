-- ===== PART A: goes FIRST, ahead of the names: the tables' words, and 'selects' of the private methods out of them =====
/-- a private method of a class that the tables say can be made, by its rows of tables_1 -/
def lw_okq (q : MethodName × Nat) : Prop := (q.1.cls ≠ "java/lang/invoke/MethodHandle" ∧ q.1.cls ≠ "java/lang/invoke/VarHandle") ∧ Cond.instantiable q.1.cls q.2 ∈ tables_1 ∧ Cond.privateMethod q.1 ∈ tables_1 ∧ Cond.instanceMethod q.1 ∈ tables_1
set_option maxRecDepth 100000 in
theorem lw_p0 : lw_okq (⟨"BeetHouse", "farmerAt", "(I)LBeetHouse$Farmer;"⟩, 12) := ⟨⟨by decide +kernel, by decide +kernel⟩, List.mem_of_getElem? (i := 22) rfl, List.mem_of_getElem? (i := 237) rfl, List.mem_of_getElem? (i := 238) rfl⟩
set_option maxRecDepth 100000 in
theorem lw_p1 : lw_okq (⟨"BeetHouse", "refuse", "(I)I"⟩, 12) := ⟨⟨by decide +kernel, by decide +kernel⟩, List.mem_of_getElem? (i := 22) rfl, List.mem_of_getElem? (i := 241) rfl, List.mem_of_getElem? (i := 242) rfl⟩
set_option maxRecDepth 100000 in
theorem lw_p2 : lw_okq (⟨"java/util/ArrayList", "add", "(Ljava/lang/Object;[Ljava/lang/Object;I)V"⟩, 3) := ⟨⟨by decide +kernel, by decide +kernel⟩, List.mem_of_getElem? (i := 32) rfl, List.mem_of_getElem? (i := 327) rfl, List.mem_of_getElem? (i := 328) rfl⟩
set_option maxRecDepth 100000 in
theorem lw_p3 : lw_okq (⟨"java/util/ArrayList", "grow", "()[Ljava/lang/Object;"⟩, 3) := ⟨⟨by decide +kernel, by decide +kernel⟩, List.mem_of_getElem? (i := 32) rfl, List.mem_of_getElem? (i := 331) rfl, List.mem_of_getElem? (i := 332) rfl⟩
set_option maxRecDepth 100000 in
theorem lw_p4 : lw_okq (⟨"java/util/ArrayList", "grow", "(I)[Ljava/lang/Object;"⟩, 3) := ⟨⟨by decide +kernel, by decide +kernel⟩, List.mem_of_getElem? (i := 32) rfl, List.mem_of_getElem? (i := 335) rfl, List.mem_of_getElem? (i := 336) rfl⟩
set_option maxRecDepth 100000 in
theorem lw_p5 : lw_okq (⟨"BeetHouse", "plotAt", "(I)LBeetHouse$Plot;"⟩, 12) := ⟨⟨by decide +kernel, by decide +kernel⟩, List.mem_of_getElem? (i := 22) rfl, List.mem_of_getElem? (i := 386) rfl, List.mem_of_getElem? (i := 387) rfl⟩
set_option maxRecDepth 100000 in
theorem lw_p6 : lw_okq (⟨"BeetHouse", "lorryAt", "(I)LBeetHouse$Lorry;"⟩, 12) := ⟨⟨by decide +kernel, by decide +kernel⟩, List.mem_of_getElem? (i := 22) rfl, List.mem_of_getElem? (i := 451) rfl, List.mem_of_getElem? (i := 452) rfl⟩
set_option maxRecDepth 100000 in
theorem lw_p7 : lw_okq (⟨"BeetHouse$Lorry", "setOut", "(LBeetHouse$Plot;I)V"⟩, 8) := ⟨⟨by decide +kernel, by decide +kernel⟩, List.mem_of_getElem? (i := 408) rfl, List.mem_of_getElem? (i := 455) rfl, List.mem_of_getElem? (i := 456) rfl⟩
set_option maxRecDepth 100000 in
theorem lw_p8 : lw_okq (⟨"BeetHouse", "firstHome", "()LBeetHouse$Lorry;"⟩, 12) := ⟨⟨by decide +kernel, by decide +kernel⟩, List.mem_of_getElem? (i := 22) rfl, List.mem_of_getElem? (i := 463) rfl, List.mem_of_getElem? (i := 464) rfl⟩
set_option maxRecDepth 100000 in
theorem lw_p9 : lw_okq (⟨"BeetHouse", "mostOwed", "()LBeetHouse$Farmer;"⟩, 12) := ⟨⟨by decide +kernel, by decide +kernel⟩, List.mem_of_getElem? (i := 22) rfl, List.mem_of_getElem? (i := 467) rfl, List.mem_of_getElem? (i := 468) rfl⟩
set_option maxRecDepth 100000 in
theorem lw_p10 : lw_okq (⟨"BeetHouse", "hasRootsToSpare", "(LBeetHouse$Plot;)Z"⟩, 12) := ⟨⟨by decide +kernel, by decide +kernel⟩, List.mem_of_getElem? (i := 22) rfl, List.mem_of_getElem? (i := 471) rfl, List.mem_of_getElem? (i := 472) rfl⟩
set_option maxRecDepth 100000 in
theorem lw_p11 : lw_okq (⟨"BeetHouse$Lorry", "isOutTo", "(LBeetHouse$Plot;)Z"⟩, 8) := ⟨⟨by decide +kernel, by decide +kernel⟩, List.mem_of_getElem? (i := 408) rfl, List.mem_of_getElem? (i := 475) rfl, List.mem_of_getElem? (i := 476) rfl⟩
set_option maxRecDepth 100000 in
theorem lw_p12 : lw_okq (⟨"BeetHouse$Farmer", "comesBefore", "(LBeetHouse$Farmer;I)Z"⟩, 4) := ⟨⟨by decide +kernel, by decide +kernel⟩, List.mem_of_getElem? (i := 159) rfl, List.mem_of_getElem? (i := 479) rfl, List.mem_of_getElem? (i := 480) rfl⟩
set_option maxRecDepth 100000 in
theorem lw_p13 : lw_okq (⟨"BeetHouse$Farmer", "claim", "(I)I"⟩, 4) := ⟨⟨by decide +kernel, by decide +kernel⟩, List.mem_of_getElem? (i := 159) rfl, List.mem_of_getElem? (i := 483) rfl, List.mem_of_getElem? (i := 484) rfl⟩
set_option maxRecDepth 100000 in
theorem lw_p14 : lw_okq (⟨"BeetHouse", "sweetestOf", "(LBeetHouse$Farmer;)LBeetHouse$Plot;"⟩, 12) := ⟨⟨by decide +kernel, by decide +kernel⟩, List.mem_of_getElem? (i := 22) rfl, List.mem_of_getElem? (i := 487) rfl, List.mem_of_getElem? (i := 488) rfl⟩
set_option maxRecDepth 100000 in
theorem lw_p15 : lw_okq (⟨"BeetHouse", "put", "([IIIII)I"⟩, 12) := ⟨⟨by decide +kernel, by decide +kernel⟩, List.mem_of_getElem? (i := 22) rfl, List.mem_of_getElem? (i := 499) rfl, List.mem_of_getElem? (i := 500) rfl⟩
def lw_privs_1 : List (MethodName × Nat) := [(⟨"BeetHouse", "farmerAt", "(I)LBeetHouse$Farmer;"⟩, 12), (⟨"BeetHouse", "refuse", "(I)I"⟩, 12), (⟨"java/util/ArrayList", "add", "(Ljava/lang/Object;[Ljava/lang/Object;I)V"⟩, 3), (⟨"java/util/ArrayList", "grow", "()[Ljava/lang/Object;"⟩, 3), (⟨"java/util/ArrayList", "grow", "(I)[Ljava/lang/Object;"⟩, 3), (⟨"BeetHouse", "plotAt", "(I)LBeetHouse$Plot;"⟩, 12), (⟨"BeetHouse", "lorryAt", "(I)LBeetHouse$Lorry;"⟩, 12), (⟨"BeetHouse$Lorry", "setOut", "(LBeetHouse$Plot;I)V"⟩, 8), (⟨"BeetHouse", "firstHome", "()LBeetHouse$Lorry;"⟩, 12), (⟨"BeetHouse", "mostOwed", "()LBeetHouse$Farmer;"⟩, 12), (⟨"BeetHouse", "hasRootsToSpare", "(LBeetHouse$Plot;)Z"⟩, 12), (⟨"BeetHouse$Lorry", "isOutTo", "(LBeetHouse$Plot;)Z"⟩, 8), (⟨"BeetHouse$Farmer", "comesBefore", "(LBeetHouse$Farmer;I)Z"⟩, 4), (⟨"BeetHouse$Farmer", "claim", "(I)I"⟩, 4), (⟨"BeetHouse", "sweetestOf", "(LBeetHouse$Farmer;)LBeetHouse$Plot;"⟩, 12), (⟨"BeetHouse", "put", "([IIIII)I"⟩, 12)]
theorem lw_r1 : ∀ q ∈ lw_privs_1, lw_okq q := List.forall_mem_cons.mpr ⟨lw_p0, List.forall_mem_cons.mpr ⟨lw_p1, List.forall_mem_cons.mpr ⟨lw_p2, List.forall_mem_cons.mpr ⟨lw_p3, List.forall_mem_cons.mpr ⟨lw_p4, List.forall_mem_cons.mpr ⟨lw_p5, List.forall_mem_cons.mpr ⟨lw_p6, List.forall_mem_cons.mpr ⟨lw_p7, List.forall_mem_cons.mpr ⟨lw_p8, List.forall_mem_cons.mpr ⟨lw_p9, List.forall_mem_cons.mpr ⟨lw_p10, List.forall_mem_cons.mpr ⟨lw_p11, List.forall_mem_cons.mpr ⟨lw_p12, List.forall_mem_cons.mpr ⟨lw_p13, List.forall_mem_cons.mpr ⟨lw_p14, List.forall_mem_cons.mpr ⟨lw_p15, fun _ h => absurd h List.not_mem_nil⟩⟩⟩⟩⟩⟩⟩⟩⟩⟩⟩⟩⟩⟩⟩⟩
set_option maxRecDepth 100000 in
theorem lw_p16 : lw_okq (⟨"BeetHouse$Plot", "freeze", "()Z"⟩, 14) := ⟨⟨by decide +kernel, by decide +kernel⟩, List.mem_of_getElem? (i := 256) rfl, List.mem_of_getElem? (i := 519) rfl, List.mem_of_getElem? (i := 520) rfl⟩
set_option maxRecDepth 100000 in
theorem lw_p17 : lw_okq (⟨"BeetHouse$Plot", "thaw", "(I)Z"⟩, 14) := ⟨⟨by decide +kernel, by decide +kernel⟩, List.mem_of_getElem? (i := 256) rfl, List.mem_of_getElem? (i := 523) rfl, List.mem_of_getElem? (i := 524) rfl⟩
set_option maxRecDepth 100000 in
theorem lw_p18 : lw_okq (⟨"BeetHouse", "passHour", "()V"⟩, 12) := ⟨⟨by decide +kernel, by decide +kernel⟩, List.mem_of_getElem? (i := 22) rfl, List.mem_of_getElem? (i := 531) rfl, List.mem_of_getElem? (i := 532) rfl⟩
set_option maxRecDepth 100000 in
theorem lw_p19 : lw_okq (⟨"BeetHouse", "liftRoots", "()V"⟩, 12) := ⟨⟨by decide +kernel, by decide +kernel⟩, List.mem_of_getElem? (i := 22) rfl, List.mem_of_getElem? (i := 535) rfl, List.mem_of_getElem? (i := 536) rfl⟩
set_option maxRecDepth 100000 in
theorem lw_p20 : lw_okq (⟨"BeetHouse$Plot", "lift", "(I)V"⟩, 14) := ⟨⟨by decide +kernel, by decide +kernel⟩, List.mem_of_getElem? (i := 256) rfl, List.mem_of_getElem? (i := 539) rfl, List.mem_of_getElem? (i := 540) rfl⟩
set_option maxRecDepth 100000 in
theorem lw_p21 : lw_okq (⟨"BeetHouse$Lorry", "arrive", "(I)V"⟩, 8) := ⟨⟨by decide +kernel, by decide +kernel⟩, List.mem_of_getElem? (i := 408) rfl, List.mem_of_getElem? (i := 544) rfl, List.mem_of_getElem? (i := 545) rfl⟩
set_option maxRecDepth 100000 in
theorem lw_p22 : lw_okq (⟨"BeetHouse$Lorry", "fill", "(LBeetHouse$Plot;)V"⟩, 8) := ⟨⟨by decide +kernel, by decide +kernel⟩, List.mem_of_getElem? (i := 408) rfl, List.mem_of_getElem? (i := 548) rfl, List.mem_of_getElem? (i := 549) rfl⟩
set_option maxRecDepth 100000 in
theorem lw_p23 : lw_okq (⟨"BeetHouse$Plot", "sugarIn", "(I)I"⟩, 14) := ⟨⟨by decide +kernel, by decide +kernel⟩, List.mem_of_getElem? (i := 256) rfl, List.mem_of_getElem? (i := 553) rfl, List.mem_of_getElem? (i := 554) rfl⟩
set_option maxRecDepth 100000 in
theorem lw_p24 : lw_okq (⟨"BeetHouse$Plot", "lose", "(II)V"⟩, 14) := ⟨⟨by decide +kernel, by decide +kernel⟩, List.mem_of_getElem? (i := 256) rfl, List.mem_of_getElem? (i := 557) rfl, List.mem_of_getElem? (i := 558) rfl⟩
set_option maxRecDepth 100000 in
theorem lw_p25 : lw_okq (⟨"BeetHouse$Plot", "wayBack", "()I"⟩, 14) := ⟨⟨by decide +kernel, by decide +kernel⟩, List.mem_of_getElem? (i := 256) rfl, List.mem_of_getElem? (i := 561) rfl, List.mem_of_getElem? (i := 562) rfl⟩
set_option maxRecDepth 100000 in
theorem lw_p26 : lw_okq (⟨"BeetHouse", "unloadLorries", "()V"⟩, 12) := ⟨⟨by decide +kernel, by decide +kernel⟩, List.mem_of_getElem? (i := 22) rfl, List.mem_of_getElem? (i := 565) rfl, List.mem_of_getElem? (i := 566) rfl⟩
set_option maxRecDepth 100000 in
theorem lw_p27 : lw_okq (⟨"BeetHouse$Yard", "hasRoomFor", "(I)Z"⟩, 4) := ⟨⟨by decide +kernel, by decide +kernel⟩, List.mem_of_getElem? (i := 76) rfl, List.mem_of_getElem? (i := 569) rfl, List.mem_of_getElem? (i := 570) rfl⟩
set_option maxRecDepth 100000 in
theorem lw_p28 : lw_okq (⟨"BeetHouse", "unloadOne", "(LBeetHouse$Lorry;)V"⟩, 12) := ⟨⟨by decide +kernel, by decide +kernel⟩, List.mem_of_getElem? (i := 22) rfl, List.mem_of_getElem? (i := 573) rfl, List.mem_of_getElem? (i := 574) rfl⟩
set_option maxRecDepth 100000 in
theorem lw_p29 : lw_okq (⟨"BeetHouse$Yard", "take", "(LBeetHouse$Load;)V"⟩, 4) := ⟨⟨by decide +kernel, by decide +kernel⟩, List.mem_of_getElem? (i := 76) rfl, List.mem_of_getElem? (i := 601) rfl, List.mem_of_getElem? (i := 602) rfl⟩
set_option maxRecDepth 100000 in
theorem lw_p30 : lw_okq (⟨"BeetHouse", "pay", "(LBeetHouse$Load;)V"⟩, 12) := ⟨⟨by decide +kernel, by decide +kernel⟩, List.mem_of_getElem? (i := 22) rfl, List.mem_of_getElem? (i := 606) rfl, List.mem_of_getElem? (i := 607) rfl⟩
set_option maxRecDepth 100000 in
theorem lw_p31 : lw_okq (⟨"BeetHouse$Lorry", "comeHome", "()V"⟩, 8) := ⟨⟨by decide +kernel, by decide +kernel⟩, List.mem_of_getElem? (i := 408) rfl, List.mem_of_getElem? (i := 611) rfl, List.mem_of_getElem? (i := 612) rfl⟩
def lw_privs_2 : List (MethodName × Nat) := [(⟨"BeetHouse$Plot", "freeze", "()Z"⟩, 14), (⟨"BeetHouse$Plot", "thaw", "(I)Z"⟩, 14), (⟨"BeetHouse", "passHour", "()V"⟩, 12), (⟨"BeetHouse", "liftRoots", "()V"⟩, 12), (⟨"BeetHouse$Plot", "lift", "(I)V"⟩, 14), (⟨"BeetHouse$Lorry", "arrive", "(I)V"⟩, 8), (⟨"BeetHouse$Lorry", "fill", "(LBeetHouse$Plot;)V"⟩, 8), (⟨"BeetHouse$Plot", "sugarIn", "(I)I"⟩, 14), (⟨"BeetHouse$Plot", "lose", "(II)V"⟩, 14), (⟨"BeetHouse$Plot", "wayBack", "()I"⟩, 14), (⟨"BeetHouse", "unloadLorries", "()V"⟩, 12), (⟨"BeetHouse$Yard", "hasRoomFor", "(I)Z"⟩, 4), (⟨"BeetHouse", "unloadOne", "(LBeetHouse$Lorry;)V"⟩, 12), (⟨"BeetHouse$Yard", "take", "(LBeetHouse$Load;)V"⟩, 4), (⟨"BeetHouse", "pay", "(LBeetHouse$Load;)V"⟩, 12), (⟨"BeetHouse$Lorry", "comeHome", "()V"⟩, 8)]
theorem lw_r2 : ∀ q ∈ lw_privs_2, lw_okq q := List.forall_mem_cons.mpr ⟨lw_p16, List.forall_mem_cons.mpr ⟨lw_p17, List.forall_mem_cons.mpr ⟨lw_p18, List.forall_mem_cons.mpr ⟨lw_p19, List.forall_mem_cons.mpr ⟨lw_p20, List.forall_mem_cons.mpr ⟨lw_p21, List.forall_mem_cons.mpr ⟨lw_p22, List.forall_mem_cons.mpr ⟨lw_p23, List.forall_mem_cons.mpr ⟨lw_p24, List.forall_mem_cons.mpr ⟨lw_p25, List.forall_mem_cons.mpr ⟨lw_p26, List.forall_mem_cons.mpr ⟨lw_p27, List.forall_mem_cons.mpr ⟨lw_p28, List.forall_mem_cons.mpr ⟨lw_p29, List.forall_mem_cons.mpr ⟨lw_p30, List.forall_mem_cons.mpr ⟨lw_p31, fun _ h => absurd h List.not_mem_nil⟩⟩⟩⟩⟩⟩⟩⟩⟩⟩⟩⟩⟩⟩⟩⟩
set_option maxRecDepth 100000 in
theorem lw_p32 : lw_okq (⟨"BeetHouse$Mill", "grind", "(LBeetHouse$Yard;)V"⟩, 5) := ⟨⟨by decide +kernel, by decide +kernel⟩, List.mem_of_getElem? (i := 103) rfl, List.mem_of_getElem? (i := 615) rfl, List.mem_of_getElem? (i := 616) rfl⟩
set_option maxRecDepth 100000 in
theorem lw_p33 : lw_okq (⟨"BeetHouse$Plot", "rootsFor", "(I)I"⟩, 14) := ⟨⟨by decide +kernel, by decide +kernel⟩, List.mem_of_getElem? (i := 256) rfl, List.mem_of_getElem? (i := 625) rfl, List.mem_of_getElem? (i := 626) rfl⟩
set_option maxRecDepth 100000 in
theorem lw_p34 : lw_okq (⟨"BeetHouse$Plot", "unitsFor", "(I)I"⟩, 14) := ⟨⟨by decide +kernel, by decide +kernel⟩, List.mem_of_getElem? (i := 256) rfl, List.mem_of_getElem? (i := 630) rfl, List.mem_of_getElem? (i := 631) rfl⟩
set_option maxRecDepth 100000 in
theorem lw_p35 : lw_okq (⟨"java/util/ArrayList", "fastRemove", "([Ljava/lang/Object;I)V"⟩, 3) := ⟨⟨by decide +kernel, by decide +kernel⟩, List.mem_of_getElem? (i := 32) rfl, List.mem_of_getElem? (i := 638) rfl, List.mem_of_getElem? (i := 639) rfl⟩
set_option maxRecDepth 100000 in
theorem lw_p36 : lw_okq (⟨"BeetHouse", "wasteHeaps", "()V"⟩, 12) := ⟨⟨by decide +kernel, by decide +kernel⟩, List.mem_of_getElem? (i := 22) rfl, List.mem_of_getElem? (i := 643) rfl, List.mem_of_getElem? (i := 644) rfl⟩
set_option maxRecDepth 100000 in
theorem lw_p37 : lw_okq (⟨"BeetHouse$Weather", "numberOf", "(I)I"⟩, 2) := ⟨⟨by decide +kernel, by decide +kernel⟩, List.mem_of_getElem? (i := 60) rfl, List.mem_of_getElem? (i := 647) rfl, List.mem_of_getElem? (i := 648) rfl⟩
set_option maxRecDepth 100000 in
theorem lw_p38 : lw_okq (⟨"BeetHouse$Plot", "waste", "(I)V"⟩, 14) := ⟨⟨by decide +kernel, by decide +kernel⟩, List.mem_of_getElem? (i := 256) rfl, List.mem_of_getElem? (i := 651) rfl, List.mem_of_getElem? (i := 652) rfl⟩
set_option maxRecDepth 100000 in
theorem lw_p39 : lw_okq (⟨"BeetHouse$Plot", "wasteOf", "(II)I"⟩, 14) := ⟨⟨by decide +kernel, by decide +kernel⟩, List.mem_of_getElem? (i := 256) rfl, List.mem_of_getElem? (i := 655) rfl, List.mem_of_getElem? (i := 656) rfl⟩
set_option maxRecDepth 100000 in
theorem lw_p40 : lw_okq (⟨"BeetHouse$Plot", "spoil", "(I)V"⟩, 14) := ⟨⟨by decide +kernel, by decide +kernel⟩, List.mem_of_getElem? (i := 256) rfl, List.mem_of_getElem? (i := 660) rfl, List.mem_of_getElem? (i := 661) rfl⟩
set_option maxRecDepth 100000 in
theorem lw_p41 : lw_okq (⟨"BeetHouse", "findOrder", "()Z"⟩, 12) := ⟨⟨by decide +kernel, by decide +kernel⟩, List.mem_of_getElem? (i := 22) rfl, List.mem_of_getElem? (i := 679) rfl, List.mem_of_getElem? (i := 680) rfl⟩
set_option maxRecDepth 100000 in
theorem lw_p42 : lw_okq (⟨"BeetHouse$Orders", "clear", "(I)V"⟩, 7) := ⟨⟨by decide +kernel, by decide +kernel⟩, List.mem_of_getElem? (i := 130) rfl, List.mem_of_getElem? (i := 683) rfl, List.mem_of_getElem? (i := 684) rfl⟩
set_option maxRecDepth 100000 in
theorem lw_p43 : lw_okq (⟨"BeetHouse$Orders", "add", "(LBeetHouse$Plot;ILBeetHouse$Weather;)Z"⟩, 7) := ⟨⟨by decide +kernel, by decide +kernel⟩, List.mem_of_getElem? (i := 130) rfl, List.mem_of_getElem? (i := 687) rfl, List.mem_of_getElem? (i := 688) rfl⟩
set_option maxRecDepth 100000 in
theorem lw_p44 : lw_okq (⟨"BeetHouse$Orders", "foresee", "([ILBeetHouse$Plot;LBeetHouse$Weather;)V"⟩, 7) := ⟨⟨by decide +kernel, by decide +kernel⟩, List.mem_of_getElem? (i := 130) rfl, List.mem_of_getElem? (i := 691) rfl, List.mem_of_getElem? (i := 692) rfl⟩
set_option maxRecDepth 100000 in
theorem lw_p45 : lw_okq (⟨"BeetHouse$Orders", "search", "()V"⟩, 7) := ⟨⟨by decide +kernel, by decide +kernel⟩, List.mem_of_getElem? (i := 130) rfl, List.mem_of_getElem? (i := 698) rfl, List.mem_of_getElem? (i := 699) rfl⟩
set_option maxRecDepth 100000 in
theorem lw_p46 : lw_okq (⟨"BeetHouse$Orders", "choose", "(I)V"⟩, 7) := ⟨⟨by decide +kernel, by decide +kernel⟩, List.mem_of_getElem? (i := 130) rfl, List.mem_of_getElem? (i := 702) rfl, List.mem_of_getElem? (i := 703) rfl⟩
set_option maxRecDepth 100000 in
theorem lw_p47 : lw_okq (⟨"BeetHouse$Orders", "wasteOfWaiting", "(II)I"⟩, 7) := ⟨⟨by decide +kernel, by decide +kernel⟩, List.mem_of_getElem? (i := 130) rfl, List.mem_of_getElem? (i := 707) rfl, List.mem_of_getElem? (i := 708) rfl⟩
def lw_privs_3 : List (MethodName × Nat) := [(⟨"BeetHouse$Mill", "grind", "(LBeetHouse$Yard;)V"⟩, 5), (⟨"BeetHouse$Plot", "rootsFor", "(I)I"⟩, 14), (⟨"BeetHouse$Plot", "unitsFor", "(I)I"⟩, 14), (⟨"java/util/ArrayList", "fastRemove", "([Ljava/lang/Object;I)V"⟩, 3), (⟨"BeetHouse", "wasteHeaps", "()V"⟩, 12), (⟨"BeetHouse$Weather", "numberOf", "(I)I"⟩, 2), (⟨"BeetHouse$Plot", "waste", "(I)V"⟩, 14), (⟨"BeetHouse$Plot", "wasteOf", "(II)I"⟩, 14), (⟨"BeetHouse$Plot", "spoil", "(I)V"⟩, 14), (⟨"BeetHouse", "findOrder", "()Z"⟩, 12), (⟨"BeetHouse$Orders", "clear", "(I)V"⟩, 7), (⟨"BeetHouse$Orders", "add", "(LBeetHouse$Plot;ILBeetHouse$Weather;)Z"⟩, 7), (⟨"BeetHouse$Orders", "foresee", "([ILBeetHouse$Plot;LBeetHouse$Weather;)V"⟩, 7), (⟨"BeetHouse$Orders", "search", "()V"⟩, 7), (⟨"BeetHouse$Orders", "choose", "(I)V"⟩, 7), (⟨"BeetHouse$Orders", "wasteOfWaiting", "(II)I"⟩, 7)]
theorem lw_r3 : ∀ q ∈ lw_privs_3, lw_okq q := List.forall_mem_cons.mpr ⟨lw_p32, List.forall_mem_cons.mpr ⟨lw_p33, List.forall_mem_cons.mpr ⟨lw_p34, List.forall_mem_cons.mpr ⟨lw_p35, List.forall_mem_cons.mpr ⟨lw_p36, List.forall_mem_cons.mpr ⟨lw_p37, List.forall_mem_cons.mpr ⟨lw_p38, List.forall_mem_cons.mpr ⟨lw_p39, List.forall_mem_cons.mpr ⟨lw_p40, List.forall_mem_cons.mpr ⟨lw_p41, List.forall_mem_cons.mpr ⟨lw_p42, List.forall_mem_cons.mpr ⟨lw_p43, List.forall_mem_cons.mpr ⟨lw_p44, List.forall_mem_cons.mpr ⟨lw_p45, List.forall_mem_cons.mpr ⟨lw_p46, List.forall_mem_cons.mpr ⟨lw_p47, fun _ h => absurd h List.not_mem_nil⟩⟩⟩⟩⟩⟩⟩⟩⟩⟩⟩⟩⟩⟩⟩⟩
set_option maxRecDepth 100000 in
theorem lw_p48 : lw_okq (⟨"BeetHouse$Orders", "leastWaste", "()I"⟩, 7) := ⟨⟨by decide +kernel, by decide +kernel⟩, List.mem_of_getElem? (i := 130) rfl, List.mem_of_getElem? (i := 712) rfl, List.mem_of_getElem? (i := 713) rfl⟩
set_option maxRecDepth 100000 in
theorem lw_p49 : lw_okq (⟨"BeetHouse$Orders", "plotAtPlace", "(I)I"⟩, 7) := ⟨⟨by decide +kernel, by decide +kernel⟩, List.mem_of_getElem? (i := 130) rfl, List.mem_of_getElem? (i := 720) rfl, List.mem_of_getElem? (i := 721) rfl⟩
set_option maxRecDepth 100000 in
theorem lw_p50 : lw_okq (⟨"BeetHouse", "lorriesOutTo", "(LBeetHouse$Plot;)I"⟩, 12) := ⟨⟨by decide +kernel, by decide +kernel⟩, List.mem_of_getElem? (i := 22) rfl, List.mem_of_getElem? (i := 728) rfl, List.mem_of_getElem? (i := 729) rfl⟩
set_option maxRecDepth 100000 in
theorem lw_p51 : lw_okq (⟨"BeetHouse", "wasteOfAll", "()I"⟩, 12) := ⟨⟨by decide +kernel, by decide +kernel⟩, List.mem_of_getElem? (i := 22) rfl, List.mem_of_getElem? (i := 748) rfl, List.mem_of_getElem? (i := 749) rfl⟩
set_option maxRecDepth 100000 in
theorem lw_p52 : lw_okq (⟨"BeetHouse", "spoiledOfAll", "()I"⟩, 12) := ⟨⟨by decide +kernel, by decide +kernel⟩, List.mem_of_getElem? (i := 22) rfl, List.mem_of_getElem? (i := 752) rfl, List.mem_of_getElem? (i := 753) rfl⟩
set_option maxRecDepth 100000 in
theorem lw_p53 : lw_okq (⟨"BeetHouseModel", "refuse", "(I)I"⟩, 49) := ⟨⟨by decide +kernel, by decide +kernel⟩, List.mem_of_getElem? (i := 756) rfl, List.mem_of_getElem? (i := 918) rfl, List.mem_of_getElem? (i := 919) rfl⟩
set_option maxRecDepth 100000 in
theorem lw_p54 : lw_okq (⟨"BeetHouseModel", "isField", "(I)Z"⟩, 49) := ⟨⟨by decide +kernel, by decide +kernel⟩, List.mem_of_getElem? (i := 756) rfl, List.mem_of_getElem? (i := 930) rfl, List.mem_of_getElem? (i := 931) rfl⟩
set_option maxRecDepth 100000 in
theorem lw_p55 : lw_okq (⟨"BeetHouseModel", "isLorry", "(I)Z"⟩, 49) := ⟨⟨by decide +kernel, by decide +kernel⟩, List.mem_of_getElem? (i := 756) rfl, List.mem_of_getElem? (i := 942) rfl, List.mem_of_getElem? (i := 943) rfl⟩
set_option maxRecDepth 100000 in
theorem lw_p56 : lw_okq (⟨"BeetHouseModel", "goes", "(II)V"⟩, 49) := ⟨⟨by decide +kernel, by decide +kernel⟩, List.mem_of_getElem? (i := 756) rfl, List.mem_of_getElem? (i := 946) rfl, List.mem_of_getElem? (i := 947) rfl⟩
set_option maxRecDepth 100000 in
theorem lw_p57 : lw_okq (⟨"BeetHouseModel", "nextOf", "()I"⟩, 49) := ⟨⟨by decide +kernel, by decide +kernel⟩, List.mem_of_getElem? (i := 756) rfl, List.mem_of_getElem? (i := 954) rfl, List.mem_of_getElem? (i := 955) rfl⟩
set_option maxRecDepth 100000 in
theorem lw_p58 : lw_okq (⟨"BeetHouseModel", "isLeft", "(I)Z"⟩, 49) := ⟨⟨by decide +kernel, by decide +kernel⟩, List.mem_of_getElem? (i := 756) rfl, List.mem_of_getElem? (i := 958) rfl, List.mem_of_getElem? (i := 959) rfl⟩
set_option maxRecDepth 100000 in
theorem lw_p59 : lw_okq (⟨"BeetHouseModel", "owedOf", "(I)I"⟩, 49) := ⟨⟨by decide +kernel, by decide +kernel⟩, List.mem_of_getElem? (i := 756) rfl, List.mem_of_getElem? (i := 962) rfl, List.mem_of_getElem? (i := 963) rfl⟩
set_option maxRecDepth 100000 in
theorem lw_p60 : lw_okq (⟨"BeetHouseModel", "lifts", "()V"⟩, 49) := ⟨⟨by decide +kernel, by decide +kernel⟩, List.mem_of_getElem? (i := 756) rfl, List.mem_of_getElem? (i := 994) rfl, List.mem_of_getElem? (i := 995) rfl⟩
set_option maxRecDepth 100000 in
theorem lw_p61 : lw_okq (⟨"BeetHouseModel", "arrives", "(I)V"⟩, 49) := ⟨⟨by decide +kernel, by decide +kernel⟩, List.mem_of_getElem? (i := 756) rfl, List.mem_of_getElem? (i := 999) rfl, List.mem_of_getElem? (i := 1000) rfl⟩
set_option maxRecDepth 100000 in
theorem lw_p62 : lw_okq (⟨"BeetHouseModel", "unloads", "()V"⟩, 49) := ⟨⟨by decide +kernel, by decide +kernel⟩, List.mem_of_getElem? (i := 756) rfl, List.mem_of_getElem? (i := 1003) rfl, List.mem_of_getElem? (i := 1004) rfl⟩
set_option maxRecDepth 100000 in
theorem lw_p63 : lw_okq (⟨"BeetHouseModel", "inYard", "()I"⟩, 49) := ⟨⟨by decide +kernel, by decide +kernel⟩, List.mem_of_getElem? (i := 756) rfl, List.mem_of_getElem? (i := 1007) rfl, List.mem_of_getElem? (i := 1008) rfl⟩
def lw_privs_4 : List (MethodName × Nat) := [(⟨"BeetHouse$Orders", "leastWaste", "()I"⟩, 7), (⟨"BeetHouse$Orders", "plotAtPlace", "(I)I"⟩, 7), (⟨"BeetHouse", "lorriesOutTo", "(LBeetHouse$Plot;)I"⟩, 12), (⟨"BeetHouse", "wasteOfAll", "()I"⟩, 12), (⟨"BeetHouse", "spoiledOfAll", "()I"⟩, 12), (⟨"BeetHouseModel", "refuse", "(I)I"⟩, 49), (⟨"BeetHouseModel", "isField", "(I)Z"⟩, 49), (⟨"BeetHouseModel", "isLorry", "(I)Z"⟩, 49), (⟨"BeetHouseModel", "goes", "(II)V"⟩, 49), (⟨"BeetHouseModel", "nextOf", "()I"⟩, 49), (⟨"BeetHouseModel", "isLeft", "(I)Z"⟩, 49), (⟨"BeetHouseModel", "owedOf", "(I)I"⟩, 49), (⟨"BeetHouseModel", "lifts", "()V"⟩, 49), (⟨"BeetHouseModel", "arrives", "(I)V"⟩, 49), (⟨"BeetHouseModel", "unloads", "()V"⟩, 49), (⟨"BeetHouseModel", "inYard", "()I"⟩, 49)]
theorem lw_r4 : ∀ q ∈ lw_privs_4, lw_okq q := List.forall_mem_cons.mpr ⟨lw_p48, List.forall_mem_cons.mpr ⟨lw_p49, List.forall_mem_cons.mpr ⟨lw_p50, List.forall_mem_cons.mpr ⟨lw_p51, List.forall_mem_cons.mpr ⟨lw_p52, List.forall_mem_cons.mpr ⟨lw_p53, List.forall_mem_cons.mpr ⟨lw_p54, List.forall_mem_cons.mpr ⟨lw_p55, List.forall_mem_cons.mpr ⟨lw_p56, List.forall_mem_cons.mpr ⟨lw_p57, List.forall_mem_cons.mpr ⟨lw_p58, List.forall_mem_cons.mpr ⟨lw_p59, List.forall_mem_cons.mpr ⟨lw_p60, List.forall_mem_cons.mpr ⟨lw_p61, List.forall_mem_cons.mpr ⟨lw_p62, List.forall_mem_cons.mpr ⟨lw_p63, fun _ h => absurd h List.not_mem_nil⟩⟩⟩⟩⟩⟩⟩⟩⟩⟩⟩⟩⟩⟩⟩⟩
set_option maxRecDepth 100000 in
theorem lw_p64 : lw_okq (⟨"BeetHouseModel", "brings", "(I)V"⟩, 49) := ⟨⟨by decide +kernel, by decide +kernel⟩, List.mem_of_getElem? (i := 756) rfl, List.mem_of_getElem? (i := 1011) rfl, List.mem_of_getElem? (i := 1012) rfl⟩
set_option maxRecDepth 100000 in
theorem lw_p65 : lw_okq (⟨"BeetHouseModel", "eats", "()I"⟩, 49) := ⟨⟨by decide +kernel, by decide +kernel⟩, List.mem_of_getElem? (i := 756) rfl, List.mem_of_getElem? (i := 1015) rfl, List.mem_of_getElem? (i := 1016) rfl⟩
set_option maxRecDepth 100000 in
theorem lw_p66 : lw_okq (⟨"BeetHouseModel", "ends", "()V"⟩, 49) := ⟨⟨by decide +kernel, by decide +kernel⟩, List.mem_of_getElem? (i := 756) rfl, List.mem_of_getElem? (i := 1019) rfl, List.mem_of_getElem? (i := 1020) rfl⟩
set_option maxRecDepth 100000 in
theorem lw_p67 : lw_okq (⟨"BeetHouseModel", "wasteOf", "(III)I"⟩, 49) := ⟨⟨by decide +kernel, by decide +kernel⟩, List.mem_of_getElem? (i := 756) rfl, List.mem_of_getElem? (i := 1023) rfl, List.mem_of_getElem? (i := 1024) rfl⟩
set_option maxRecDepth 100000 in
theorem lw_p68 : lw_okq (⟨"BeetHouseModel", "knows", "()Z"⟩, 49) := ⟨⟨by decide +kernel, by decide +kernel⟩, List.mem_of_getElem? (i := 756) rfl, List.mem_of_getElem? (i := 1041) rfl, List.mem_of_getElem? (i := 1042) rfl⟩
set_option maxRecDepth 100000 in
theorem lw_p69 : lw_okq (⟨"BeetHouseModel", "lies", "(II)I"⟩, 49) := ⟨⟨by decide +kernel, by decide +kernel⟩, List.mem_of_getElem? (i := 756) rfl, List.mem_of_getElem? (i := 1045) rfl, List.mem_of_getElem? (i := 1046) rfl⟩
def lw_privs_5 : List (MethodName × Nat) := [(⟨"BeetHouseModel", "brings", "(I)V"⟩, 49), (⟨"BeetHouseModel", "eats", "()I"⟩, 49), (⟨"BeetHouseModel", "ends", "()V"⟩, 49), (⟨"BeetHouseModel", "wasteOf", "(III)I"⟩, 49), (⟨"BeetHouseModel", "knows", "()Z"⟩, 49), (⟨"BeetHouseModel", "lies", "(II)I"⟩, 49)]
theorem lw_r5 : ∀ q ∈ lw_privs_5, lw_okq q := List.forall_mem_cons.mpr ⟨lw_p64, List.forall_mem_cons.mpr ⟨lw_p65, List.forall_mem_cons.mpr ⟨lw_p66, List.forall_mem_cons.mpr ⟨lw_p67, List.forall_mem_cons.mpr ⟨lw_p68, List.forall_mem_cons.mpr ⟨lw_p69, fun _ h => absurd h List.not_mem_nil⟩⟩⟩⟩⟩⟩
def lw_privs : List (MethodName × Nat) := lw_privs_1 ++ (lw_privs_2 ++ (lw_privs_3 ++ (lw_privs_4 ++ (lw_privs_5))))
def lw_tbl : List Cond := k2_sels lw_privs ++ tables_1
theorem lw_privs_ok : ∀ q ∈ lw_privs, lw_okq q := by
  show ∀ q ∈ lw_privs_1 ++ (lw_privs_2 ++ (lw_privs_3 ++ (lw_privs_4 ++ (lw_privs_5)))), lw_okq q
  exact List.forall_mem_append.mpr ⟨lw_r1, List.forall_mem_append.mpr ⟨lw_r2, List.forall_mem_append.mpr ⟨lw_r3, List.forall_mem_append.mpr ⟨lw_r4, lw_r5⟩⟩⟩⟩
-- ===== end of PART A; then your names; then what follows =====
