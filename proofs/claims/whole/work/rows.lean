section
-- ===== PART A: goes FIRST, ahead of the names: the tables' words, and 'selects' of the private methods out of them =====
/-- a private method of a class that the tables say can be made, by its rows of tables_1 -/
def lw_okq (q : MethodName × Nat) : Prop := (q.1.cls ≠ "java/lang/invoke/MethodHandle" ∧ q.1.cls ≠ "java/lang/invoke/VarHandle") ∧ Cond.instantiable q.1.cls q.2 ∈ tables_1 ∧ Cond.privateMethod q.1 ∈ tables_1 ∧ Cond.instanceMethod q.1 ∈ tables_1
set_option maxRecDepth 100000 in
theorem lw_p0 : lw_okq (⟨"BeetHouse", "farmerAt", "(I)LBeetHouse$Farmer;"⟩, 12) := ⟨⟨by decide +kernel, by decide +kernel⟩, List.mem_of_getElem? (i := 22) rfl, List.mem_of_getElem? (i := 237) rfl, List.mem_of_getElem? (i := 238) rfl⟩
set_option maxRecDepth 100000 in
theorem lw_p1 : lw_okq (⟨"BeetHouse", "refuse", "(I)I"⟩, 12) := ⟨⟨by decide +kernel, by decide +kernel⟩, List.mem_of_getElem? (i := 22) rfl, List.mem_of_getElem? (i := 241) rfl, List.mem_of_getElem? (i := 242) rfl⟩
set_option maxRecDepth 100000 in
theorem lw_p2 : lw_okq (⟨"java/util/ArrayList", "add", "(Ljava/lang/Object;[Ljava/lang/Object;I)V"⟩, 3) := ⟨⟨by decide +kernel, by decide +kernel⟩, List.mem_of_getElem? (i := 32) rfl, List.mem_of_getElem? (i := 327) rfl, List.mem_of_getElem? (i := 328) rfl⟩
set_option maxRecDepth 100000 in
theorem lw_p3 : lw_okq (⟨"java/util/ArrayList", "grow", "()[Ljava/lang/Object;"⟩, 3) := ⟨⟨by decide +kernel, by decide +kernel⟩, List.mem_of_getElem? (i := 32) rfl, List.mem_of_getElem? (i := 331) rfl, List.mem_of_getElem? (i := 332) rfl⟩
set_option maxRecDepth 100000 in
theorem lw_p4 : lw_okq (⟨"java/util/ArrayList", "grow", "(I)[Ljava/lang/Object;"⟩, 3) := ⟨⟨by decide +kernel, by decide +kernel⟩, List.mem_of_getElem? (i := 32) rfl, List.mem_of_getElem? (i := 335) rfl, List.mem_of_getElem? (i := 336) rfl⟩
set_option maxRecDepth 100000 in
theorem lw_p5 : lw_okq (⟨"BeetHouse", "plotAt", "(I)LBeetHouse$Plot;"⟩, 12) := ⟨⟨by decide +kernel, by decide +kernel⟩, List.mem_of_getElem? (i := 22) rfl, List.mem_of_getElem? (i := 386) rfl, List.mem_of_getElem? (i := 387) rfl⟩
set_option maxRecDepth 100000 in
theorem lw_p6 : lw_okq (⟨"BeetHouse", "lorryAt", "(I)LBeetHouse$Lorry;"⟩, 12) := ⟨⟨by decide +kernel, by decide +kernel⟩, List.mem_of_getElem? (i := 22) rfl, List.mem_of_getElem? (i := 451) rfl, List.mem_of_getElem? (i := 452) rfl⟩
set_option maxRecDepth 100000 in
theorem lw_p7 : lw_okq (⟨"BeetHouse$Lorry", "setOut", "(LBeetHouse$Plot;I)V"⟩, 8) := ⟨⟨by decide +kernel, by decide +kernel⟩, List.mem_of_getElem? (i := 408) rfl, List.mem_of_getElem? (i := 455) rfl, List.mem_of_getElem? (i := 456) rfl⟩
set_option maxRecDepth 100000 in
theorem lw_p8 : lw_okq (⟨"BeetHouse", "firstHome", "()LBeetHouse$Lorry;"⟩, 12) := ⟨⟨by decide +kernel, by decide +kernel⟩, List.mem_of_getElem? (i := 22) rfl, List.mem_of_getElem? (i := 463) rfl, List.mem_of_getElem? (i := 464) rfl⟩
set_option maxRecDepth 100000 in
theorem lw_p9 : lw_okq (⟨"BeetHouse", "mostOwed", "()LBeetHouse$Farmer;"⟩, 12) := ⟨⟨by decide +kernel, by decide +kernel⟩, List.mem_of_getElem? (i := 22) rfl, List.mem_of_getElem? (i := 467) rfl, List.mem_of_getElem? (i := 468) rfl⟩
set_option maxRecDepth 100000 in
theorem lw_p10 : lw_okq (⟨"BeetHouse", "hasRootsToSpare", "(LBeetHouse$Plot;)Z"⟩, 12) := ⟨⟨by decide +kernel, by decide +kernel⟩, List.mem_of_getElem? (i := 22) rfl, List.mem_of_getElem? (i := 471) rfl, List.mem_of_getElem? (i := 472) rfl⟩
set_option maxRecDepth 100000 in
theorem lw_p11 : lw_okq (⟨"BeetHouse$Lorry", "isOutTo", "(LBeetHouse$Plot;)Z"⟩, 8) := ⟨⟨by decide +kernel, by decide +kernel⟩, List.mem_of_getElem? (i := 408) rfl, List.mem_of_getElem? (i := 475) rfl, List.mem_of_getElem? (i := 476) rfl⟩
set_option maxRecDepth 100000 in
theorem lw_p12 : lw_okq (⟨"BeetHouse$Farmer", "comesBefore", "(LBeetHouse$Farmer;I)Z"⟩, 4) := ⟨⟨by decide +kernel, by decide +kernel⟩, List.mem_of_getElem? (i := 159) rfl, List.mem_of_getElem? (i := 479) rfl, List.mem_of_getElem? (i := 480) rfl⟩
set_option maxRecDepth 100000 in
theorem lw_p13 : lw_okq (⟨"BeetHouse$Farmer", "claim", "(I)I"⟩, 4) := ⟨⟨by decide +kernel, by decide +kernel⟩, List.mem_of_getElem? (i := 159) rfl, List.mem_of_getElem? (i := 483) rfl, List.mem_of_getElem? (i := 484) rfl⟩
set_option maxRecDepth 100000 in
theorem lw_p14 : lw_okq (⟨"BeetHouse", "sweetestOf", "(LBeetHouse$Farmer;)LBeetHouse$Plot;"⟩, 12) := ⟨⟨by decide +kernel, by decide +kernel⟩, List.mem_of_getElem? (i := 22) rfl, List.mem_of_getElem? (i := 487) rfl, List.mem_of_getElem? (i := 488) rfl⟩
set_option maxRecDepth 100000 in
theorem lw_p15 : lw_okq (⟨"BeetHouse", "put", "([IIIII)I"⟩, 12) := ⟨⟨by decide +kernel, by decide +kernel⟩, List.mem_of_getElem? (i := 22) rfl, List.mem_of_getElem? (i := 499) rfl, List.mem_of_getElem? (i := 500) rfl⟩
def lw_privs_1 : List (MethodName × Nat) := [(⟨"BeetHouse", "farmerAt", "(I)LBeetHouse$Farmer;"⟩, 12), (⟨"BeetHouse", "refuse", "(I)I"⟩, 12), (⟨"java/util/ArrayList", "add", "(Ljava/lang/Object;[Ljava/lang/Object;I)V"⟩, 3), (⟨"java/util/ArrayList", "grow", "()[Ljava/lang/Object;"⟩, 3), (⟨"java/util/ArrayList", "grow", "(I)[Ljava/lang/Object;"⟩, 3), (⟨"BeetHouse", "plotAt", "(I)LBeetHouse$Plot;"⟩, 12), (⟨"BeetHouse", "lorryAt", "(I)LBeetHouse$Lorry;"⟩, 12), (⟨"BeetHouse$Lorry", "setOut", "(LBeetHouse$Plot;I)V"⟩, 8), (⟨"BeetHouse", "firstHome", "()LBeetHouse$Lorry;"⟩, 12), (⟨"BeetHouse", "mostOwed", "()LBeetHouse$Farmer;"⟩, 12), (⟨"BeetHouse", "hasRootsToSpare", "(LBeetHouse$Plot;)Z"⟩, 12), (⟨"BeetHouse$Lorry", "isOutTo", "(LBeetHouse$Plot;)Z"⟩, 8), (⟨"BeetHouse$Farmer", "comesBefore", "(LBeetHouse$Farmer;I)Z"⟩, 4), (⟨"BeetHouse$Farmer", "claim", "(I)I"⟩, 4), (⟨"BeetHouse", "sweetestOf", "(LBeetHouse$Farmer;)LBeetHouse$Plot;"⟩, 12), (⟨"BeetHouse", "put", "([IIIII)I"⟩, 12)]
theorem lw_r1 : ∀ q ∈ lw_privs_1, lw_okq q := List.forall_mem_cons.mpr ⟨lw_p0, List.forall_mem_cons.mpr ⟨lw_p1, List.forall_mem_cons.mpr ⟨lw_p2, List.forall_mem_cons.mpr ⟨lw_p3, List.forall_mem_cons.mpr ⟨lw_p4, List.forall_mem_cons.mpr ⟨lw_p5, List.forall_mem_cons.mpr ⟨lw_p6, List.forall_mem_cons.mpr ⟨lw_p7, List.forall_mem_cons.mpr ⟨lw_p8, List.forall_mem_cons.mpr ⟨lw_p9, List.forall_mem_cons.mpr ⟨lw_p10, List.forall_mem_cons.mpr ⟨lw_p11, List.forall_mem_cons.mpr ⟨lw_p12, List.forall_mem_cons.mpr ⟨lw_p13, List.forall_mem_cons.mpr ⟨lw_p14, List.forall_mem_cons.mpr ⟨lw_p15, fun _ h => absurd h List.not_mem_nil⟩⟩⟩⟩⟩⟩⟩⟩⟩⟩⟩⟩⟩⟩⟩⟩
set_option maxRecDepth 100000 in
theorem lw_p16 : lw_okq (⟨"BeetHouse$Plot", "freeze", "()Z"⟩, 14) := ⟨⟨by decide +kernel, by decide +kernel⟩, List.mem_of_getElem? (i := 256) rfl, List.mem_of_getElem? (i := 519) rfl, List.mem_of_getElem? (i := 520) rfl⟩
set_option maxRecDepth 100000 in
theorem lw_p17 : lw_okq (⟨"BeetHouse$Plot", "thaw", "(I)Z"⟩, 14) := ⟨⟨by decide +kernel, by decide +kernel⟩, List.mem_of_getElem? (i := 256) rfl, List.mem_of_getElem? (i := 523) rfl, List.mem_of_getElem? (i := 524) rfl⟩
set_option maxRecDepth 100000 in
theorem lw_p18 : lw_okq (⟨"BeetHouse", "passHour", "()V"⟩, 12) := ⟨⟨by decide +kernel, by decide +kernel⟩, List.mem_of_getElem? (i := 22) rfl, List.mem_of_getElem? (i := 531) rfl, List.mem_of_getElem? (i := 532) rfl⟩
set_option maxRecDepth 100000 in
theorem lw_p19 : lw_okq (⟨"BeetHouse", "liftRoots", "()V"⟩, 12) := ⟨⟨by decide +kernel, by decide +kernel⟩, List.mem_of_getElem? (i := 22) rfl, List.mem_of_getElem? (i := 535) rfl, List.mem_of_getElem? (i := 536) rfl⟩
set_option maxRecDepth 100000 in
theorem lw_p20 : lw_okq (⟨"BeetHouse$Plot", "lift", "(I)V"⟩, 14) := ⟨⟨by decide +kernel, by decide +kernel⟩, List.mem_of_getElem? (i := 256) rfl, List.mem_of_getElem? (i := 539) rfl, List.mem_of_getElem? (i := 540) rfl⟩
set_option maxRecDepth 100000 in
theorem lw_p21 : lw_okq (⟨"BeetHouse$Lorry", "arrive", "(I)V"⟩, 8) := ⟨⟨by decide +kernel, by decide +kernel⟩, List.mem_of_getElem? (i := 408) rfl, List.mem_of_getElem? (i := 544) rfl, List.mem_of_getElem? (i := 545) rfl⟩
set_option maxRecDepth 100000 in
theorem lw_p22 : lw_okq (⟨"BeetHouse$Lorry", "fill", "(LBeetHouse$Plot;)V"⟩, 8) := ⟨⟨by decide +kernel, by decide +kernel⟩, List.mem_of_getElem? (i := 408) rfl, List.mem_of_getElem? (i := 548) rfl, List.mem_of_getElem? (i := 549) rfl⟩
set_option maxRecDepth 100000 in
theorem lw_p23 : lw_okq (⟨"BeetHouse$Plot", "sugarIn", "(I)I"⟩, 14) := ⟨⟨by decide +kernel, by decide +kernel⟩, List.mem_of_getElem? (i := 256) rfl, List.mem_of_getElem? (i := 553) rfl, List.mem_of_getElem? (i := 554) rfl⟩
set_option maxRecDepth 100000 in
theorem lw_p24 : lw_okq (⟨"BeetHouse$Plot", "lose", "(II)V"⟩, 14) := ⟨⟨by decide +kernel, by decide +kernel⟩, List.mem_of_getElem? (i := 256) rfl, List.mem_of_getElem? (i := 557) rfl, List.mem_of_getElem? (i := 558) rfl⟩
set_option maxRecDepth 100000 in
theorem lw_p25 : lw_okq (⟨"BeetHouse$Plot", "wayBack", "()I"⟩, 14) := ⟨⟨by decide +kernel, by decide +kernel⟩, List.mem_of_getElem? (i := 256) rfl, List.mem_of_getElem? (i := 561) rfl, List.mem_of_getElem? (i := 562) rfl⟩
set_option maxRecDepth 100000 in
theorem lw_p26 : lw_okq (⟨"BeetHouse", "unloadLorries", "()V"⟩, 12) := ⟨⟨by decide +kernel, by decide +kernel⟩, List.mem_of_getElem? (i := 22) rfl, List.mem_of_getElem? (i := 565) rfl, List.mem_of_getElem? (i := 566) rfl⟩
set_option maxRecDepth 100000 in
theorem lw_p27 : lw_okq (⟨"BeetHouse$Yard", "hasRoomFor", "(I)Z"⟩, 4) := ⟨⟨by decide +kernel, by decide +kernel⟩, List.mem_of_getElem? (i := 76) rfl, List.mem_of_getElem? (i := 569) rfl, List.mem_of_getElem? (i := 570) rfl⟩
set_option maxRecDepth 100000 in
theorem lw_p28 : lw_okq (⟨"BeetHouse", "unloadOne", "(LBeetHouse$Lorry;)V"⟩, 12) := ⟨⟨by decide +kernel, by decide +kernel⟩, List.mem_of_getElem? (i := 22) rfl, List.mem_of_getElem? (i := 573) rfl, List.mem_of_getElem? (i := 574) rfl⟩
set_option maxRecDepth 100000 in
theorem lw_p29 : lw_okq (⟨"BeetHouse$Yard", "take", "(LBeetHouse$Load;)V"⟩, 4) := ⟨⟨by decide +kernel, by decide +kernel⟩, List.mem_of_getElem? (i := 76) rfl, List.mem_of_getElem? (i := 601) rfl, List.mem_of_getElem? (i := 602) rfl⟩
set_option maxRecDepth 100000 in
theorem lw_p30 : lw_okq (⟨"BeetHouse", "pay", "(LBeetHouse$Load;)V"⟩, 12) := ⟨⟨by decide +kernel, by decide +kernel⟩, List.mem_of_getElem? (i := 22) rfl, List.mem_of_getElem? (i := 606) rfl, List.mem_of_getElem? (i := 607) rfl⟩
set_option maxRecDepth 100000 in
theorem lw_p31 : lw_okq (⟨"BeetHouse$Lorry", "comeHome", "()V"⟩, 8) := ⟨⟨by decide +kernel, by decide +kernel⟩, List.mem_of_getElem? (i := 408) rfl, List.mem_of_getElem? (i := 611) rfl, List.mem_of_getElem? (i := 612) rfl⟩
def lw_privs_2 : List (MethodName × Nat) := [(⟨"BeetHouse$Plot", "freeze", "()Z"⟩, 14), (⟨"BeetHouse$Plot", "thaw", "(I)Z"⟩, 14), (⟨"BeetHouse", "passHour", "()V"⟩, 12), (⟨"BeetHouse", "liftRoots", "()V"⟩, 12), (⟨"BeetHouse$Plot", "lift", "(I)V"⟩, 14), (⟨"BeetHouse$Lorry", "arrive", "(I)V"⟩, 8), (⟨"BeetHouse$Lorry", "fill", "(LBeetHouse$Plot;)V"⟩, 8), (⟨"BeetHouse$Plot", "sugarIn", "(I)I"⟩, 14), (⟨"BeetHouse$Plot", "lose", "(II)V"⟩, 14), (⟨"BeetHouse$Plot", "wayBack", "()I"⟩, 14), (⟨"BeetHouse", "unloadLorries", "()V"⟩, 12), (⟨"BeetHouse$Yard", "hasRoomFor", "(I)Z"⟩, 4), (⟨"BeetHouse", "unloadOne", "(LBeetHouse$Lorry;)V"⟩, 12), (⟨"BeetHouse$Yard", "take", "(LBeetHouse$Load;)V"⟩, 4), (⟨"BeetHouse", "pay", "(LBeetHouse$Load;)V"⟩, 12), (⟨"BeetHouse$Lorry", "comeHome", "()V"⟩, 8)]
theorem lw_r2 : ∀ q ∈ lw_privs_2, lw_okq q := List.forall_mem_cons.mpr ⟨lw_p16, List.forall_mem_cons.mpr ⟨lw_p17, List.forall_mem_cons.mpr ⟨lw_p18, List.forall_mem_cons.mpr ⟨lw_p19, List.forall_mem_cons.mpr ⟨lw_p20, List.forall_mem_cons.mpr ⟨lw_p21, List.forall_mem_cons.mpr ⟨lw_p22, List.forall_mem_cons.mpr ⟨lw_p23, List.forall_mem_cons.mpr ⟨lw_p24, List.forall_mem_cons.mpr ⟨lw_p25, List.forall_mem_cons.mpr ⟨lw_p26, List.forall_mem_cons.mpr ⟨lw_p27, List.forall_mem_cons.mpr ⟨lw_p28, List.forall_mem_cons.mpr ⟨lw_p29, List.forall_mem_cons.mpr ⟨lw_p30, List.forall_mem_cons.mpr ⟨lw_p31, fun _ h => absurd h List.not_mem_nil⟩⟩⟩⟩⟩⟩⟩⟩⟩⟩⟩⟩⟩⟩⟩⟩
set_option maxRecDepth 100000 in
theorem lw_p32 : lw_okq (⟨"BeetHouse$Mill", "grind", "(LBeetHouse$Yard;)V"⟩, 5) := ⟨⟨by decide +kernel, by decide +kernel⟩, List.mem_of_getElem? (i := 103) rfl, List.mem_of_getElem? (i := 615) rfl, List.mem_of_getElem? (i := 616) rfl⟩
set_option maxRecDepth 100000 in
theorem lw_p33 : lw_okq (⟨"BeetHouse$Plot", "rootsFor", "(I)I"⟩, 14) := ⟨⟨by decide +kernel, by decide +kernel⟩, List.mem_of_getElem? (i := 256) rfl, List.mem_of_getElem? (i := 625) rfl, List.mem_of_getElem? (i := 626) rfl⟩
set_option maxRecDepth 100000 in
theorem lw_p34 : lw_okq (⟨"BeetHouse$Plot", "unitsFor", "(I)I"⟩, 14) := ⟨⟨by decide +kernel, by decide +kernel⟩, List.mem_of_getElem? (i := 256) rfl, List.mem_of_getElem? (i := 630) rfl, List.mem_of_getElem? (i := 631) rfl⟩
set_option maxRecDepth 100000 in
theorem lw_p35 : lw_okq (⟨"java/util/ArrayList", "fastRemove", "([Ljava/lang/Object;I)V"⟩, 3) := ⟨⟨by decide +kernel, by decide +kernel⟩, List.mem_of_getElem? (i := 32) rfl, List.mem_of_getElem? (i := 638) rfl, List.mem_of_getElem? (i := 639) rfl⟩
set_option maxRecDepth 100000 in
theorem lw_p36 : lw_okq (⟨"BeetHouse", "wasteHeaps", "()V"⟩, 12) := ⟨⟨by decide +kernel, by decide +kernel⟩, List.mem_of_getElem? (i := 22) rfl, List.mem_of_getElem? (i := 643) rfl, List.mem_of_getElem? (i := 644) rfl⟩
set_option maxRecDepth 100000 in
theorem lw_p37 : lw_okq (⟨"BeetHouse$Weather", "numberOf", "(I)I"⟩, 2) := ⟨⟨by decide +kernel, by decide +kernel⟩, List.mem_of_getElem? (i := 60) rfl, List.mem_of_getElem? (i := 647) rfl, List.mem_of_getElem? (i := 648) rfl⟩
set_option maxRecDepth 100000 in
theorem lw_p38 : lw_okq (⟨"BeetHouse$Plot", "waste", "(I)V"⟩, 14) := ⟨⟨by decide +kernel, by decide +kernel⟩, List.mem_of_getElem? (i := 256) rfl, List.mem_of_getElem? (i := 651) rfl, List.mem_of_getElem? (i := 652) rfl⟩
set_option maxRecDepth 100000 in
theorem lw_p39 : lw_okq (⟨"BeetHouse$Plot", "wasteOf", "(II)I"⟩, 14) := ⟨⟨by decide +kernel, by decide +kernel⟩, List.mem_of_getElem? (i := 256) rfl, List.mem_of_getElem? (i := 655) rfl, List.mem_of_getElem? (i := 656) rfl⟩
set_option maxRecDepth 100000 in
theorem lw_p40 : lw_okq (⟨"BeetHouse$Plot", "spoil", "(I)V"⟩, 14) := ⟨⟨by decide +kernel, by decide +kernel⟩, List.mem_of_getElem? (i := 256) rfl, List.mem_of_getElem? (i := 660) rfl, List.mem_of_getElem? (i := 661) rfl⟩
set_option maxRecDepth 100000 in
theorem lw_p41 : lw_okq (⟨"BeetHouse", "findOrder", "()Z"⟩, 12) := ⟨⟨by decide +kernel, by decide +kernel⟩, List.mem_of_getElem? (i := 22) rfl, List.mem_of_getElem? (i := 679) rfl, List.mem_of_getElem? (i := 680) rfl⟩
set_option maxRecDepth 100000 in
theorem lw_p42 : lw_okq (⟨"BeetHouse$Orders", "clear", "(I)V"⟩, 7) := ⟨⟨by decide +kernel, by decide +kernel⟩, List.mem_of_getElem? (i := 130) rfl, List.mem_of_getElem? (i := 683) rfl, List.mem_of_getElem? (i := 684) rfl⟩
set_option maxRecDepth 100000 in
theorem lw_p43 : lw_okq (⟨"BeetHouse$Orders", "add", "(LBeetHouse$Plot;ILBeetHouse$Weather;)Z"⟩, 7) := ⟨⟨by decide +kernel, by decide +kernel⟩, List.mem_of_getElem? (i := 130) rfl, List.mem_of_getElem? (i := 687) rfl, List.mem_of_getElem? (i := 688) rfl⟩
set_option maxRecDepth 100000 in
theorem lw_p44 : lw_okq (⟨"BeetHouse$Orders", "foresee", "([ILBeetHouse$Plot;LBeetHouse$Weather;)V"⟩, 7) := ⟨⟨by decide +kernel, by decide +kernel⟩, List.mem_of_getElem? (i := 130) rfl, List.mem_of_getElem? (i := 691) rfl, List.mem_of_getElem? (i := 692) rfl⟩
set_option maxRecDepth 100000 in
theorem lw_p45 : lw_okq (⟨"BeetHouse$Orders", "search", "()V"⟩, 7) := ⟨⟨by decide +kernel, by decide +kernel⟩, List.mem_of_getElem? (i := 130) rfl, List.mem_of_getElem? (i := 698) rfl, List.mem_of_getElem? (i := 699) rfl⟩
set_option maxRecDepth 100000 in
theorem lw_p46 : lw_okq (⟨"BeetHouse$Orders", "choose", "(I)V"⟩, 7) := ⟨⟨by decide +kernel, by decide +kernel⟩, List.mem_of_getElem? (i := 130) rfl, List.mem_of_getElem? (i := 702) rfl, List.mem_of_getElem? (i := 703) rfl⟩
set_option maxRecDepth 100000 in
theorem lw_p47 : lw_okq (⟨"BeetHouse$Orders", "leastWaste", "()I"⟩, 7) := ⟨⟨by decide +kernel, by decide +kernel⟩, List.mem_of_getElem? (i := 130) rfl, List.mem_of_getElem? (i := 708) rfl, List.mem_of_getElem? (i := 709) rfl⟩
def lw_privs_3 : List (MethodName × Nat) := [(⟨"BeetHouse$Mill", "grind", "(LBeetHouse$Yard;)V"⟩, 5), (⟨"BeetHouse$Plot", "rootsFor", "(I)I"⟩, 14), (⟨"BeetHouse$Plot", "unitsFor", "(I)I"⟩, 14), (⟨"java/util/ArrayList", "fastRemove", "([Ljava/lang/Object;I)V"⟩, 3), (⟨"BeetHouse", "wasteHeaps", "()V"⟩, 12), (⟨"BeetHouse$Weather", "numberOf", "(I)I"⟩, 2), (⟨"BeetHouse$Plot", "waste", "(I)V"⟩, 14), (⟨"BeetHouse$Plot", "wasteOf", "(II)I"⟩, 14), (⟨"BeetHouse$Plot", "spoil", "(I)V"⟩, 14), (⟨"BeetHouse", "findOrder", "()Z"⟩, 12), (⟨"BeetHouse$Orders", "clear", "(I)V"⟩, 7), (⟨"BeetHouse$Orders", "add", "(LBeetHouse$Plot;ILBeetHouse$Weather;)Z"⟩, 7), (⟨"BeetHouse$Orders", "foresee", "([ILBeetHouse$Plot;LBeetHouse$Weather;)V"⟩, 7), (⟨"BeetHouse$Orders", "search", "()V"⟩, 7), (⟨"BeetHouse$Orders", "choose", "(I)V"⟩, 7), (⟨"BeetHouse$Orders", "leastWaste", "()I"⟩, 7)]
theorem lw_r3 : ∀ q ∈ lw_privs_3, lw_okq q := List.forall_mem_cons.mpr ⟨lw_p32, List.forall_mem_cons.mpr ⟨lw_p33, List.forall_mem_cons.mpr ⟨lw_p34, List.forall_mem_cons.mpr ⟨lw_p35, List.forall_mem_cons.mpr ⟨lw_p36, List.forall_mem_cons.mpr ⟨lw_p37, List.forall_mem_cons.mpr ⟨lw_p38, List.forall_mem_cons.mpr ⟨lw_p39, List.forall_mem_cons.mpr ⟨lw_p40, List.forall_mem_cons.mpr ⟨lw_p41, List.forall_mem_cons.mpr ⟨lw_p42, List.forall_mem_cons.mpr ⟨lw_p43, List.forall_mem_cons.mpr ⟨lw_p44, List.forall_mem_cons.mpr ⟨lw_p45, List.forall_mem_cons.mpr ⟨lw_p46, List.forall_mem_cons.mpr ⟨lw_p47, fun _ h => absurd h List.not_mem_nil⟩⟩⟩⟩⟩⟩⟩⟩⟩⟩⟩⟩⟩⟩⟩⟩
set_option maxRecDepth 100000 in
theorem lw_p48 : lw_okq (⟨"BeetHouse$Orders", "plotAtPlace", "(I)I"⟩, 7) := ⟨⟨by decide +kernel, by decide +kernel⟩, List.mem_of_getElem? (i := 130) rfl, List.mem_of_getElem? (i := 716) rfl, List.mem_of_getElem? (i := 717) rfl⟩
set_option maxRecDepth 100000 in
theorem lw_p49 : lw_okq (⟨"BeetHouse", "lorriesOutTo", "(LBeetHouse$Plot;)I"⟩, 12) := ⟨⟨by decide +kernel, by decide +kernel⟩, List.mem_of_getElem? (i := 22) rfl, List.mem_of_getElem? (i := 724) rfl, List.mem_of_getElem? (i := 725) rfl⟩
set_option maxRecDepth 100000 in
theorem lw_p50 : lw_okq (⟨"BeetHouse", "wasteOfAll", "()I"⟩, 12) := ⟨⟨by decide +kernel, by decide +kernel⟩, List.mem_of_getElem? (i := 22) rfl, List.mem_of_getElem? (i := 744) rfl, List.mem_of_getElem? (i := 745) rfl⟩
set_option maxRecDepth 100000 in
theorem lw_p51 : lw_okq (⟨"BeetHouse", "spoiledOfAll", "()I"⟩, 12) := ⟨⟨by decide +kernel, by decide +kernel⟩, List.mem_of_getElem? (i := 22) rfl, List.mem_of_getElem? (i := 748) rfl, List.mem_of_getElem? (i := 749) rfl⟩
set_option maxRecDepth 100000 in
theorem lw_p52 : lw_okq (⟨"BeetHouseModel", "refuse", "(I)I"⟩, 49) := ⟨⟨by decide +kernel, by decide +kernel⟩, List.mem_of_getElem? (i := 752) rfl, List.mem_of_getElem? (i := 914) rfl, List.mem_of_getElem? (i := 915) rfl⟩
set_option maxRecDepth 100000 in
theorem lw_p53 : lw_okq (⟨"BeetHouseModel", "isField", "(I)Z"⟩, 49) := ⟨⟨by decide +kernel, by decide +kernel⟩, List.mem_of_getElem? (i := 752) rfl, List.mem_of_getElem? (i := 926) rfl, List.mem_of_getElem? (i := 927) rfl⟩
set_option maxRecDepth 100000 in
theorem lw_p54 : lw_okq (⟨"BeetHouseModel", "isLorry", "(I)Z"⟩, 49) := ⟨⟨by decide +kernel, by decide +kernel⟩, List.mem_of_getElem? (i := 752) rfl, List.mem_of_getElem? (i := 938) rfl, List.mem_of_getElem? (i := 939) rfl⟩
set_option maxRecDepth 100000 in
theorem lw_p55 : lw_okq (⟨"BeetHouseModel", "goes", "(II)V"⟩, 49) := ⟨⟨by decide +kernel, by decide +kernel⟩, List.mem_of_getElem? (i := 752) rfl, List.mem_of_getElem? (i := 942) rfl, List.mem_of_getElem? (i := 943) rfl⟩
set_option maxRecDepth 100000 in
theorem lw_p56 : lw_okq (⟨"BeetHouseModel", "nextOf", "()I"⟩, 49) := ⟨⟨by decide +kernel, by decide +kernel⟩, List.mem_of_getElem? (i := 752) rfl, List.mem_of_getElem? (i := 950) rfl, List.mem_of_getElem? (i := 951) rfl⟩
set_option maxRecDepth 100000 in
theorem lw_p57 : lw_okq (⟨"BeetHouseModel", "isLeft", "(I)Z"⟩, 49) := ⟨⟨by decide +kernel, by decide +kernel⟩, List.mem_of_getElem? (i := 752) rfl, List.mem_of_getElem? (i := 954) rfl, List.mem_of_getElem? (i := 955) rfl⟩
set_option maxRecDepth 100000 in
theorem lw_p58 : lw_okq (⟨"BeetHouseModel", "owedOf", "(I)I"⟩, 49) := ⟨⟨by decide +kernel, by decide +kernel⟩, List.mem_of_getElem? (i := 752) rfl, List.mem_of_getElem? (i := 958) rfl, List.mem_of_getElem? (i := 959) rfl⟩
set_option maxRecDepth 100000 in
theorem lw_p59 : lw_okq (⟨"BeetHouseModel", "lifts", "()V"⟩, 49) := ⟨⟨by decide +kernel, by decide +kernel⟩, List.mem_of_getElem? (i := 752) rfl, List.mem_of_getElem? (i := 990) rfl, List.mem_of_getElem? (i := 991) rfl⟩
set_option maxRecDepth 100000 in
theorem lw_p60 : lw_okq (⟨"BeetHouseModel", "arrives", "(I)V"⟩, 49) := ⟨⟨by decide +kernel, by decide +kernel⟩, List.mem_of_getElem? (i := 752) rfl, List.mem_of_getElem? (i := 995) rfl, List.mem_of_getElem? (i := 996) rfl⟩
set_option maxRecDepth 100000 in
theorem lw_p61 : lw_okq (⟨"BeetHouseModel", "unloads", "()V"⟩, 49) := ⟨⟨by decide +kernel, by decide +kernel⟩, List.mem_of_getElem? (i := 752) rfl, List.mem_of_getElem? (i := 999) rfl, List.mem_of_getElem? (i := 1000) rfl⟩
set_option maxRecDepth 100000 in
theorem lw_p62 : lw_okq (⟨"BeetHouseModel", "inYard", "()I"⟩, 49) := ⟨⟨by decide +kernel, by decide +kernel⟩, List.mem_of_getElem? (i := 752) rfl, List.mem_of_getElem? (i := 1003) rfl, List.mem_of_getElem? (i := 1004) rfl⟩
set_option maxRecDepth 100000 in
theorem lw_p63 : lw_okq (⟨"BeetHouseModel", "brings", "(I)V"⟩, 49) := ⟨⟨by decide +kernel, by decide +kernel⟩, List.mem_of_getElem? (i := 752) rfl, List.mem_of_getElem? (i := 1007) rfl, List.mem_of_getElem? (i := 1008) rfl⟩
def lw_privs_4 : List (MethodName × Nat) := [(⟨"BeetHouse$Orders", "plotAtPlace", "(I)I"⟩, 7), (⟨"BeetHouse", "lorriesOutTo", "(LBeetHouse$Plot;)I"⟩, 12), (⟨"BeetHouse", "wasteOfAll", "()I"⟩, 12), (⟨"BeetHouse", "spoiledOfAll", "()I"⟩, 12), (⟨"BeetHouseModel", "refuse", "(I)I"⟩, 49), (⟨"BeetHouseModel", "isField", "(I)Z"⟩, 49), (⟨"BeetHouseModel", "isLorry", "(I)Z"⟩, 49), (⟨"BeetHouseModel", "goes", "(II)V"⟩, 49), (⟨"BeetHouseModel", "nextOf", "()I"⟩, 49), (⟨"BeetHouseModel", "isLeft", "(I)Z"⟩, 49), (⟨"BeetHouseModel", "owedOf", "(I)I"⟩, 49), (⟨"BeetHouseModel", "lifts", "()V"⟩, 49), (⟨"BeetHouseModel", "arrives", "(I)V"⟩, 49), (⟨"BeetHouseModel", "unloads", "()V"⟩, 49), (⟨"BeetHouseModel", "inYard", "()I"⟩, 49), (⟨"BeetHouseModel", "brings", "(I)V"⟩, 49)]
theorem lw_r4 : ∀ q ∈ lw_privs_4, lw_okq q := List.forall_mem_cons.mpr ⟨lw_p48, List.forall_mem_cons.mpr ⟨lw_p49, List.forall_mem_cons.mpr ⟨lw_p50, List.forall_mem_cons.mpr ⟨lw_p51, List.forall_mem_cons.mpr ⟨lw_p52, List.forall_mem_cons.mpr ⟨lw_p53, List.forall_mem_cons.mpr ⟨lw_p54, List.forall_mem_cons.mpr ⟨lw_p55, List.forall_mem_cons.mpr ⟨lw_p56, List.forall_mem_cons.mpr ⟨lw_p57, List.forall_mem_cons.mpr ⟨lw_p58, List.forall_mem_cons.mpr ⟨lw_p59, List.forall_mem_cons.mpr ⟨lw_p60, List.forall_mem_cons.mpr ⟨lw_p61, List.forall_mem_cons.mpr ⟨lw_p62, List.forall_mem_cons.mpr ⟨lw_p63, fun _ h => absurd h List.not_mem_nil⟩⟩⟩⟩⟩⟩⟩⟩⟩⟩⟩⟩⟩⟩⟩⟩
set_option maxRecDepth 100000 in
theorem lw_p64 : lw_okq (⟨"BeetHouseModel", "eats", "()I"⟩, 49) := ⟨⟨by decide +kernel, by decide +kernel⟩, List.mem_of_getElem? (i := 752) rfl, List.mem_of_getElem? (i := 1011) rfl, List.mem_of_getElem? (i := 1012) rfl⟩
set_option maxRecDepth 100000 in
theorem lw_p65 : lw_okq (⟨"BeetHouseModel", "ends", "()V"⟩, 49) := ⟨⟨by decide +kernel, by decide +kernel⟩, List.mem_of_getElem? (i := 752) rfl, List.mem_of_getElem? (i := 1015) rfl, List.mem_of_getElem? (i := 1016) rfl⟩
set_option maxRecDepth 100000 in
theorem lw_p66 : lw_okq (⟨"BeetHouseModel", "wasteOf", "(III)I"⟩, 49) := ⟨⟨by decide +kernel, by decide +kernel⟩, List.mem_of_getElem? (i := 752) rfl, List.mem_of_getElem? (i := 1019) rfl, List.mem_of_getElem? (i := 1020) rfl⟩
set_option maxRecDepth 100000 in
theorem lw_p67 : lw_okq (⟨"BeetHouseModel", "knows", "()Z"⟩, 49) := ⟨⟨by decide +kernel, by decide +kernel⟩, List.mem_of_getElem? (i := 752) rfl, List.mem_of_getElem? (i := 1037) rfl, List.mem_of_getElem? (i := 1038) rfl⟩
set_option maxRecDepth 100000 in
theorem lw_p68 : lw_okq (⟨"BeetHouseModel", "lies", "(II)I"⟩, 49) := ⟨⟨by decide +kernel, by decide +kernel⟩, List.mem_of_getElem? (i := 752) rfl, List.mem_of_getElem? (i := 1041) rfl, List.mem_of_getElem? (i := 1042) rfl⟩
def lw_privs_5 : List (MethodName × Nat) := [(⟨"BeetHouseModel", "eats", "()I"⟩, 49), (⟨"BeetHouseModel", "ends", "()V"⟩, 49), (⟨"BeetHouseModel", "wasteOf", "(III)I"⟩, 49), (⟨"BeetHouseModel", "knows", "()Z"⟩, 49), (⟨"BeetHouseModel", "lies", "(II)I"⟩, 49)]
theorem lw_r5 : ∀ q ∈ lw_privs_5, lw_okq q := List.forall_mem_cons.mpr ⟨lw_p64, List.forall_mem_cons.mpr ⟨lw_p65, List.forall_mem_cons.mpr ⟨lw_p66, List.forall_mem_cons.mpr ⟨lw_p67, List.forall_mem_cons.mpr ⟨lw_p68, fun _ h => absurd h List.not_mem_nil⟩⟩⟩⟩⟩
def lw_privs : List (MethodName × Nat) := lw_privs_1 ++ (lw_privs_2 ++ (lw_privs_3 ++ (lw_privs_4 ++ (lw_privs_5))))
def lw_tbl : List Cond := k2_sels lw_privs ++ tables_1
theorem lw_privs_ok : ∀ q ∈ lw_privs, lw_okq q := by
  show ∀ q ∈ lw_privs_1 ++ (lw_privs_2 ++ (lw_privs_3 ++ (lw_privs_4 ++ (lw_privs_5)))), lw_okq q
  exact List.forall_mem_append.mpr ⟨lw_r1, List.forall_mem_append.mpr ⟨lw_r2, List.forall_mem_append.mpr ⟨lw_r3, List.forall_mem_append.mpr ⟨lw_r4, lw_r5⟩⟩⟩⟩
-- ===== end of PART A; then your names; then what follows =====
end
section
/-! ===== BEGIN words of one list among another's, by their places ===== -/
theorem goodIn_r {big : List Cond} (ws : List Cond) (ps : List Nat) (hp : ws = ps.filterMap (fun i => big[i]?)) (h : ws.all goodWord = true) : GoodIn big ws := by
  intro w hw
  have h1 := List.all_eq_true.mp h w hw
  rw [hp] at hw
  obtain ⟨i, -, hi⟩ := List.mem_filterMap.mp hw
  have hm : w ∈ big := by first | exact List.mem_of_getElem? hi | exact List.getElem?_mem hi
  exact ⟨hm, good_of_word h1⟩
theorem goodIn_app {big a b : List Cond} (ha : GoodIn big a) (hb : GoodIn big b) : GoodIn big (a ++ b) := fun w h => (List.mem_append.mp h).elim (ha w) (hb w)
theorem goodIn_ca {big a b : List Cond} {c : Cond} (ha : GoodIn big (c :: a)) (hb : GoodIn big b) : GoodIn big (c :: (a ++ b)) := fun w h => (List.mem_cons.mp h).elim (fun e => ha w (List.mem_cons.mpr (Or.inl e))) (fun h => (List.mem_append.mp h).elim (fun h => ha w (List.mem_cons.mpr (Or.inr h))) (hb w))
theorem goodIn_sub {big ws : List Cond} (hm : ∀ w ∈ ws, w ∈ big) (h : ws.all goodWord = true) : GoodIn big ws := fun w hw => ⟨hm w hw, good_of_word (List.all_eq_true.mp h w hw)⟩
/-! ===== END ===== -/

/-! ===== BEGIN printed: names, fields, word lists, decode rows ===== -/
def RX0 : String := "BeetHouse$Farmer"
def TX0 : u_T := fun k => match k with
  | 0 => ("BeetHouse$Farmer", "number", "I", true)
  | 1 => ("BeetHouse$Farmer", "share", "I", false)
  | 2 => ("BeetHouse$Farmer", "coins", "I", false)
  | _ => ("BeetHouse$Farmer", "came", "I", false)
def tyX0 : Nat → FieldType := fun k => match k with
  | 0 => .int
  | 1 => .int
  | 2 => .int
  | _ => .int
abbrev wsX00 : List Cond := u_ws RX0 TX0 4
theorem nmX0 : ∀ a, a < 4 → ∀ b, b < 4 → a ≠ b → (TX0 a).2.1 ≠ (TX0 b).2.1 := by decide +kernel
theorem tyX0_ok : ∀ k, k < 4 → parseFieldDescriptor (TX0 k).2.2.1 = some (tyX0 k) := by decide +kernel
abbrev cX0_init : ByteArray := prog_2_method_1_code
def yX0_init : MethodName := ⟨RX0, "<init>", "(I)V"⟩
abbrev cX0_claim : ByteArray := prog_2_method_2_code
def yX0_claim : MethodName := ⟨RX0, "claim", "(I)I"⟩
abbrev cX0_comesBefore : ByteArray := prog_2_method_3_code
def yX0_comesBefore : MethodName := ⟨RX0, "comesBefore", "(LBeetHouse$Farmer;I)Z"⟩
def RX1 : String := "BeetHouse$Gang"
def TX1 : u_T := fun k => match k with
  | 0 => ("BeetHouse$Gang", "rate", "I", false)
  | _ => ("BeetHouse$Gang", "plot", "LBeetHouse$Plot;", false)
def tyX1 : Nat → FieldType := fun k => match k with
  | 0 => .int
  | _ => .object "BeetHouse$Plot"
abbrev wsX10 : List Cond := u_ws RX1 TX1 2
theorem nmX1 : ∀ a, a < 2 → ∀ b, b < 2 → a ≠ b → (TX1 a).2.1 ≠ (TX1 b).2.1 := by decide +kernel
theorem tyX1_ok : ∀ k, k < 2 → parseFieldDescriptor (TX1 k).2.2.1 = some (tyX1 k) := by decide +kernel
abbrev cX1_init : ByteArray := prog_3_method_1_code
def yX1_init : MethodName := ⟨RX1, "<init>", "()V"⟩
def RX2 : String := "BeetHouse$Load"
def TX2 : u_T := fun k => match k with
  | 0 => ("BeetHouse$Load", "plot", "LBeetHouse$Plot;", true)
  | 1 => ("BeetHouse$Load", "roots", "I", false)
  | _ => ("BeetHouse$Load", "sugar", "I", true)
def tyX2 : Nat → FieldType := fun k => match k with
  | 0 => .object "BeetHouse$Plot"
  | 1 => .int
  | _ => .int
abbrev wsX20 : List Cond := u_ws RX2 TX2 3
theorem nmX2 : ∀ a, a < 3 → ∀ b, b < 3 → a ≠ b → (TX2 a).2.1 ≠ (TX2 b).2.1 := by decide +kernel
theorem tyX2_ok : ∀ k, k < 3 → parseFieldDescriptor (TX2 k).2.2.1 = some (tyX2 k) := by decide +kernel
abbrev cX2_init : ByteArray := prog_4_method_1_code
def yX2_init : MethodName := ⟨RX2, "<init>", "(LBeetHouse$Plot;II)V"⟩
def RX3 : String := "BeetHouse$Lorry"
def TX3 : u_T := fun k => match k with
  | 0 => ("BeetHouse$Lorry", "capacity", "I", true)
  | 1 => ("BeetHouse$Lorry", "state", "I", false)
  | 2 => ("BeetHouse$Lorry", "plot", "LBeetHouse$Plot;", false)
  | 3 => ("BeetHouse$Lorry", "there", "I", false)
  | 4 => ("BeetHouse$Lorry", "roots", "I", false)
  | 5 => ("BeetHouse$Lorry", "sugar", "I", false)
  | 6 => ("BeetHouse$Lorry", "drowned", "I", false)
  | _ => ("BeetHouse$Lorry", "brought", "I", false)
def tyX3 : Nat → FieldType := fun k => match k with
  | 0 => .int
  | 1 => .int
  | 2 => .object "BeetHouse$Plot"
  | 3 => .int
  | 4 => .int
  | 5 => .int
  | 6 => .int
  | _ => .int
abbrev wsX30 : List Cond := u_ws RX3 TX3 8
theorem nmX3 : ∀ a, a < 8 → ∀ b, b < 8 → a ≠ b → (TX3 a).2.1 ≠ (TX3 b).2.1 := by decide +kernel
theorem tyX3_ok : ∀ k, k < 8 → parseFieldDescriptor (TX3 k).2.2.1 = some (tyX3 k) := by decide +kernel
abbrev cX3_init : ByteArray := prog_5_method_1_code
def yX3_init : MethodName := ⟨RX3, "<init>", "(I)V"⟩
abbrev cX3_isOutTo : ByteArray := prog_5_method_2_code
def yX3_isOutTo : MethodName := ⟨RX3, "isOutTo", "(LBeetHouse$Plot;)Z"⟩
abbrev cX3_setOut : ByteArray := prog_5_method_3_code
def yX3_setOut : MethodName := ⟨RX3, "setOut", "(LBeetHouse$Plot;I)V"⟩
abbrev cX3_arrive : ByteArray := prog_5_method_4_code
def yX3_arrive : MethodName := ⟨RX3, "arrive", "(I)V"⟩
abbrev cX3_fill : ByteArray := prog_5_method_5_code
def yX3_fill : MethodName := ⟨RX3, "fill", "(LBeetHouse$Plot;)V"⟩
abbrev cX3_comeHome : ByteArray := prog_5_method_6_code
def yX3_comeHome : MethodName := ⟨RX3, "comeHome", "()V"⟩
def RX4 : String := "BeetHouse$Mill"
def TX4 : u_T := fun k => match k with
  | 0 => ("BeetHouse$Mill", "rate", "I", false)
  | 1 => ("BeetHouse$Mill", "eaten", "I", false)
  | 2 => ("BeetHouse$Mill", "sugarWon", "I", false)
  | 3 => ("BeetHouse$Mill", "stood", "I", false)
  | _ => ("BeetHouse$Mill", "lack", "I", false)
def tyX4 : Nat → FieldType := fun k => match k with
  | 0 => .int
  | 1 => .int
  | 2 => .int
  | 3 => .int
  | _ => .int
abbrev wsX40 : List Cond := u_ws RX4 TX4 5
theorem nmX4 : ∀ a, a < 5 → ∀ b, b < 5 → a ≠ b → (TX4 a).2.1 ≠ (TX4 b).2.1 := by decide +kernel
theorem tyX4_ok : ∀ k, k < 5 → parseFieldDescriptor (TX4 k).2.2.1 = some (tyX4 k) := by decide +kernel
abbrev cX4_init : ByteArray := prog_6_method_1_code
def yX4_init : MethodName := ⟨RX4, "<init>", "()V"⟩
abbrev cX4_grind : ByteArray := prog_6_method_2_code
def yX4_grind : MethodName := ⟨RX4, "grind", "(LBeetHouse$Yard;)V"⟩
def RX5 : String := "BeetHouse$Orders"
def TX5 : u_T := fun k => match k with
  | 0 => ("BeetHouse$Orders", "numbers", "[I", true)
  | 1 => ("BeetHouse$Orders", "wasteByEnds", "[[I", true)
  | 2 => ("BeetHouse$Orders", "begins", "[I", true)
  | 3 => ("BeetHouse$Orders", "leastAfter", "[I", true)
  | 4 => ("BeetHouse$Orders", "chosenAfter", "[I", true)
  | 5 => ("BeetHouse$Orders", "size", "I", false)
  | _ => ("BeetHouse$Orders", "now", "I", false)
def tyX5 : Nat → FieldType := fun k => match k with
  | 0 => .array .int
  | 1 => .array (.array .int)
  | 2 => .array .int
  | 3 => .array .int
  | 4 => .array .int
  | 5 => .int
  | _ => .int
abbrev wsX50 : List Cond := u_ws RX5 TX5 7
theorem nmX5 : ∀ a, a < 7 → ∀ b, b < 7 → a ≠ b → (TX5 a).2.1 ≠ (TX5 b).2.1 := by decide +kernel
theorem tyX5_ok : ∀ k, k < 7 → parseFieldDescriptor (TX5 k).2.2.1 = some (tyX5 k) := by decide +kernel
abbrev cX5_init : ByteArray := prog_7_method_1_code
def yX5_init : MethodName := ⟨RX5, "<init>", "()V"⟩
abbrev cX5_clear : ByteArray := prog_7_method_2_code
def yX5_clear : MethodName := ⟨RX5, "clear", "(I)V"⟩
abbrev cX5_add : ByteArray := prog_7_method_3_code
def yX5_add : MethodName := ⟨RX5, "add", "(LBeetHouse$Plot;ILBeetHouse$Weather;)Z"⟩
abbrev cX5_foresee : ByteArray := prog_7_method_4_code
def yX5_foresee : MethodName := ⟨RX5, "foresee", "([ILBeetHouse$Plot;LBeetHouse$Weather;)V"⟩
abbrev cX5_search : ByteArray := prog_7_method_5_code
def yX5_search : MethodName := ⟨RX5, "search", "()V"⟩
abbrev cX5_choose : ByteArray := prog_7_method_6_code
def yX5_choose : MethodName := ⟨RX5, "choose", "(I)V"⟩
abbrev cX5_leastWaste : ByteArray := prog_7_method_7_code
def yX5_leastWaste : MethodName := ⟨RX5, "leastWaste", "()I"⟩
abbrev cX5_plotAtPlace : ByteArray := prog_7_method_8_code
def yX5_plotAtPlace : MethodName := ⟨RX5, "plotAtPlace", "(I)I"⟩
def RX6 : String := "BeetHouse$Plot"
def TX6 : u_T := fun k => match k with
  | 0 => ("BeetHouse$Plot", "number", "I", true)
  | 1 => ("BeetHouse$Plot", "farmer", "LBeetHouse$Farmer;", true)
  | 2 => ("BeetHouse$Plot", "sweet", "I", true)
  | 3 => ("BeetHouse$Plot", "way", "I", true)
  | 4 => ("BeetHouse$Plot", "stony", "Z", true)
  | 5 => ("BeetHouse$Plot", "ground", "I", false)
  | 6 => ("BeetHouse$Plot", "roots", "I", false)
  | 7 => ("BeetHouse$Plot", "sugar", "I", false)
  | 8 => ("BeetHouse$Plot", "covered", "Z", false)
  | 9 => ("BeetHouse$Plot", "frozen", "Z", false)
  | 10 => ("BeetHouse$Plot", "thawedSince", "I", false)
  | 11 => ("BeetHouse$Plot", "wasted", "I", false)
  | 12 => ("BeetHouse$Plot", "spoiled", "I", false)
  | _ => ("BeetHouse$Plot", "came", "I", false)
def tyX6 : Nat → FieldType := fun k => match k with
  | 0 => .int
  | 1 => .object "BeetHouse$Farmer"
  | 2 => .int
  | 3 => .int
  | 4 => .boolean
  | 5 => .int
  | 6 => .int
  | 7 => .int
  | 8 => .boolean
  | 9 => .boolean
  | 10 => .int
  | 11 => .int
  | 12 => .int
  | _ => .int
abbrev wsX60 : List Cond := u_ws RX6 TX6 14
theorem nmX6 : ∀ a, a < 14 → ∀ b, b < 14 → a ≠ b → (TX6 a).2.1 ≠ (TX6 b).2.1 := by decide +kernel
theorem tyX6_ok : ∀ k, k < 14 → parseFieldDescriptor (TX6 k).2.2.1 = some (tyX6 k) := by decide +kernel
abbrev cX6_init : ByteArray := prog_8_method_1_code
def yX6_init : MethodName := ⟨RX6, "<init>", "(ILBeetHouse$Farmer;IIIZ)V"⟩
abbrev cX6_unitsFor : ByteArray := prog_8_method_2_code
def yX6_unitsFor : MethodName := ⟨RX6, "unitsFor", "(I)I"⟩
abbrev cX6_rootsFor : ByteArray := prog_8_method_3_code
def yX6_rootsFor : MethodName := ⟨RX6, "rootsFor", "(I)I"⟩
abbrev cX6_wayBack : ByteArray := prog_8_method_4_code
def yX6_wayBack : MethodName := ⟨RX6, "wayBack", "()I"⟩
abbrev cX6_lift : ByteArray := prog_8_method_5_code
def yX6_lift : MethodName := ⟨RX6, "lift", "(I)V"⟩
abbrev cX6_sugarIn : ByteArray := prog_8_method_6_code
def yX6_sugarIn : MethodName := ⟨RX6, "sugarIn", "(I)I"⟩
abbrev cX6_lose : ByteArray := prog_8_method_7_code
def yX6_lose : MethodName := ⟨RX6, "lose", "(II)V"⟩
abbrev cX6_freeze : ByteArray := prog_8_method_8_code
def yX6_freeze : MethodName := ⟨RX6, "freeze", "()Z"⟩
abbrev cX6_thaw : ByteArray := prog_8_method_9_code
def yX6_thaw : MethodName := ⟨RX6, "thaw", "(I)Z"⟩
abbrev cX6_wasteOf : ByteArray := prog_8_method_10_code
def yX6_wasteOf : MethodName := ⟨RX6, "wasteOf", "(II)I"⟩
abbrev cX6_waste : ByteArray := prog_8_method_11_code
def yX6_waste : MethodName := ⟨RX6, "waste", "(I)V"⟩
abbrev cX6_spoil : ByteArray := prog_8_method_12_code
def yX6_spoil : MethodName := ⟨RX6, "spoil", "(I)V"⟩
def RX7 : String := "BeetHouse$Weather"
def TX7 : u_T := fun k => match k with
  | 0 => ("BeetHouse$Weather", "warmths", "[I", true)
  | _ => ("BeetHouse$Weather", "numbers", "[I", true)
def tyX7 : Nat → FieldType := fun k => match k with
  | 0 => .array .int
  | _ => .array .int
abbrev wsX70 : List Cond := u_ws RX7 TX7 2
theorem nmX7 : ∀ a, a < 2 → ∀ b, b < 2 → a ≠ b → (TX7 a).2.1 ≠ (TX7 b).2.1 := by decide +kernel
theorem tyX7_ok : ∀ k, k < 2 → parseFieldDescriptor (TX7 k).2.2.1 = some (tyX7 k) := by decide +kernel
abbrev cX7_init : ByteArray := prog_9_method_1_code
def yX7_init : MethodName := ⟨RX7, "<init>", "()V"⟩
abbrev cX7_numberOf : ByteArray := prog_9_method_2_code
def yX7_numberOf : MethodName := ⟨RX7, "numberOf", "(I)I"⟩
def RX8 : String := "BeetHouse$Yard"
def TX8 : u_T := fun k => match k with
  | 0 => ("BeetHouse$Yard", "loads", "Ljava/util/ArrayList;", true)
  | 1 => ("BeetHouse$Yard", "room", "I", false)
  | 2 => ("BeetHouse$Yard", "roots", "I", false)
  | _ => ("BeetHouse$Yard", "came", "I", false)
def tyX8 : Nat → FieldType := fun k => match k with
  | 0 => .object "java/util/ArrayList"
  | 1 => .int
  | 2 => .int
  | _ => .int
abbrev wsX80 : List Cond := u_ws RX8 TX8 4
theorem nmX8 : ∀ a, a < 4 → ∀ b, b < 4 → a ≠ b → (TX8 a).2.1 ≠ (TX8 b).2.1 := by decide +kernel
theorem tyX8_ok : ∀ k, k < 4 → parseFieldDescriptor (TX8 k).2.2.1 = some (tyX8 k) := by decide +kernel
abbrev cX8_init : ByteArray := prog_10_method_1_code
def yX8_init : MethodName := ⟨RX8, "<init>", "()V"⟩
abbrev cX8_hasRoomFor : ByteArray := prog_10_method_2_code
def yX8_hasRoomFor : MethodName := ⟨RX8, "hasRoomFor", "(I)Z"⟩
abbrev cX8_take : ByteArray := prog_10_method_3_code
def yX8_take : MethodName := ⟨RX8, "take", "(LBeetHouse$Load;)V"⟩
def RX9 : String := "BeetHouse"
def TX9 : u_T := fun k => match k with
  | 0 => ("BeetHouse", "farmers", "[LBeetHouse$Farmer;", true)
  | 1 => ("BeetHouse", "plots", "Ljava/util/ArrayList;", true)
  | 2 => ("BeetHouse", "gangs", "[LBeetHouse$Gang;", true)
  | 3 => ("BeetHouse", "lorries", "Ljava/util/ArrayList;", true)
  | 4 => ("BeetHouse", "weather", "LBeetHouse$Weather;", true)
  | 5 => ("BeetHouse", "yard", "LBeetHouse$Yard;", true)
  | 6 => ("BeetHouse", "mill", "LBeetHouse$Mill;", true)
  | 7 => ("BeetHouse", "orders", "LBeetHouse$Orders;", true)
  | 8 => ("BeetHouse", "prices", "[I", true)
  | 9 => ("BeetHouse", "refusals", "[I", true)
  | 10 => ("BeetHouse", "freezing", "Z", false)
  | _ => ("BeetHouse", "hour", "I", false)
def tyX9 : Nat → FieldType := fun k => match k with
  | 0 => .array (.object "BeetHouse$Farmer")
  | 1 => .object "java/util/ArrayList"
  | 2 => .array (.object "BeetHouse$Gang")
  | 3 => .object "java/util/ArrayList"
  | 4 => .object "BeetHouse$Weather"
  | 5 => .object "BeetHouse$Yard"
  | 6 => .object "BeetHouse$Mill"
  | 7 => .object "BeetHouse$Orders"
  | 8 => .array .int
  | 9 => .array .int
  | 10 => .boolean
  | _ => .int
abbrev wsX90 : List Cond := u_ws RX9 TX9 12
theorem nmX9 : ∀ a, a < 12 → ∀ b, b < 12 → a ≠ b → (TX9 a).2.1 ≠ (TX9 b).2.1 := by decide +kernel
theorem tyX9_ok : ∀ k, k < 12 → parseFieldDescriptor (TX9 k).2.2.1 = some (tyX9 k) := by decide +kernel
abbrev cX9_init : ByteArray := prog_1_method_1_code
def yX9_init : MethodName := ⟨RX9, "<init>", "()V"⟩
abbrev cX9_share : ByteArray := prog_1_method_2_code
def yX9_share : MethodName := ⟨RX9, "share", "(II)I"⟩
abbrev cX9_field : ByteArray := prog_1_method_3_code
def yX9_field : MethodName := ⟨RX9, "field", "(IIIIZ)I"⟩
abbrev cX9_gang : ByteArray := prog_1_method_4_code
def yX9_gang : MethodName := ⟨RX9, "gang", "(III)I"⟩
abbrev cX9_lorry : ByteArray := prog_1_method_5_code
def yX9_lorry : MethodName := ⟨RX9, "lorry", "(I)I"⟩
abbrev cX9_send : ByteArray := prog_1_method_6_code
def yX9_send : MethodName := ⟨RX9, "send", "(II)I"⟩
abbrev cX9_turn : ByteArray := prog_1_method_7_code
def yX9_turn : MethodName := ⟨RX9, "turn", "()I"⟩
abbrev cX9_works : ByteArray := prog_1_method_8_code
def yX9_works : MethodName := ⟨RX9, "works", "(II)I"⟩
abbrev cX9_table : ByteArray := prog_1_method_9_code
def yX9_table : MethodName := ⟨RX9, "table", "(II)I"⟩
abbrev cX9_warmth : ByteArray := prog_1_method_10_code
def yX9_warmth : MethodName := ⟨RX9, "warmth", "(II)I"⟩
abbrev cX9_price : ByteArray := prog_1_method_11_code
def yX9_price : MethodName := ⟨RX9, "price", "(II)I"⟩
abbrev cX9_cover : ByteArray := prog_1_method_12_code
def yX9_cover : MethodName := ⟨RX9, "cover", "(IZ)I"⟩
abbrev cX9_frost : ByteArray := prog_1_method_13_code
def yX9_frost : MethodName := ⟨RX9, "frost", "(Z)I"⟩
abbrev cX9_hours : ByteArray := prog_1_method_14_code
def yX9_hours : MethodName := ⟨RX9, "hours", "(I)I"⟩
abbrev cX9_owed : ByteArray := prog_1_method_15_code
def yX9_owed : MethodName := ⟨RX9, "owed", "(I)I"⟩
abbrev cX9_next : ByteArray := prog_1_method_16_code
def yX9_next : MethodName := ⟨RX9, "next", "()I"⟩
abbrev cX9_best : ByteArray := prog_1_method_17_code
def yX9_best : MethodName := ⟨RX9, "best", "()I"⟩
abbrev cX9_order : ByteArray := prog_1_method_18_code
def yX9_order : MethodName := ⟨RX9, "order", "(I)I"⟩
abbrev cX9_fieldOf : ByteArray := prog_1_method_19_code
def yX9_fieldOf : MethodName := ⟨RX9, "fieldOf", "(II)I"⟩
abbrev cX9_lorryOf : ByteArray := prog_1_method_20_code
def yX9_lorryOf : MethodName := ⟨RX9, "lorryOf", "(II)I"⟩
abbrev cX9_load : ByteArray := prog_1_method_21_code
def yX9_load : MethodName := ⟨RX9, "load", "(II)I"⟩
abbrev cX9_coins : ByteArray := prog_1_method_22_code
def yX9_coins : MethodName := ⟨RX9, "coins", "(I)I"⟩
abbrev cX9_count : ByteArray := prog_1_method_23_code
def yX9_count : MethodName := ⟨RX9, "count", "(I)I"⟩
abbrev cX9_refuse : ByteArray := prog_1_method_24_code
def yX9_refuse : MethodName := ⟨RX9, "refuse", "(I)I"⟩
abbrev cX9_outside : ByteArray := prog_1_method_25_code
def yX9_outside : MethodName := ⟨RX9, "outside", "(III)I"⟩
abbrev cX9_put : ByteArray := prog_1_method_26_code
def yX9_put : MethodName := ⟨RX9, "put", "([IIIII)I"⟩
abbrev cX9_farmerAt : ByteArray := prog_1_method_27_code
def yX9_farmerAt : MethodName := ⟨RX9, "farmerAt", "(I)LBeetHouse$Farmer;"⟩
abbrev cX9_plotAt : ByteArray := prog_1_method_28_code
def yX9_plotAt : MethodName := ⟨RX9, "plotAt", "(I)LBeetHouse$Plot;"⟩
abbrev cX9_lorryAt : ByteArray := prog_1_method_29_code
def yX9_lorryAt : MethodName := ⟨RX9, "lorryAt", "(I)LBeetHouse$Lorry;"⟩
abbrev cX9_firstHome : ByteArray := prog_1_method_30_code
def yX9_firstHome : MethodName := ⟨RX9, "firstHome", "()LBeetHouse$Lorry;"⟩
abbrev cX9_lorriesOutTo : ByteArray := prog_1_method_31_code
def yX9_lorriesOutTo : MethodName := ⟨RX9, "lorriesOutTo", "(LBeetHouse$Plot;)I"⟩
abbrev cX9_hasRootsToSpare : ByteArray := prog_1_method_32_code
def yX9_hasRootsToSpare : MethodName := ⟨RX9, "hasRootsToSpare", "(LBeetHouse$Plot;)Z"⟩
abbrev cX9_mostOwed : ByteArray := prog_1_method_33_code
def yX9_mostOwed : MethodName := ⟨RX9, "mostOwed", "()LBeetHouse$Farmer;"⟩
abbrev cX9_sweetestOf : ByteArray := prog_1_method_34_code
def yX9_sweetestOf : MethodName := ⟨RX9, "sweetestOf", "(LBeetHouse$Farmer;)LBeetHouse$Plot;"⟩
abbrev cX9_wasteOfAll : ByteArray := prog_1_method_35_code
def yX9_wasteOfAll : MethodName := ⟨RX9, "wasteOfAll", "()I"⟩
abbrev cX9_spoiledOfAll : ByteArray := prog_1_method_36_code
def yX9_spoiledOfAll : MethodName := ⟨RX9, "spoiledOfAll", "()I"⟩
abbrev cX9_passHour : ByteArray := prog_1_method_37_code
def yX9_passHour : MethodName := ⟨RX9, "passHour", "()V"⟩
abbrev cX9_liftRoots : ByteArray := prog_1_method_38_code
def yX9_liftRoots : MethodName := ⟨RX9, "liftRoots", "()V"⟩
abbrev cX9_unloadLorries : ByteArray := prog_1_method_39_code
def yX9_unloadLorries : MethodName := ⟨RX9, "unloadLorries", "()V"⟩
abbrev cX9_unloadOne : ByteArray := prog_1_method_40_code
def yX9_unloadOne : MethodName := ⟨RX9, "unloadOne", "(LBeetHouse$Lorry;)V"⟩
abbrev cX9_pay : ByteArray := prog_1_method_41_code
def yX9_pay : MethodName := ⟨RX9, "pay", "(LBeetHouse$Load;)V"⟩
abbrev cX9_wasteHeaps : ByteArray := prog_1_method_42_code
def yX9_wasteHeaps : MethodName := ⟨RX9, "wasteHeaps", "()V"⟩
abbrev cX9_findOrder : ByteArray := prog_1_method_43_code
def yX9_findOrder : MethodName := ⟨RX9, "findOrder", "()Z"⟩
def RX10 : String := "BeetHouseModel"
def TX10 : u_T := fun k => match k with
  | 0 => ("BeetHouseModel", "refusals", "[I", true)
  | 1 => ("BeetHouseModel", "shares", "[I", true)
  | 2 => ("BeetHouseModel", "coins", "[I", true)
  | 3 => ("BeetHouseModel", "warmths", "[I", true)
  | 4 => ("BeetHouseModel", "tables", "[I", true)
  | 5 => ("BeetHouseModel", "prices", "[I", true)
  | 6 => ("BeetHouseModel", "hour", "I", false)
  | 7 => ("BeetHouseModel", "fields", "I", false)
  | 8 => ("BeetHouseModel", "lorries", "I", false)
  | 9 => ("BeetHouseModel", "room", "I", false)
  | 10 => ("BeetHouseModel", "rate", "I", false)
  | 11 => ("BeetHouseModel", "eaten", "I", false)
  | 12 => ("BeetHouseModel", "won", "I", false)
  | 13 => ("BeetHouseModel", "stood", "I", false)
  | 14 => ("BeetHouseModel", "lack", "I", false)
  | 15 => ("BeetHouseModel", "wasted", "I", false)
  | 16 => ("BeetHouseModel", "spoiled", "I", false)
  | 17 => ("BeetHouseModel", "isFrost", "Z", false)
  | 18 => ("BeetHouseModel", "farmer", "[I", true)
  | 19 => ("BeetHouseModel", "ground", "[I", true)
  | 20 => ("BeetHouseModel", "sweet", "[I", true)
  | 21 => ("BeetHouseModel", "way", "[I", true)
  | 22 => ("BeetHouseModel", "roots", "[I", true)
  | 23 => ("BeetHouseModel", "sugar", "[I", true)
  | 24 => ("BeetHouseModel", "thawed", "[I", true)
  | 25 => ("BeetHouseModel", "waste", "[I", true)
  | 26 => ("BeetHouseModel", "gone", "[I", true)
  | 27 => ("BeetHouseModel", "came", "[I", true)
  | 28 => ("BeetHouseModel", "stony", "[Z", true)
  | 29 => ("BeetHouseModel", "covered", "[Z", true)
  | 30 => ("BeetHouseModel", "frozen", "[Z", true)
  | 31 => ("BeetHouseModel", "gangRate", "[I", true)
  | 32 => ("BeetHouseModel", "gangField", "[I", true)
  | 33 => ("BeetHouseModel", "size", "[I", true)
  | 34 => ("BeetHouseModel", "does", "[I", true)
  | 35 => ("BeetHouseModel", "to", "[I", true)
  | 36 => ("BeetHouseModel", "there", "[I", true)
  | 37 => ("BeetHouseModel", "has", "[I", true)
  | 38 => ("BeetHouseModel", "hasSugar", "[I", true)
  | 39 => ("BeetHouseModel", "drowned", "[I", true)
  | 40 => ("BeetHouseModel", "brought", "[I", true)
  | 41 => ("BeetHouseModel", "loadField", "[I", true)
  | 42 => ("BeetHouseModel", "loadRoots", "[I", true)
  | 43 => ("BeetHouseModel", "loadSugar", "[I", true)
  | 44 => ("BeetHouseModel", "loads", "I", false)
  | 45 => ("BeetHouseModel", "heap", "[I", true)
  | 46 => ("BeetHouseModel", "lasts", "[I", true)
  | 47 => ("BeetHouseModel", "least", "[I", true)
  | _ => ("BeetHouseModel", "heaps", "I", false)
def tyX10 : Nat → FieldType := fun k => match k with
  | 0 => .array .int
  | 1 => .array .int
  | 2 => .array .int
  | 3 => .array .int
  | 4 => .array .int
  | 5 => .array .int
  | 6 => .int
  | 7 => .int
  | 8 => .int
  | 9 => .int
  | 10 => .int
  | 11 => .int
  | 12 => .int
  | 13 => .int
  | 14 => .int
  | 15 => .int
  | 16 => .int
  | 17 => .boolean
  | 18 => .array .int
  | 19 => .array .int
  | 20 => .array .int
  | 21 => .array .int
  | 22 => .array .int
  | 23 => .array .int
  | 24 => .array .int
  | 25 => .array .int
  | 26 => .array .int
  | 27 => .array .int
  | 28 => .array .boolean
  | 29 => .array .boolean
  | 30 => .array .boolean
  | 31 => .array .int
  | 32 => .array .int
  | 33 => .array .int
  | 34 => .array .int
  | 35 => .array .int
  | 36 => .array .int
  | 37 => .array .int
  | 38 => .array .int
  | 39 => .array .int
  | 40 => .array .int
  | 41 => .array .int
  | 42 => .array .int
  | 43 => .array .int
  | 44 => .int
  | 45 => .array .int
  | 46 => .array .int
  | 47 => .array .int
  | _ => .int
abbrev wsX100 : List Cond := u_ws RX10 TX10 49
theorem nmX10 : ∀ a, a < 49 → ∀ b, b < 49 → a ≠ b → (TX10 a).2.1 ≠ (TX10 b).2.1 := by decide +kernel
theorem tyX10_ok : ∀ k, k < 49 → parseFieldDescriptor (TX10 k).2.2.1 = some (tyX10 k) := by decide +kernel
abbrev cX10_init : ByteArray := prog_12_method_1_code
def yX10_init : MethodName := ⟨RX10, "<init>", "()V"⟩
abbrev cX10_refuse : ByteArray := prog_12_method_2_code
def yX10_refuse : MethodName := ⟨RX10, "refuse", "(I)I"⟩
abbrev cX10_isIn : ByteArray := prog_12_method_3_code
def yX10_isIn : MethodName := ⟨RX10, "isIn", "(II)Z"⟩
abbrev cX10_share : ByteArray := prog_12_method_4_code
def yX10_share : MethodName := ⟨RX10, "share", "(II)I"⟩
abbrev cX10_field : ByteArray := prog_12_method_5_code
def yX10_field : MethodName := ⟨RX10, "field", "(IIIIZ)I"⟩
abbrev cX10_isField : ByteArray := prog_12_method_6_code
def yX10_isField : MethodName := ⟨RX10, "isField", "(I)Z"⟩
abbrev cX10_isLorry : ByteArray := prog_12_method_7_code
def yX10_isLorry : MethodName := ⟨RX10, "isLorry", "(I)Z"⟩
abbrev cX10_gang : ByteArray := prog_12_method_8_code
def yX10_gang : MethodName := ⟨RX10, "gang", "(III)I"⟩
abbrev cX10_lorry : ByteArray := prog_12_method_9_code
def yX10_lorry : MethodName := ⟨RX10, "lorry", "(I)I"⟩
abbrev cX10_goes : ByteArray := prog_12_method_10_code
def yX10_goes : MethodName := ⟨RX10, "goes", "(II)V"⟩
abbrev cX10_send : ByteArray := prog_12_method_11_code
def yX10_send : MethodName := ⟨RX10, "send", "(II)I"⟩
abbrev cX10_isLeft : ByteArray := prog_12_method_12_code
def yX10_isLeft : MethodName := ⟨RX10, "isLeft", "(I)Z"⟩
abbrev cX10_owedOf : ByteArray := prog_12_method_13_code
def yX10_owedOf : MethodName := ⟨RX10, "owedOf", "(I)I"⟩
abbrev cX10_nextOf : ByteArray := prog_12_method_14_code
def yX10_nextOf : MethodName := ⟨RX10, "nextOf", "()I"⟩
abbrev cX10_turn : ByteArray := prog_12_method_15_code
def yX10_turn : MethodName := ⟨RX10, "turn", "()I"⟩
abbrev cX10_works : ByteArray := prog_12_method_16_code
def yX10_works : MethodName := ⟨RX10, "works", "(II)I"⟩
abbrev cX10_table : ByteArray := prog_12_method_17_code
def yX10_table : MethodName := ⟨RX10, "table", "(II)I"⟩
abbrev cX10_warmth : ByteArray := prog_12_method_18_code
def yX10_warmth : MethodName := ⟨RX10, "warmth", "(II)I"⟩
abbrev cX10_price : ByteArray := prog_12_method_19_code
def yX10_price : MethodName := ⟨RX10, "price", "(II)I"⟩
abbrev cX10_cover : ByteArray := prog_12_method_20_code
def yX10_cover : MethodName := ⟨RX10, "cover", "(IZ)I"⟩
abbrev cX10_frost : ByteArray := prog_12_method_21_code
def yX10_frost : MethodName := ⟨RX10, "frost", "(Z)I"⟩
abbrev cX10_inYard : ByteArray := prog_12_method_22_code
def yX10_inYard : MethodName := ⟨RX10, "inYard", "()I"⟩
abbrev cX10_lifts : ByteArray := prog_12_method_23_code
def yX10_lifts : MethodName := ⟨RX10, "lifts", "()V"⟩
abbrev cX10_arrives : ByteArray := prog_12_method_24_code
def yX10_arrives : MethodName := ⟨RX10, "arrives", "(I)V"⟩
abbrev cX10_unloads : ByteArray := prog_12_method_25_code
def yX10_unloads : MethodName := ⟨RX10, "unloads", "()V"⟩
abbrev cX10_brings : ByteArray := prog_12_method_26_code
def yX10_brings : MethodName := ⟨RX10, "brings", "(I)V"⟩
abbrev cX10_eats : ByteArray := prog_12_method_27_code
def yX10_eats : MethodName := ⟨RX10, "eats", "()I"⟩
abbrev cX10_wasteOf : ByteArray := prog_12_method_28_code
def yX10_wasteOf : MethodName := ⟨RX10, "wasteOf", "(III)I"⟩
abbrev cX10_ends : ByteArray := prog_12_method_29_code
def yX10_ends : MethodName := ⟨RX10, "ends", "()V"⟩
abbrev cX10_hours : ByteArray := prog_12_method_30_code
def yX10_hours : MethodName := ⟨RX10, "hours", "(I)I"⟩
abbrev cX10_owed : ByteArray := prog_12_method_31_code
def yX10_owed : MethodName := ⟨RX10, "owed", "(I)I"⟩
abbrev cX10_next : ByteArray := prog_12_method_32_code
def yX10_next : MethodName := ⟨RX10, "next", "()I"⟩
abbrev cX10_knows : ByteArray := prog_12_method_33_code
def yX10_knows : MethodName := ⟨RX10, "knows", "()Z"⟩
abbrev cX10_lies : ByteArray := prog_12_method_34_code
def yX10_lies : MethodName := ⟨RX10, "lies", "(II)I"⟩
abbrev cX10_best : ByteArray := prog_12_method_35_code
def yX10_best : MethodName := ⟨RX10, "best", "()I"⟩
abbrev cX10_order : ByteArray := prog_12_method_36_code
def yX10_order : MethodName := ⟨RX10, "order", "(I)I"⟩
abbrev cX10_fieldOf : ByteArray := prog_12_method_37_code
def yX10_fieldOf : MethodName := ⟨RX10, "fieldOf", "(II)I"⟩
abbrev cX10_lorryOf : ByteArray := prog_12_method_38_code
def yX10_lorryOf : MethodName := ⟨RX10, "lorryOf", "(II)I"⟩
abbrev cX10_load : ByteArray := prog_12_method_39_code
def yX10_load : MethodName := ⟨RX10, "load", "(II)I"⟩
abbrev cX10_coins : ByteArray := prog_12_method_40_code
def yX10_coins : MethodName := ⟨RX10, "coins", "(I)I"⟩
abbrev cX10_count : ByteArray := prog_12_method_41_code
def yX10_count : MethodName := ⟨RX10, "count", "(I)I"⟩
def RJx145de : String := "java/io/Serializable"
def TJx145de : u_T := fun k => match k with
  | _ => ("", "", "", false)
def tyJx145de : Nat → FieldType := fun k => match k with
  | _ => .int
abbrev wsJx145de0 : List Cond := u_ws RJx145de TJx145de 0
theorem nmJx145de : ∀ a, a < 0 → ∀ b, b < 0 → a ≠ b → (TJx145de a).2.1 ≠ (TJx145de b).2.1 := by decide +kernel
theorem tyJx145de_ok : ∀ k, k < 0 → parseFieldDescriptor (TJx145de k).2.2.1 = some (tyJx145de k) := by decide +kernel
def RJx8e188 : String := "java/lang/Cloneable"
def TJx8e188 : u_T := fun k => match k with
  | _ => ("", "", "", false)
def tyJx8e188 : Nat → FieldType := fun k => match k with
  | _ => .int
abbrev wsJx8e1880 : List Cond := u_ws RJx8e188 TJx8e188 0
theorem nmJx8e188 : ∀ a, a < 0 → ∀ b, b < 0 → a ≠ b → (TJx8e188 a).2.1 ≠ (TJx8e188 b).2.1 := by decide +kernel
theorem tyJx8e188_ok : ∀ k, k < 0 → parseFieldDescriptor (TJx8e188 k).2.2.1 = some (tyJx8e188 k) := by decide +kernel
def RJxab1ab : String := "java/lang/Iterable"
def TJxab1ab : u_T := fun k => match k with
  | _ => ("", "", "", false)
def tyJxab1ab : Nat → FieldType := fun k => match k with
  | _ => .int
abbrev wsJxab1ab0 : List Cond := u_ws RJxab1ab TJxab1ab 0
theorem nmJxab1ab : ∀ a, a < 0 → ∀ b, b < 0 → a ≠ b → (TJxab1ab a).2.1 ≠ (TJxab1ab b).2.1 := by decide +kernel
theorem tyJxab1ab_ok : ∀ k, k < 0 → parseFieldDescriptor (TJxab1ab k).2.2.1 = some (tyJxab1ab k) := by decide +kernel
def RJ9 : String := "java/lang/Math"
def TJ9 : u_T := fun k => match k with
  | _ => ("", "", "", false)
def tyJ9 : Nat → FieldType := fun k => match k with
  | _ => .int
abbrev wsJ90 : List Cond := u_ws RJ9 TJ9 0
theorem nmJ9 : ∀ a, a < 0 → ∀ b, b < 0 → a ≠ b → (TJ9 a).2.1 ≠ (TJ9 b).2.1 := by decide +kernel
theorem tyJ9_ok : ∀ k, k < 0 → parseFieldDescriptor (TJ9 k).2.2.1 = some (tyJ9 k) := by decide +kernel
abbrev cJ9_max_7cf53 : ByteArray := prog_16_method_65_code
def yJ9_max_7cf53 : MethodName := ⟨RJ9, "max", "(II)I"⟩
abbrev cJ9_min_7cf53 : ByteArray := prog_16_method_69_code
def yJ9_min_7cf53 : MethodName := ⟨RJ9, "min", "(II)I"⟩
def RJ10 : String := "java/lang/System"
def TJ10 : u_T := fun k => match k with
  | _ => ("", "", "", false)
def tyJ10 : Nat → FieldType := fun k => match k with
  | _ => .int
abbrev wsJ100 : List Cond := u_ws RJ10 TJ10 0
theorem nmJ10 : ∀ a, a < 0 → ∀ b, b < 0 → a ≠ b → (TJ10 a).2.1 ≠ (TJ10 b).2.1 := by decide +kernel
theorem tyJ10_ok : ∀ k, k < 0 → parseFieldDescriptor (TJ10 k).2.2.1 = some (tyJ10 k) := by decide +kernel
def RJxa1e45 : String := "java/util/AbstractCollection"
def TJxa1e45 : u_T := fun k => match k with
  | _ => ("", "", "", false)
def tyJxa1e45 : Nat → FieldType := fun k => match k with
  | _ => .int
abbrev wsJxa1e450 : List Cond := u_ws RJxa1e45 TJxa1e45 0
theorem nmJxa1e45 : ∀ a, a < 0 → ∀ b, b < 0 → a ≠ b → (TJxa1e45 a).2.1 ≠ (TJxa1e45 b).2.1 := by decide +kernel
theorem tyJxa1e45_ok : ∀ k, k < 0 → parseFieldDescriptor (TJxa1e45 k).2.2.1 = some (tyJxa1e45 k) := by decide +kernel
abbrev cJxa1e45_init_da8c8 : ByteArray := prog_18_method_1_code
def yJxa1e45_init_da8c8 : MethodName := ⟨RJxa1e45, "<init>", "()V"⟩
def RJxc12de : String := "java/util/AbstractList"
def TJxc12de : u_T := fun k => match k with
  | _ => ("", "", "", false)
def tyJxc12de : Nat → FieldType := fun k => match k with
  | _ => .int
abbrev wsJxc12de0 : List Cond := u_ws RJxc12de TJxc12de 0
theorem nmJxc12de : ∀ a, a < 0 → ∀ b, b < 0 → a ≠ b → (TJxc12de a).2.1 ≠ (TJxc12de b).2.1 := by decide +kernel
theorem tyJxc12de_ok : ∀ k, k < 0 → parseFieldDescriptor (TJxc12de k).2.2.1 = some (tyJxc12de k) := by decide +kernel
abbrev cJxc12de_init_da8c8 : ByteArray := prog_19_method_1_code
def yJxc12de_init_da8c8 : MethodName := ⟨RJxc12de, "<init>", "()V"⟩
def RJx4a65c : String := "java/util/ArrayList"
def TJx4a65c : u_T := fun k => match k with
  | 0 => ("java/util/AbstractList", "modCount", "I", false)
  | 1 => ("java/util/ArrayList", "elementData", "[Ljava/lang/Object;", false)
  | _ => ("java/util/ArrayList", "size", "I", false)
def tyJx4a65c : Nat → FieldType := fun k => match k with
  | 0 => .int
  | 1 => .array (.object "java/lang/Object")
  | _ => .int
abbrev wsJx4a65c0 : List Cond := u_ws RJx4a65c TJx4a65c 3
theorem nmJx4a65c : ∀ a, a < 3 → ∀ b, b < 3 → a ≠ b → (TJx4a65c a).2.1 ≠ (TJx4a65c b).2.1 := by decide +kernel
theorem tyJx4a65c_ok : ∀ k, k < 3 → parseFieldDescriptor (TJx4a65c k).2.2.1 = some (tyJx4a65c k) := by decide +kernel
abbrev cJx4a65c_init_da8c8 : ByteArray := prog_20_method_2_code
def yJx4a65c_init_da8c8 : MethodName := ⟨RJx4a65c, "<init>", "()V"⟩
abbrev cJx4a65c_grow_92f84 : ByteArray := prog_20_method_6_code
def yJx4a65c_grow_92f84 : MethodName := ⟨RJx4a65c, "grow", "(I)[Ljava/lang/Object;"⟩
abbrev cJx4a65c_grow_d5877 : ByteArray := prog_20_method_7_code
def yJx4a65c_grow_d5877 : MethodName := ⟨RJx4a65c, "grow", "()[Ljava/lang/Object;"⟩
abbrev cJx4a65c_size_8abf5 : ByteArray := prog_20_method_8_code
def yJx4a65c_size_8abf5 : MethodName := ⟨RJx4a65c, "size", "()I"⟩
abbrev cJx4a65c_isEmpty_aae02 : ByteArray := prog_20_method_9_code
def yJx4a65c_isEmpty_aae02 : MethodName := ⟨RJx4a65c, "isEmpty", "()Z"⟩
abbrev cJx4a65c_elementData_915e3 : ByteArray := prog_20_method_18_code
def yJx4a65c_elementData_915e3 : MethodName := ⟨RJx4a65c, "elementData", "(I)Ljava/lang/Object;"⟩
abbrev cJx4a65c_get_915e3 : ByteArray := prog_20_method_20_code
def yJx4a65c_get_915e3 : MethodName := ⟨RJx4a65c, "get", "(I)Ljava/lang/Object;"⟩
abbrev cJx4a65c_add_72be8 : ByteArray := prog_20_method_24_code
def yJx4a65c_add_72be8 : MethodName := ⟨RJx4a65c, "add", "(Ljava/lang/Object;[Ljava/lang/Object;I)V"⟩
abbrev cJx4a65c_add_9ea2d : ByteArray := prog_20_method_25_code
def yJx4a65c_add_9ea2d : MethodName := ⟨RJx4a65c, "add", "(Ljava/lang/Object;)Z"⟩
abbrev cJx4a65c_remove_915e3 : ByteArray := prog_20_method_29_code
def yJx4a65c_remove_915e3 : MethodName := ⟨RJx4a65c, "remove", "(I)Ljava/lang/Object;"⟩
abbrev cJx4a65c_fastRemove_b59b0 : ByteArray := prog_20_method_39_code
def yJx4a65c_fastRemove_b59b0 : MethodName := ⟨RJx4a65c, "fastRemove", "([Ljava/lang/Object;I)V"⟩
def RJ7 : String := "java/util/Arrays"
def TJ7 : u_T := fun k => match k with
  | _ => ("", "", "", false)
def tyJ7 : Nat → FieldType := fun k => match k with
  | _ => .int
abbrev wsJ70 : List Cond := u_ws RJ7 TJ7 0
theorem nmJ7 : ∀ a, a < 0 → ∀ b, b < 0 → a ≠ b → (TJ7 a).2.1 ≠ (TJ7 b).2.1 := by decide +kernel
theorem tyJ7_ok : ∀ k, k < 0 → parseFieldDescriptor (TJ7 k).2.2.1 = some (tyJ7 k) := by decide +kernel
abbrev cJ7_copyOf_1904c : ByteArray := prog_21_method_119_code
def yJ7_copyOf_1904c : MethodName := ⟨RJ7, "copyOf", "([Ljava/lang/Object;I)[Ljava/lang/Object;"⟩
abbrev cJ7_copyOf_6403c : ByteArray := prog_21_method_120_code
def yJ7_copyOf_6403c : MethodName := ⟨RJ7, "copyOf", "([Ljava/lang/Object;ILjava/lang/Class;)[Ljava/lang/Object;"⟩
def RJx5ef63 : String := "java/util/Collection"
def TJx5ef63 : u_T := fun k => match k with
  | _ => ("", "", "", false)
def tyJx5ef63 : Nat → FieldType := fun k => match k with
  | _ => .int
abbrev wsJx5ef630 : List Cond := u_ws RJx5ef63 TJx5ef63 0
theorem nmJx5ef63 : ∀ a, a < 0 → ∀ b, b < 0 → a ≠ b → (TJx5ef63 a).2.1 ≠ (TJx5ef63 b).2.1 := by decide +kernel
theorem tyJx5ef63_ok : ∀ k, k < 0 → parseFieldDescriptor (TJx5ef63 k).2.2.1 = some (tyJx5ef63 k) := by decide +kernel
def RJxbd725 : String := "java/util/List"
def TJxbd725 : u_T := fun k => match k with
  | _ => ("", "", "", false)
def tyJxbd725 : Nat → FieldType := fun k => match k with
  | _ => .int
abbrev wsJxbd7250 : List Cond := u_ws RJxbd725 TJxbd725 0
theorem nmJxbd725 : ∀ a, a < 0 → ∀ b, b < 0 → a ≠ b → (TJxbd725 a).2.1 ≠ (TJxbd725 b).2.1 := by decide +kernel
theorem tyJxbd725_ok : ∀ k, k < 0 → parseFieldDescriptor (TJxbd725 k).2.2.1 = some (tyJxbd725 k) := by decide +kernel
def RJ15 : String := "java/util/Objects"
def TJ15 : u_T := fun k => match k with
  | _ => ("", "", "", false)
def tyJ15 : Nat → FieldType := fun k => match k with
  | _ => .int
abbrev wsJ150 : List Cond := u_ws RJ15 TJ15 0
theorem nmJ15 : ∀ a, a < 0 → ∀ b, b < 0 → a ≠ b → (TJ15 a).2.1 ≠ (TJ15 b).2.1 := by decide +kernel
theorem tyJ15_ok : ∀ k, k < 0 → parseFieldDescriptor (TJ15 k).2.2.1 = some (tyJ15 k) := by decide +kernel
abbrev cJ15_checkIndex_7cf53 : ByteArray := prog_24_method_17_code
def yJ15_checkIndex_7cf53 : MethodName := ⟨RJ15, "checkIndex", "(II)I"⟩
def RJxf0a74 : String := "java/util/RandomAccess"
def TJxf0a74 : u_T := fun k => match k with
  | _ => ("", "", "", false)
def tyJxf0a74 : Nat → FieldType := fun k => match k with
  | _ => .int
abbrev wsJxf0a740 : List Cond := u_ws RJxf0a74 TJxf0a74 0
theorem nmJxf0a74 : ∀ a, a < 0 → ∀ b, b < 0 → a ≠ b → (TJxf0a74 a).2.1 ≠ (TJxf0a74 b).2.1 := by decide +kernel
theorem tyJxf0a74_ok : ∀ k, k < 0 → parseFieldDescriptor (TJxf0a74 k).2.2.1 = some (tyJxf0a74 k) := by decide +kernel
def RJxa66e6 : String := "java/util/SequencedCollection"
def TJxa66e6 : u_T := fun k => match k with
  | _ => ("", "", "", false)
def tyJxa66e6 : Nat → FieldType := fun k => match k with
  | _ => .int
abbrev wsJxa66e60 : List Cond := u_ws RJxa66e6 TJxa66e6 0
theorem nmJxa66e6 : ∀ a, a < 0 → ∀ b, b < 0 → a ≠ b → (TJxa66e6 a).2.1 ≠ (TJxa66e6 b).2.1 := by decide +kernel
theorem tyJxa66e6_ok : ∀ k, k < 0 → parseFieldDescriptor (TJxa66e6 k).2.2.1 = some (tyJxa66e6 k) := by decide +kernel
def RJ8 : String := "jdk/internal/util/ArraysSupport"
def TJ8 : u_T := fun k => match k with
  | _ => ("", "", "", false)
def tyJ8 : Nat → FieldType := fun k => match k with
  | _ => .int
abbrev wsJ80 : List Cond := u_ws RJ8 TJ8 0
theorem nmJ8 : ∀ a, a < 0 → ∀ b, b < 0 → a ≠ b → (TJ8 a).2.1 ≠ (TJ8 b).2.1 := by decide +kernel
theorem tyJ8_ok : ∀ k, k < 0 → parseFieldDescriptor (TJ8 k).2.2.1 = some (tyJ8 k) := by decide +kernel
abbrev cJ8_newLength_cabcc : ByteArray := prog_27_method_27_code
def yJ8_newLength_cabcc : MethodName := ⟨RJ8, "newLength", "(III)I"⟩
abbrev cJ8_hugeLength_7cf53 : ByteArray := prog_27_method_28_code
def yJ8_hugeLength_7cf53 : MethodName := ⟨RJ8, "hugeLength", "(II)I"⟩
def RJ3 : String := "jdk/internal/util/Preconditions"
def TJ3 : u_T := fun k => match k with
  | _ => ("", "", "", false)
def tyJ3 : Nat → FieldType := fun k => match k with
  | _ => .int
abbrev wsJ30 : List Cond := u_ws RJ3 TJ3 0
theorem nmJ3 : ∀ a, a < 0 → ∀ b, b < 0 → a ≠ b → (TJ3 a).2.1 ≠ (TJ3 b).2.1 := by decide +kernel
theorem tyJ3_ok : ∀ k, k < 0 → parseFieldDescriptor (TJ3 k).2.2.1 = some (tyJ3 k) := by decide +kernel
abbrev cJ3_checkIndex_8e157 : ByteArray := prog_28_method_11_code
def yJ3_checkIndex_8e157 : MethodName := ⟨RJ3, "checkIndex", "(IILjava/util/function/BiFunction;)I"⟩
def RL : String := "BeetHouseLaw"
abbrev cL_law : ByteArray := code
def yL_law : MethodName := ⟨RL, "law", "([I)Z"⟩
def wsX0_init : List Cond := .code yX0_init cX0_init 2 none :: ([.methodLink RX0 1 objectInit, .instanceMethod objectInit, .code objectInit ⟨#[0xb1]⟩ 1 none, .fieldLink RX0 7 "BeetHouse$Farmer" "share" "I", .fieldLink RX0 13 "BeetHouse$Farmer" "coins" "I", .fieldLink RX0 16 "BeetHouse$Farmer" "came" "I", .fieldLink RX0 19 "BeetHouse$Farmer" "number" "I"] ++ wsX00)
def wsX0_claim : List Cond := .code yX0_claim cX0_claim 2 (some .int) :: ([.fieldLink RX0 7 "BeetHouse$Farmer" "share" "I", .fieldLink RX0 16 "BeetHouse$Farmer" "came" "I"] ++ wsX00)
def wsX0_comesBefore : List Cond := .code yX0_comesBefore cX0_comesBefore 5 (some .boolean) :: ([.fieldLink RX0 19 "BeetHouse$Farmer" "number" "I", .methodLink RX0 22 yX0_claim, .instanceMethod yX0_claim, .selects RX0 yX0_claim yX0_claim, .initialized RX0, .code yX0_claim cX0_claim 2 (some .int), .fieldLink RX0 7 "BeetHouse$Farmer" "share" "I", .fieldLink RX0 16 "BeetHouse$Farmer" "came" "I"] ++ wsX00)
def wsX1_init : List Cond := .code yX1_init cX1_init 1 none :: ([.methodLink RX1 1 objectInit, .instanceMethod objectInit, .code objectInit ⟨#[0xb1]⟩ 1 none, .fieldLink RX1 7 "BeetHouse$Gang" "rate" "I", .fieldLink RX1 13 "BeetHouse$Gang" "plot" "LBeetHouse$Plot;"] ++ wsX10)
def wsX2_init : List Cond := .code yX2_init cX2_init 4 none :: ([.methodLink RX2 1 objectInit, .instanceMethod objectInit, .code objectInit ⟨#[0xb1]⟩ 1 none, .fieldLink RX2 7 "BeetHouse$Load" "plot" "LBeetHouse$Plot;", .fieldLink RX2 13 "BeetHouse$Load" "roots" "I", .fieldLink RX2 17 "BeetHouse$Load" "sugar" "I"] ++ wsX20)
def wsX3_init : List Cond := .code yX3_init cX3_init 2 none :: ([.methodLink RX3 3 objectInit, .instanceMethod objectInit, .code objectInit ⟨#[0xb1]⟩ 1 none, .fieldLink RX3 9 "BeetHouse$Lorry" "state" "I", .fieldLink RX3 15 "BeetHouse$Lorry" "plot" "LBeetHouse$Plot;", .fieldLink RX3 19 "BeetHouse$Lorry" "there" "I", .fieldLink RX3 22 "BeetHouse$Lorry" "roots" "I", .fieldLink RX3 25 "BeetHouse$Lorry" "sugar" "I", .fieldLink RX3 28 "BeetHouse$Lorry" "drowned" "I", .fieldLink RX3 31 "BeetHouse$Lorry" "brought" "I", .fieldLink RX3 34 "BeetHouse$Lorry" "capacity" "I"] ++ wsX30)
def wsX3_isOutTo : List Cond := .code yX3_isOutTo cX3_isOutTo 2 (some .boolean) :: ([.fieldLink RX3 9 "BeetHouse$Lorry" "state" "I", .fieldLink RX3 15 "BeetHouse$Lorry" "plot" "LBeetHouse$Plot;"] ++ wsX30)
def wsX3_setOut : List Cond := .code yX3_setOut cX3_setOut 3 none :: ([.fieldLink RX3 9 "BeetHouse$Lorry" "state" "I", .fieldLink RX3 15 "BeetHouse$Lorry" "plot" "LBeetHouse$Plot;", .fieldLink RX3 19 "BeetHouse$Lorry" "there" "I"] ++ wsX30 ++ wsX60)
def wsX6_sugarIn : List Cond := .code yX6_sugarIn cX6_sugarIn 2 (some .int) :: ([.fieldLink RX6 9 "BeetHouse$Plot" "roots" "I", .fieldLink RX6 15 "BeetHouse$Plot" "sugar" "I"] ++ wsX60)
def wsX6_lose : List Cond := .code yX6_lose cX6_lose 3 none :: ([.fieldLink RX6 9 "BeetHouse$Plot" "roots" "I", .fieldLink RX6 15 "BeetHouse$Plot" "sugar" "I", .fieldLink RX6 25 "BeetHouse$Plot" "thawedSince" "I"] ++ wsX60)
def wsX3_fill : List Cond := .code yX3_fill cX3_fill 3 none :: ([.fieldLink RX3 34 "BeetHouse$Lorry" "capacity" "I", .methodLink RX3 51 Lib.Math.min.name, .static Lib.Math.min.name, .initialized "java/lang/Math", .code Lib.Math.min.name Lib.Math.min.code 2 (some .int), .fieldLink RX3 22 "BeetHouse$Lorry" "roots" "I", .fieldLink RX3 25 "BeetHouse$Lorry" "sugar" "I", .instanceMethod yX6_sugarIn, .initialized RX6, .selects RX6 yX6_sugarIn yX6_sugarIn, .code yX6_sugarIn cX6_sugarIn 2 (some .int), .fieldLink RX6 9 "BeetHouse$Plot" "roots" "I", .fieldLink RX6 15 "BeetHouse$Plot" "sugar" "I", .instanceMethod yX6_lose, .selects RX6 yX6_lose yX6_lose, .code yX6_lose cX6_lose 3 none, .fieldLink RX6 25 "BeetHouse$Plot" "thawedSince" "I"] ++ wsX30 ++ wsX60)
def wsX6_wayBack : List Cond := .code yX6_wayBack cX6_wayBack 1 (some .int) :: ([.fieldLink RX6 53 "BeetHouse$Plot" "stony" "Z", .fieldLink RX6 50 "BeetHouse$Plot" "way" "I"] ++ wsX60)
def wsX3_arrive_r1 : List Cond := [Cond.fieldLink RX3 19 "BeetHouse$Lorry" "there" "I", Cond.fieldLink RX3 15 "BeetHouse$Lorry" "plot" "LBeetHouse$Plot;", Cond.fieldLink RX3 9 "BeetHouse$Lorry" "state" "I", Cond.methodLink RX3 42 yX3_fill, Cond.instanceMethod yX3_fill, Cond.selects RX3 yX3_fill yX3_fill, Cond.initialized RX3, Cond.code yX3_fill cX3_fill 3 none, Cond.fieldLink RX3 34 "BeetHouse$Lorry" "capacity" "I", Cond.methodLink RX3 51 Lib.Math.min.name, Cond.static Lib.Math.min.name, Cond.initialized "java/lang/Math", Cond.code Lib.Math.min.name Lib.Math.min.code 2 (some .int), Cond.fieldLink RX3 22 "BeetHouse$Lorry" "roots" "I", Cond.fieldLink RX3 25 "BeetHouse$Lorry" "sugar" "I", Cond.instanceMethod yX6_sugarIn, Cond.initialized RX6, Cond.selects RX6 yX6_sugarIn yX6_sugarIn, Cond.code yX6_sugarIn cX6_sugarIn 2 (some .int), Cond.fieldLink RX6 9 "BeetHouse$Plot" "roots" "I", Cond.fieldLink RX6 15 "BeetHouse$Plot" "sugar" "I", Cond.instanceMethod yX6_lose, Cond.selects RX6 yX6_lose yX6_lose, Cond.code yX6_lose cX6_lose 3 none]
def wsX3_arrive_r2 : List Cond := [Cond.fieldLink RX6 25 "BeetHouse$Plot" "thawedSince" "I", Cond.instanceMethod yX6_wayBack, Cond.selects RX6 yX6_wayBack yX6_wayBack, Cond.code yX6_wayBack cX6_wayBack 1 (some .int), Cond.fieldLink RX6 53 "BeetHouse$Plot" "stony" "Z", Cond.fieldLink RX6 50 "BeetHouse$Plot" "way" "I"]
def wsX3_arrive : List Cond := .code yX3_arrive cX3_arrive 2 none :: ((wsX3_arrive_r1 ++ wsX3_arrive_r2) ++ wsX30 ++ wsX60)
def wsX3_comeHome : List Cond := .code yX3_comeHome cX3_comeHome 1 none :: ([.fieldLink RX3 9 "BeetHouse$Lorry" "state" "I", .fieldLink RX3 15 "BeetHouse$Lorry" "plot" "LBeetHouse$Plot;", .fieldLink RX3 22 "BeetHouse$Lorry" "roots" "I", .fieldLink RX3 25 "BeetHouse$Lorry" "sugar" "I"] ++ wsX30)
def wsX4_init : List Cond := .code yX4_init cX4_init 1 none :: ([.methodLink RX4 1 objectInit, .instanceMethod objectInit, .code objectInit ⟨#[0xb1]⟩ 1 none, .fieldLink RX4 7 "BeetHouse$Mill" "rate" "I", .fieldLink RX4 13 "BeetHouse$Mill" "eaten" "I", .fieldLink RX4 16 "BeetHouse$Mill" "sugarWon" "I", .fieldLink RX4 19 "BeetHouse$Mill" "stood" "I", .fieldLink RX4 22 "BeetHouse$Mill" "lack" "I"] ++ wsX40)
def wsJx4a65c_isEmpty_aae02 : List Cond := .code yJx4a65c_isEmpty_aae02 cJx4a65c_isEmpty_aae02 1 (some .boolean) :: ([.fieldLink RJx4a65c 48 "java/util/ArrayList" "size" "I"] ++ wsJx4a65c0)
def wsJ3_checkIndex_8e157 : List Cond := .code yJ3_checkIndex_8e157 cJ3_checkIndex_8e157 3 (some .int) :: ([])
def wsJ15_checkIndex_7cf53 : List Cond := .code yJ15_checkIndex_7cf53 cJ15_checkIndex_7cf53 2 (some .int) :: ([.methodLink RJ15 105 yJ3_checkIndex_8e157, .static yJ3_checkIndex_8e157, .initialized RJ3, .code yJ3_checkIndex_8e157 cJ3_checkIndex_8e157 3 (some .int)])
def wsJx4a65c_elementData_915e3 : List Cond := .code yJx4a65c_elementData_915e3 cJx4a65c_elementData_915e3 2 (some (.object "java/lang/Object")) :: ([.fieldLink RJx4a65c 9 "java/util/ArrayList" "elementData" "[Ljava/lang/Object;"] ++ wsJx4a65c0)
def wsJx4a65c_get_915e3 : List Cond := .code yJx4a65c_get_915e3 cJx4a65c_get_915e3 2 (some (.object "java/lang/Object")) :: ([.fieldLink RJx4a65c 48 "java/util/ArrayList" "size" "I", .methodLink RJx4a65c 118 yJ15_checkIndex_7cf53, .static yJ15_checkIndex_7cf53, .initialized RJ15, .code yJ15_checkIndex_7cf53 cJ15_checkIndex_7cf53 2 (some .int), .methodLink RJ15 105 yJ3_checkIndex_8e157, .static yJ3_checkIndex_8e157, .initialized RJ3, .code yJ3_checkIndex_8e157 cJ3_checkIndex_8e157 3 (some .int), .methodLink RJx4a65c 123 yJx4a65c_elementData_915e3, .instanceMethod yJx4a65c_elementData_915e3, .selects RJx4a65c yJx4a65c_elementData_915e3 yJx4a65c_elementData_915e3, .initialized RJx4a65c, .code yJx4a65c_elementData_915e3 cJx4a65c_elementData_915e3 2 (some (.object "java/lang/Object")), .fieldLink RJx4a65c 9 "java/util/ArrayList" "elementData" "[Ljava/lang/Object;"] ++ wsJx4a65c0)
def wsX6_rootsFor : List Cond := .code yX6_rootsFor cX6_rootsFor 2 (some .int) :: ([.fieldLink RX6 53 "BeetHouse$Plot" "stony" "Z"] ++ wsX60)
def wsX6_unitsFor : List Cond := .code yX6_unitsFor cX6_unitsFor 2 (some .int) :: ([.fieldLink RX6 53 "BeetHouse$Plot" "stony" "Z"] ++ wsX60)
def wsJx4a65c_fastRemove_b59b0 : List Cond := .code yJx4a65c_fastRemove_b59b0 cJx4a65c_fastRemove_b59b0 4 none :: ([.fieldLink RJx4a65c 63 "java/util/ArrayList" "modCount" "I", .sameField "java/util/ArrayList" "java/util/AbstractList" "modCount" "I", .fieldLink RJx4a65c 48 "java/util/ArrayList" "size" "I", .methodLink RJx4a65c 112 arraycopyName, .native arraycopyName, .static arraycopyName, .initialized "java/lang/System"] ++ wsJx4a65c0)
def wsJx4a65c_remove_915e3 : List Cond := .code yJx4a65c_remove_915e3 cJx4a65c_remove_915e3 4 (some (.object "java/lang/Object")) :: ([.fieldLink RJx4a65c 48 "java/util/ArrayList" "size" "I", .fieldLink RJx4a65c 9 "java/util/ArrayList" "elementData" "[Ljava/lang/Object;", .methodLink RJx4a65c 118 yJ15_checkIndex_7cf53, .static yJ15_checkIndex_7cf53, .initialized RJ15, .code yJ15_checkIndex_7cf53 cJ15_checkIndex_7cf53 2 (some .int), .methodLink RJ15 105 yJ3_checkIndex_8e157, .static yJ3_checkIndex_8e157, .initialized RJ3, .code yJ3_checkIndex_8e157 cJ3_checkIndex_8e157 3 (some .int), .methodLink RJx4a65c 144 yJx4a65c_fastRemove_b59b0, .instanceMethod yJx4a65c_fastRemove_b59b0, .selects RJx4a65c yJx4a65c_fastRemove_b59b0 yJx4a65c_fastRemove_b59b0, .initialized RJx4a65c, .code yJx4a65c_fastRemove_b59b0 cJx4a65c_fastRemove_b59b0 4 none, .fieldLink RJx4a65c 63 "java/util/ArrayList" "modCount" "I", .sameField "java/util/ArrayList" "java/util/AbstractList" "modCount" "I", .methodLink RJx4a65c 112 arraycopyName, .native arraycopyName, .static arraycopyName, .initialized "java/lang/System"] ++ wsJx4a65c0)
def wsX4_grind_r1 : List Cond := [Cond.fieldLink RX4 7 "BeetHouse$Mill" "rate" "I", Cond.classLink RX4 41 "BeetHouse$Load", Cond.methodLink RX4 56 Lib.Math.min.name, Cond.static Lib.Math.min.name, Cond.initialized "java/lang/Math", Cond.code Lib.Math.min.name Lib.Math.min.code 2 (some .int), Cond.fieldLink RX4 13 "BeetHouse$Mill" "eaten" "I", Cond.fieldLink RX4 16 "BeetHouse$Mill" "sugarWon" "I", Cond.fieldLink RX4 22 "BeetHouse$Mill" "lack" "I", Cond.fieldLink RX4 19 "BeetHouse$Mill" "stood" "I", Cond.methodLink RX4 31 yJx4a65c_isEmpty_aae02, Cond.instanceMethod yJx4a65c_isEmpty_aae02, Cond.selects RJx4a65c yJx4a65c_isEmpty_aae02 yJx4a65c_isEmpty_aae02, Cond.initialized RJx4a65c, Cond.code yJx4a65c_isEmpty_aae02 cJx4a65c_isEmpty_aae02 1 (some .boolean), Cond.fieldLink RJx4a65c 48 "java/util/ArrayList" "size" "I", Cond.methodLink RX4 37 yJx4a65c_get_915e3, Cond.instanceMethod yJx4a65c_get_915e3, Cond.selects RJx4a65c yJx4a65c_get_915e3 yJx4a65c_get_915e3, Cond.code yJx4a65c_get_915e3 cJx4a65c_get_915e3 2 (some (.object "java/lang/Object")), Cond.methodLink RJx4a65c 118 yJ15_checkIndex_7cf53, Cond.static yJ15_checkIndex_7cf53, Cond.initialized RJ15, Cond.code yJ15_checkIndex_7cf53 cJ15_checkIndex_7cf53 2 (some .int)]
def wsX4_grind_r2 : List Cond := [Cond.methodLink RJ15 105 yJ3_checkIndex_8e157, Cond.static yJ3_checkIndex_8e157, Cond.initialized RJ3, Cond.code yJ3_checkIndex_8e157 cJ3_checkIndex_8e157 3 (some .int), Cond.methodLink RJx4a65c 123 yJx4a65c_elementData_915e3, Cond.instanceMethod yJx4a65c_elementData_915e3, Cond.selects RJx4a65c yJx4a65c_elementData_915e3 yJx4a65c_elementData_915e3, Cond.code yJx4a65c_elementData_915e3 cJx4a65c_elementData_915e3 2 (some (.object "java/lang/Object")), Cond.fieldLink RJx4a65c 9 "java/util/ArrayList" "elementData" "[Ljava/lang/Object;", Cond.instanceMethod yX6_rootsFor, Cond.initialized RX6, Cond.selects RX6 yX6_rootsFor yX6_rootsFor, Cond.code yX6_rootsFor cX6_rootsFor 2 (some .int), Cond.fieldLink RX6 53 "BeetHouse$Plot" "stony" "Z", Cond.instanceMethod yX6_unitsFor, Cond.selects RX6 yX6_unitsFor yX6_unitsFor, Cond.code yX6_unitsFor cX6_unitsFor 2 (some .int), Cond.methodLink RX4 69 yJx4a65c_remove_915e3, Cond.instanceMethod yJx4a65c_remove_915e3, Cond.selects RJx4a65c yJx4a65c_remove_915e3 yJx4a65c_remove_915e3, Cond.code yJx4a65c_remove_915e3 cJx4a65c_remove_915e3 4 (some (.object "java/lang/Object")), Cond.methodLink RJx4a65c 144 yJx4a65c_fastRemove_b59b0, Cond.instanceMethod yJx4a65c_fastRemove_b59b0, Cond.selects RJx4a65c yJx4a65c_fastRemove_b59b0 yJx4a65c_fastRemove_b59b0]
def wsX4_grind_r3 : List Cond := [Cond.code yJx4a65c_fastRemove_b59b0 cJx4a65c_fastRemove_b59b0 4 none, Cond.fieldLink RJx4a65c 63 "java/util/ArrayList" "modCount" "I", Cond.sameField "java/util/ArrayList" "java/util/AbstractList" "modCount" "I", Cond.methodLink RJx4a65c 112 arraycopyName, Cond.native arraycopyName, Cond.static arraycopyName, Cond.initialized "java/lang/System"]
def wsX4_grind : List Cond := .code yX4_grind cX4_grind 6 none :: ((wsX4_grind_r1 ++ (wsX4_grind_r2 ++ wsX4_grind_r3)) ++ wsX40 ++ wsX80 ++ wsX20 ++ wsJx4a65c0 ++ wsX60)
def wsX5_init : List Cond := .code yX5_init cX5_init 1 none :: ([.methodLink RX5 3 objectInit, .instanceMethod objectInit, .code objectInit ⟨#[0xb1]⟩ 1 none, .arrayClass .int, .fieldLink RX5 9 "BeetHouse$Orders" "numbers" "[I", .classLink RX5 15 "[[I", .fieldLink RX5 17 "BeetHouse$Orders" "wasteByEnds" "[[I", .fieldLink RX5 20 "BeetHouse$Orders" "begins" "[I", .fieldLink RX5 23 "BeetHouse$Orders" "leastAfter" "[I", .fieldLink RX5 26 "BeetHouse$Orders" "chosenAfter" "[I", .fieldLink RX5 29 "BeetHouse$Orders" "size" "I", .fieldLink RX5 33 "BeetHouse$Orders" "now" "I"] ++ wsX50)
def wsX5_clear : List Cond := .code yX5_clear cX5_clear 2 none :: ([.fieldLink RX5 29 "BeetHouse$Orders" "size" "I", .fieldLink RX5 33 "BeetHouse$Orders" "now" "I", .fieldLink RX5 20 "BeetHouse$Orders" "begins" "[I"] ++ wsX50)
def wsX7_numberOf : List Cond := .code yX7_numberOf cX7_numberOf 3 (some .int) :: ([.fieldLink RX7 9 "BeetHouse$Weather" "warmths" "[I", .fieldLink RX7 15 "BeetHouse$Weather" "numbers" "[I"] ++ wsX70)
def wsX6_wasteOf : List Cond := .code yX6_wasteOf cX6_wasteOf 4 (some .int) :: ([.fieldLink RX6 22 "BeetHouse$Plot" "frozen" "Z", .fieldLink RX6 25 "BeetHouse$Plot" "thawedSince" "I", .methodLink RX6 56 Lib.Math.min.name, .static Lib.Math.min.name, .initialized "java/lang/Math", .code Lib.Math.min.name Lib.Math.min.code 2 (some .int), .fieldLink RX6 18 "BeetHouse$Plot" "covered" "Z", .constantLong RX6 62 (1000)] ++ wsX60)
def wsX5_foresee : List Cond := .code yX5_foresee cX5_foresee 7 none :: ([.fieldLink RX5 33 "BeetHouse$Orders" "now" "I", .instanceMethod yX7_numberOf, .initialized RX7, .selects RX7 yX7_numberOf yX7_numberOf, .code yX7_numberOf cX7_numberOf 3 (some .int), .fieldLink RX7 9 "BeetHouse$Weather" "warmths" "[I", .fieldLink RX7 15 "BeetHouse$Weather" "numbers" "[I", .instanceMethod yX6_wasteOf, .initialized RX6, .selects RX6 yX6_wasteOf yX6_wasteOf, .code yX6_wasteOf cX6_wasteOf 4 (some .int), .fieldLink RX6 22 "BeetHouse$Plot" "frozen" "Z", .fieldLink RX6 25 "BeetHouse$Plot" "thawedSince" "I", .methodLink RX6 56 Lib.Math.min.name, .static Lib.Math.min.name, .initialized "java/lang/Math", .code Lib.Math.min.name Lib.Math.min.code 2 (some .int), .fieldLink RX6 18 "BeetHouse$Plot" "covered" "Z", .constantLong RX6 62 (1000)] ++ wsX50 ++ wsX60 ++ wsX70)
def wsX5_add_r1 : List Cond := [Cond.fieldLink RX5 29 "BeetHouse$Orders" "size" "I", Cond.fieldLink RX5 9 "BeetHouse$Orders" "numbers" "[I", Cond.fieldLink RX5 17 "BeetHouse$Orders" "wasteByEnds" "[[I", Cond.fieldLink RX5 20 "BeetHouse$Orders" "begins" "[I", Cond.methodLink RX5 41 yX5_foresee, Cond.instanceMethod yX5_foresee, Cond.selects RX5 yX5_foresee yX5_foresee, Cond.initialized RX5, Cond.code yX5_foresee cX5_foresee 7 none, Cond.fieldLink RX5 33 "BeetHouse$Orders" "now" "I", Cond.instanceMethod yX7_numberOf, Cond.initialized RX7, Cond.selects RX7 yX7_numberOf yX7_numberOf, Cond.code yX7_numberOf cX7_numberOf 3 (some .int), Cond.fieldLink RX7 9 "BeetHouse$Weather" "warmths" "[I", Cond.fieldLink RX7 15 "BeetHouse$Weather" "numbers" "[I", Cond.instanceMethod yX6_wasteOf, Cond.initialized RX6, Cond.selects RX6 yX6_wasteOf yX6_wasteOf, Cond.code yX6_wasteOf cX6_wasteOf 4 (some .int), Cond.fieldLink RX6 22 "BeetHouse$Plot" "frozen" "Z", Cond.fieldLink RX6 25 "BeetHouse$Plot" "thawedSince" "I", Cond.methodLink RX6 56 Lib.Math.min.name, Cond.static Lib.Math.min.name]
def wsX5_add_r2 : List Cond := [Cond.initialized "java/lang/Math", Cond.code Lib.Math.min.name Lib.Math.min.code 2 (some .int), Cond.fieldLink RX6 18 "BeetHouse$Plot" "covered" "Z", Cond.constantLong RX6 62 (1000), Cond.instanceMethod yX6_unitsFor, Cond.selects RX6 yX6_unitsFor yX6_unitsFor, Cond.code yX6_unitsFor cX6_unitsFor 2 (some .int), Cond.fieldLink RX6 53 "BeetHouse$Plot" "stony" "Z"]
def wsX5_add : List Cond := .code yX5_add cX5_add 7 (some .boolean) :: ((wsX5_add_r1 ++ wsX5_add_r2) ++ wsX50 ++ wsX60 ++ wsX70)
def wsX5_choose : List Cond := .code yX5_choose cX5_choose 8 none :: ([.fieldLink RX5 20 "BeetHouse$Orders" "begins" "[I", .methodLink RX5 68 Lib.Math.min.name, .static Lib.Math.min.name, .initialized "java/lang/Math", .code Lib.Math.min.name Lib.Math.min.code 2 (some .int), .fieldLink RX5 33 "BeetHouse$Orders" "now" "I", .constant RX5 75 (2147483647), .fieldLink RX5 29 "BeetHouse$Orders" "size" "I", .fieldLink RX5 17 "BeetHouse$Orders" "wasteByEnds" "[[I", .fieldLink RX5 23 "BeetHouse$Orders" "leastAfter" "[I", .fieldLink RX5 26 "BeetHouse$Orders" "chosenAfter" "[I"] ++ wsX50)
def wsX5_search : List Cond := .code yX5_search cX5_search 3 none :: ([.fieldLink RX5 29 "BeetHouse$Orders" "size" "I", .fieldLink RX5 23 "BeetHouse$Orders" "leastAfter" "[I", .methodLink RX5 64 yX5_choose, .instanceMethod yX5_choose, .selects RX5 yX5_choose yX5_choose, .initialized RX5, .code yX5_choose cX5_choose 8 none, .fieldLink RX5 20 "BeetHouse$Orders" "begins" "[I", .methodLink RX5 68 Lib.Math.min.name, .static Lib.Math.min.name, .initialized "java/lang/Math", .code Lib.Math.min.name Lib.Math.min.code 2 (some .int), .fieldLink RX5 33 "BeetHouse$Orders" "now" "I", .constant RX5 75 (2147483647), .fieldLink RX5 17 "BeetHouse$Orders" "wasteByEnds" "[[I", .fieldLink RX5 26 "BeetHouse$Orders" "chosenAfter" "[I"] ++ wsX50)
def wsX5_leastWaste : List Cond := .code yX5_leastWaste cX5_leastWaste 1 (some .int) :: ([.fieldLink RX5 23 "BeetHouse$Orders" "leastAfter" "[I"] ++ wsX50)
def wsX5_plotAtPlace : List Cond := .code yX5_plotAtPlace cX5_plotAtPlace 4 (some .int) :: ([.fieldLink RX5 29 "BeetHouse$Orders" "size" "I", .fieldLink RX5 26 "BeetHouse$Orders" "chosenAfter" "[I", .fieldLink RX5 9 "BeetHouse$Orders" "numbers" "[I"] ++ wsX50)
def wsX6_init : List Cond := .code yX6_init cX6_init 7 none :: ([.methodLink RX6 3 objectInit, .instanceMethod objectInit, .code objectInit ⟨#[0xb1]⟩ 1 none, .fieldLink RX6 9 "BeetHouse$Plot" "roots" "I", .fieldLink RX6 15 "BeetHouse$Plot" "sugar" "I", .fieldLink RX6 18 "BeetHouse$Plot" "covered" "Z", .fieldLink RX6 22 "BeetHouse$Plot" "frozen" "Z", .fieldLink RX6 25 "BeetHouse$Plot" "thawedSince" "I", .fieldLink RX6 28 "BeetHouse$Plot" "wasted" "I", .fieldLink RX6 31 "BeetHouse$Plot" "spoiled" "I", .fieldLink RX6 34 "BeetHouse$Plot" "came" "I", .fieldLink RX6 37 "BeetHouse$Plot" "number" "I", .fieldLink RX6 40 "BeetHouse$Plot" "farmer" "LBeetHouse$Farmer;", .fieldLink RX6 44 "BeetHouse$Plot" "ground" "I", .fieldLink RX6 47 "BeetHouse$Plot" "sweet" "I", .fieldLink RX6 50 "BeetHouse$Plot" "way" "I", .fieldLink RX6 53 "BeetHouse$Plot" "stony" "Z"] ++ wsX60)
def wsX6_lift : List Cond := .code yX6_lift cX6_lift 3 none :: ([.fieldLink RX6 44 "BeetHouse$Plot" "ground" "I", .methodLink RX6 56 Lib.Math.min.name, .static Lib.Math.min.name, .initialized "java/lang/Math", .code Lib.Math.min.name Lib.Math.min.code 2 (some .int), .fieldLink RX6 9 "BeetHouse$Plot" "roots" "I", .fieldLink RX6 15 "BeetHouse$Plot" "sugar" "I", .fieldLink RX6 47 "BeetHouse$Plot" "sweet" "I"] ++ wsX60)
def wsX6_freeze : List Cond := .code yX6_freeze cX6_freeze 1 (some .boolean) :: ([.fieldLink RX6 9 "BeetHouse$Plot" "roots" "I", .fieldLink RX6 18 "BeetHouse$Plot" "covered" "Z", .fieldLink RX6 22 "BeetHouse$Plot" "frozen" "Z", .fieldLink RX6 25 "BeetHouse$Plot" "thawedSince" "I"] ++ wsX60)
def wsX6_thaw : List Cond := .code yX6_thaw cX6_thaw 3 (some .boolean) :: ([.fieldLink RX6 22 "BeetHouse$Plot" "frozen" "Z", .fieldLink RX6 9 "BeetHouse$Plot" "roots" "I", .fieldLink RX6 25 "BeetHouse$Plot" "thawedSince" "I"] ++ wsX60)
def wsX6_waste : List Cond := .code yX6_waste cX6_waste 3 none :: ([.fieldLink RX6 15 "BeetHouse$Plot" "sugar" "I", .fieldLink RX6 28 "BeetHouse$Plot" "wasted" "I", .methodLink RX6 64 yX6_wasteOf, .instanceMethod yX6_wasteOf, .selects RX6 yX6_wasteOf yX6_wasteOf, .initialized RX6, .code yX6_wasteOf cX6_wasteOf 4 (some .int), .fieldLink RX6 22 "BeetHouse$Plot" "frozen" "Z", .fieldLink RX6 25 "BeetHouse$Plot" "thawedSince" "I", .methodLink RX6 56 Lib.Math.min.name, .static Lib.Math.min.name, .initialized "java/lang/Math", .code Lib.Math.min.name Lib.Math.min.code 2 (some .int), .fieldLink RX6 18 "BeetHouse$Plot" "covered" "Z", .constantLong RX6 62 (1000)] ++ wsX60)
def wsX6_spoil : List Cond := .code yX6_spoil cX6_spoil 2 none :: ([.fieldLink RX6 25 "BeetHouse$Plot" "thawedSince" "I", .fieldLink RX6 31 "BeetHouse$Plot" "spoiled" "I", .fieldLink RX6 9 "BeetHouse$Plot" "roots" "I", .fieldLink RX6 15 "BeetHouse$Plot" "sugar" "I", .fieldLink RX6 18 "BeetHouse$Plot" "covered" "Z", .methodLink RX6 67 yX6_lose, .instanceMethod yX6_lose, .selects RX6 yX6_lose yX6_lose, .initialized RX6, .code yX6_lose cX6_lose 3 none] ++ wsX60)
def wsX7_init : List Cond := .code yX7_init cX7_init 2 none :: ([.methodLink RX7 3 objectInit, .instanceMethod objectInit, .code objectInit ⟨#[0xb1]⟩ 1 none, .arrayClass .int, .fieldLink RX7 9 "BeetHouse$Weather" "warmths" "[I", .fieldLink RX7 15 "BeetHouse$Weather" "numbers" "[I"] ++ wsX70)
def wsJxa1e45_init_da8c8 : List Cond := .code yJxa1e45_init_da8c8 cJxa1e45_init_da8c8 1 none :: ([.methodLink RJxa1e45 1 objectInit, .instanceMethod objectInit, .code objectInit ⟨#[0xb1]⟩ 1 none])
def wsJxc12de_init_da8c8 : List Cond := .code yJxc12de_init_da8c8 cJxc12de_init_da8c8 1 none :: ([.fieldLink RJxc12de 7 "java/util/AbstractList" "modCount" "I", .methodLink RJxc12de 1 yJxa1e45_init_da8c8, .instanceMethod yJxa1e45_init_da8c8, .initialized RJxa1e45, .code yJxa1e45_init_da8c8 cJxa1e45_init_da8c8 1 none, .methodLink RJxa1e45 1 objectInit, .instanceMethod objectInit, .code objectInit ⟨#[0xb1]⟩ 1 none] ++ wsJx4a65c0)
def wsJx4a65c_init_da8c8 : List Cond := .code yJx4a65c_init_da8c8 cJx4a65c_init_da8c8 1 none :: ([.fieldLink RJx4a65c 39 "java/util/ArrayList" "DEFAULTCAPACITY_EMPTY_ELEMENTDATA" "[Ljava/lang/Object;", .fieldLink RJx4a65c 9 "java/util/ArrayList" "elementData" "[Ljava/lang/Object;", .methodLink RJx4a65c 1 yJxc12de_init_da8c8, .instanceMethod yJxc12de_init_da8c8, .initialized RJxc12de, .code yJxc12de_init_da8c8 cJxc12de_init_da8c8 1 none, .fieldLink RJxc12de 7 "java/util/AbstractList" "modCount" "I", .methodLink RJxc12de 1 yJxa1e45_init_da8c8, .instanceMethod yJxa1e45_init_da8c8, .initialized RJxa1e45, .code yJxa1e45_init_da8c8 cJxa1e45_init_da8c8 1 none, .methodLink RJxa1e45 1 objectInit, .instanceMethod objectInit, .code objectInit ⟨#[0xb1]⟩ 1 none] ++ wsJx4a65c0)
def wsX8_init_r1 : List Cond := [Cond.methodLink RX8 1 objectInit, Cond.instanceMethod objectInit, Cond.code objectInit ⟨#[0xb1]⟩ 1 none, Cond.classLink RX8 7 RJx4a65c, Cond.instantiable RJx4a65c 3, Cond.initialized RJx4a65c, Cond.fieldLink RX8 10 "BeetHouse$Yard" "loads" "Ljava/util/ArrayList;", Cond.fieldLink RX8 16 "BeetHouse$Yard" "room" "I", Cond.fieldLink RX8 20 "BeetHouse$Yard" "roots" "I", Cond.fieldLink RX8 23 "BeetHouse$Yard" "came" "I", Cond.methodLink RX8 9 yJx4a65c_init_da8c8, Cond.instanceMethod yJx4a65c_init_da8c8, Cond.code yJx4a65c_init_da8c8 cJx4a65c_init_da8c8 1 none, Cond.fieldLink RJx4a65c 39 "java/util/ArrayList" "DEFAULTCAPACITY_EMPTY_ELEMENTDATA" "[Ljava/lang/Object;", Cond.fieldLink RJx4a65c 9 "java/util/ArrayList" "elementData" "[Ljava/lang/Object;", Cond.methodLink RJx4a65c 1 yJxc12de_init_da8c8, Cond.instanceMethod yJxc12de_init_da8c8, Cond.initialized RJxc12de, Cond.code yJxc12de_init_da8c8 cJxc12de_init_da8c8 1 none, Cond.fieldLink RJxc12de 7 "java/util/AbstractList" "modCount" "I", Cond.methodLink RJxc12de 1 yJxa1e45_init_da8c8, Cond.instanceMethod yJxa1e45_init_da8c8, Cond.initialized RJxa1e45, Cond.code yJxa1e45_init_da8c8 cJxa1e45_init_da8c8 1 none]
def wsX8_init_r2 : List Cond := [Cond.methodLink RJxa1e45 1 objectInit]
def wsX8_init : List Cond := .code yX8_init cX8_init 1 none :: ((wsX8_init_r1 ++ wsX8_init_r2) ++ wsJx4a65c0 ++ wsX80)
def wsX8_hasRoomFor : List Cond := .code yX8_hasRoomFor cX8_hasRoomFor 2 (some .boolean) :: ([.fieldLink RX8 20 "BeetHouse$Yard" "roots" "I", .fieldLink RX8 16 "BeetHouse$Yard" "room" "I"] ++ wsX80)
def wsJ8_hugeLength_7cf53 : List Cond := .code yJ8_hugeLength_7cf53 cJ8_hugeLength_7cf53 3 (some .int) :: ([.constant RJ8 200 (2147483639)])
def wsJ8_newLength_cabcc : List Cond := .code yJ8_newLength_cabcc cJ8_newLength_cabcc 4 (some .int) :: ([.methodLink RJ8 194 Lib.Math.max.name, .static Lib.Math.max.name, .initialized "java/lang/Math", .code Lib.Math.max.name Lib.Math.max.code 2 (some .int), .constant RJ8 200 (2147483639), .methodLink RJ8 201 yJ8_hugeLength_7cf53, .static yJ8_hugeLength_7cf53, .initialized RJ8, .code yJ8_hugeLength_7cf53 cJ8_hugeLength_7cf53 3 (some .int)])
def wsJ7_copyOf_6403c : List Cond := .code yJ7_copyOf_6403c cJ7_copyOf_6403c 4 (some (.array (.object "java/lang/Object"))) :: ([.classLink RJ7 110 "[Ljava/lang/Object;", .classLink RJ7 2 "java/lang/Object", .methodLink RJ7 304 Lib.Math.min.name, .static Lib.Math.min.name, .initialized "java/lang/Math", .code Lib.Math.min.name Lib.Math.min.code 2 (some .int), .methodLink RJ7 150 arraycopyName, .native arraycopyName, .static arraycopyName, .initialized "java/lang/System"])
def wsJ7_copyOf_1904c : List Cond := .code yJ7_copyOf_1904c cJ7_copyOf_1904c 2 (some (.array (.object "java/lang/Object"))) :: ([.methodLink RJ7 86 ⟨"java/lang/Object", "getClass", "()Ljava/lang/Class;"⟩, .selects "[Ljava/lang/Object;" ⟨"java/lang/Object", "getClass", "()Ljava/lang/Class;"⟩ ⟨"java/lang/Object", "getClass", "()Ljava/lang/Class;"⟩, .instanceMethod ⟨"java/lang/Object", "getClass", "()Ljava/lang/Class;"⟩, .native ⟨"java/lang/Object", "getClass", "()Ljava/lang/Class;"⟩, .methodLink RJ7 300 yJ7_copyOf_6403c, .static yJ7_copyOf_6403c, .initialized RJ7, .code yJ7_copyOf_6403c cJ7_copyOf_6403c 4 (some (.array (.object "java/lang/Object"))), .classLink RJ7 110 "[Ljava/lang/Object;", .classLink RJ7 2 "java/lang/Object", .methodLink RJ7 304 Lib.Math.min.name, .static Lib.Math.min.name, .initialized "java/lang/Math", .code Lib.Math.min.name Lib.Math.min.code 2 (some .int), .methodLink RJ7 150 arraycopyName, .native arraycopyName, .static arraycopyName, .initialized "java/lang/System"])
def wsJx4a65c_grow_92f84_r1 : List Cond := [Cond.fieldLink RJx4a65c 9 "java/util/ArrayList" "elementData" "[Ljava/lang/Object;", Cond.fieldLink RJx4a65c 39 "java/util/ArrayList" "DEFAULTCAPACITY_EMPTY_ELEMENTDATA" "[Ljava/lang/Object;", Cond.methodLink RJx4a65c 79 Lib.Math.max.name, Cond.static Lib.Math.max.name, Cond.initialized "java/lang/Math", Cond.code Lib.Math.max.name Lib.Math.max.code 2 (some .int), Cond.classLink RJx4a65c 7 "java/lang/Object", Cond.methodLink RJx4a65c 73 yJ8_newLength_cabcc, Cond.static yJ8_newLength_cabcc, Cond.initialized RJ8, Cond.code yJ8_newLength_cabcc cJ8_newLength_cabcc 4 (some .int), Cond.methodLink RJ8 194 Lib.Math.max.name, Cond.constant RJ8 200 (2147483639), Cond.methodLink RJ8 201 yJ8_hugeLength_7cf53, Cond.static yJ8_hugeLength_7cf53, Cond.code yJ8_hugeLength_7cf53 cJ8_hugeLength_7cf53 3 (some .int), Cond.methodLink RJx4a65c 66 yJ7_copyOf_1904c, Cond.static yJ7_copyOf_1904c, Cond.initialized RJ7, Cond.code yJ7_copyOf_1904c cJ7_copyOf_1904c 2 (some (.array (.object "java/lang/Object"))), Cond.methodLink RJ7 86 ⟨"java/lang/Object", "getClass", "()Ljava/lang/Class;"⟩, Cond.selects "[Ljava/lang/Object;" ⟨"java/lang/Object", "getClass", "()Ljava/lang/Class;"⟩ ⟨"java/lang/Object", "getClass", "()Ljava/lang/Class;"⟩, Cond.instanceMethod ⟨"java/lang/Object", "getClass", "()Ljava/lang/Class;"⟩, Cond.native ⟨"java/lang/Object", "getClass", "()Ljava/lang/Class;"⟩]
def wsJx4a65c_grow_92f84_r2 : List Cond := [Cond.methodLink RJ7 300 yJ7_copyOf_6403c, Cond.static yJ7_copyOf_6403c, Cond.code yJ7_copyOf_6403c cJ7_copyOf_6403c 4 (some (.array (.object "java/lang/Object"))), Cond.classLink RJ7 110 "[Ljava/lang/Object;", Cond.classLink RJ7 2 "java/lang/Object", Cond.methodLink RJ7 304 Lib.Math.min.name, Cond.static Lib.Math.min.name, Cond.code Lib.Math.min.name Lib.Math.min.code 2 (some .int), Cond.methodLink RJ7 150 arraycopyName, Cond.native arraycopyName, Cond.static arraycopyName, Cond.initialized "java/lang/System"]
def wsJx4a65c_grow_92f84 : List Cond := .code yJx4a65c_grow_92f84 cJx4a65c_grow_92f84 4 (some (.array (.object "java/lang/Object"))) :: ((wsJx4a65c_grow_92f84_r1 ++ wsJx4a65c_grow_92f84_r2) ++ wsJx4a65c0)
def wsJx4a65c_grow_d5877_r1 : List Cond := [Cond.fieldLink RJx4a65c 48 "java/util/ArrayList" "size" "I", Cond.methodLink RJx4a65c 69 yJx4a65c_grow_92f84, Cond.instanceMethod yJx4a65c_grow_92f84, Cond.selects RJx4a65c yJx4a65c_grow_92f84 yJx4a65c_grow_92f84, Cond.initialized RJx4a65c, Cond.code yJx4a65c_grow_92f84 cJx4a65c_grow_92f84 4 (some (.array (.object "java/lang/Object"))), Cond.fieldLink RJx4a65c 9 "java/util/ArrayList" "elementData" "[Ljava/lang/Object;", Cond.fieldLink RJx4a65c 39 "java/util/ArrayList" "DEFAULTCAPACITY_EMPTY_ELEMENTDATA" "[Ljava/lang/Object;", Cond.methodLink RJx4a65c 79 Lib.Math.max.name, Cond.static Lib.Math.max.name, Cond.initialized "java/lang/Math", Cond.code Lib.Math.max.name Lib.Math.max.code 2 (some .int), Cond.classLink RJx4a65c 7 "java/lang/Object", Cond.methodLink RJx4a65c 73 yJ8_newLength_cabcc, Cond.static yJ8_newLength_cabcc, Cond.initialized RJ8, Cond.code yJ8_newLength_cabcc cJ8_newLength_cabcc 4 (some .int), Cond.methodLink RJ8 194 Lib.Math.max.name, Cond.constant RJ8 200 (2147483639), Cond.methodLink RJ8 201 yJ8_hugeLength_7cf53, Cond.static yJ8_hugeLength_7cf53, Cond.code yJ8_hugeLength_7cf53 cJ8_hugeLength_7cf53 3 (some .int), Cond.methodLink RJx4a65c 66 yJ7_copyOf_1904c, Cond.static yJ7_copyOf_1904c]
def wsJx4a65c_grow_d5877_r2 : List Cond := [Cond.initialized RJ7, Cond.code yJ7_copyOf_1904c cJ7_copyOf_1904c 2 (some (.array (.object "java/lang/Object"))), Cond.methodLink RJ7 86 ⟨"java/lang/Object", "getClass", "()Ljava/lang/Class;"⟩, Cond.selects "[Ljava/lang/Object;" ⟨"java/lang/Object", "getClass", "()Ljava/lang/Class;"⟩ ⟨"java/lang/Object", "getClass", "()Ljava/lang/Class;"⟩, Cond.instanceMethod ⟨"java/lang/Object", "getClass", "()Ljava/lang/Class;"⟩, Cond.native ⟨"java/lang/Object", "getClass", "()Ljava/lang/Class;"⟩, Cond.methodLink RJ7 300 yJ7_copyOf_6403c, Cond.static yJ7_copyOf_6403c, Cond.code yJ7_copyOf_6403c cJ7_copyOf_6403c 4 (some (.array (.object "java/lang/Object"))), Cond.classLink RJ7 110 "[Ljava/lang/Object;", Cond.classLink RJ7 2 "java/lang/Object", Cond.methodLink RJ7 304 Lib.Math.min.name, Cond.static Lib.Math.min.name, Cond.code Lib.Math.min.name Lib.Math.min.code 2 (some .int), Cond.methodLink RJ7 150 arraycopyName, Cond.native arraycopyName, Cond.static arraycopyName, Cond.initialized "java/lang/System"]
def wsJx4a65c_grow_d5877 : List Cond := .code yJx4a65c_grow_d5877 cJx4a65c_grow_d5877 1 (some (.array (.object "java/lang/Object"))) :: ((wsJx4a65c_grow_d5877_r1 ++ wsJx4a65c_grow_d5877_r2) ++ wsJx4a65c0)
def wsJx4a65c_add_72be8_r1 : List Cond := [Cond.fieldLink RJx4a65c 48 "java/util/ArrayList" "size" "I", Cond.methodLink RJx4a65c 129 yJx4a65c_grow_d5877, Cond.instanceMethod yJx4a65c_grow_d5877, Cond.selects RJx4a65c yJx4a65c_grow_d5877 yJx4a65c_grow_d5877, Cond.initialized RJx4a65c, Cond.code yJx4a65c_grow_d5877 cJx4a65c_grow_d5877 1 (some (.array (.object "java/lang/Object"))), Cond.methodLink RJx4a65c 69 yJx4a65c_grow_92f84, Cond.instanceMethod yJx4a65c_grow_92f84, Cond.selects RJx4a65c yJx4a65c_grow_92f84 yJx4a65c_grow_92f84, Cond.code yJx4a65c_grow_92f84 cJx4a65c_grow_92f84 4 (some (.array (.object "java/lang/Object"))), Cond.fieldLink RJx4a65c 9 "java/util/ArrayList" "elementData" "[Ljava/lang/Object;", Cond.fieldLink RJx4a65c 39 "java/util/ArrayList" "DEFAULTCAPACITY_EMPTY_ELEMENTDATA" "[Ljava/lang/Object;", Cond.methodLink RJx4a65c 79 Lib.Math.max.name, Cond.static Lib.Math.max.name, Cond.initialized "java/lang/Math", Cond.code Lib.Math.max.name Lib.Math.max.code 2 (some .int), Cond.classLink RJx4a65c 7 "java/lang/Object", Cond.methodLink RJx4a65c 73 yJ8_newLength_cabcc, Cond.static yJ8_newLength_cabcc, Cond.initialized RJ8, Cond.code yJ8_newLength_cabcc cJ8_newLength_cabcc 4 (some .int), Cond.methodLink RJ8 194 Lib.Math.max.name, Cond.constant RJ8 200 (2147483639), Cond.methodLink RJ8 201 yJ8_hugeLength_7cf53]
def wsJx4a65c_add_72be8_r2 : List Cond := [Cond.static yJ8_hugeLength_7cf53, Cond.code yJ8_hugeLength_7cf53 cJ8_hugeLength_7cf53 3 (some .int), Cond.methodLink RJx4a65c 66 yJ7_copyOf_1904c, Cond.static yJ7_copyOf_1904c, Cond.initialized RJ7, Cond.code yJ7_copyOf_1904c cJ7_copyOf_1904c 2 (some (.array (.object "java/lang/Object"))), Cond.methodLink RJ7 86 ⟨"java/lang/Object", "getClass", "()Ljava/lang/Class;"⟩, Cond.selects "[Ljava/lang/Object;" ⟨"java/lang/Object", "getClass", "()Ljava/lang/Class;"⟩ ⟨"java/lang/Object", "getClass", "()Ljava/lang/Class;"⟩, Cond.instanceMethod ⟨"java/lang/Object", "getClass", "()Ljava/lang/Class;"⟩, Cond.native ⟨"java/lang/Object", "getClass", "()Ljava/lang/Class;"⟩, Cond.methodLink RJ7 300 yJ7_copyOf_6403c, Cond.static yJ7_copyOf_6403c, Cond.code yJ7_copyOf_6403c cJ7_copyOf_6403c 4 (some (.array (.object "java/lang/Object"))), Cond.classLink RJ7 110 "[Ljava/lang/Object;", Cond.classLink RJ7 2 "java/lang/Object", Cond.methodLink RJ7 304 Lib.Math.min.name, Cond.static Lib.Math.min.name, Cond.code Lib.Math.min.name Lib.Math.min.code 2 (some .int), Cond.methodLink RJ7 150 arraycopyName, Cond.native arraycopyName, Cond.static arraycopyName, Cond.initialized "java/lang/System"]
def wsJx4a65c_add_72be8 : List Cond := .code yJx4a65c_add_72be8 cJx4a65c_add_72be8 4 none :: ((wsJx4a65c_add_72be8_r1 ++ wsJx4a65c_add_72be8_r2) ++ wsJx4a65c0)
def wsJx4a65c_add_9ea2d_r1 : List Cond := [Cond.fieldLink RJx4a65c 63 "java/util/ArrayList" "modCount" "I", Cond.sameField "java/util/ArrayList" "java/util/AbstractList" "modCount" "I", Cond.fieldLink RJx4a65c 9 "java/util/ArrayList" "elementData" "[Ljava/lang/Object;", Cond.fieldLink RJx4a65c 48 "java/util/ArrayList" "size" "I", Cond.methodLink RJx4a65c 131 yJx4a65c_add_72be8, Cond.instanceMethod yJx4a65c_add_72be8, Cond.selects RJx4a65c yJx4a65c_add_72be8 yJx4a65c_add_72be8, Cond.initialized RJx4a65c, Cond.code yJx4a65c_add_72be8 cJx4a65c_add_72be8 4 none, Cond.methodLink RJx4a65c 129 yJx4a65c_grow_d5877, Cond.instanceMethod yJx4a65c_grow_d5877, Cond.selects RJx4a65c yJx4a65c_grow_d5877 yJx4a65c_grow_d5877, Cond.code yJx4a65c_grow_d5877 cJx4a65c_grow_d5877 1 (some (.array (.object "java/lang/Object"))), Cond.methodLink RJx4a65c 69 yJx4a65c_grow_92f84, Cond.instanceMethod yJx4a65c_grow_92f84, Cond.selects RJx4a65c yJx4a65c_grow_92f84 yJx4a65c_grow_92f84, Cond.code yJx4a65c_grow_92f84 cJx4a65c_grow_92f84 4 (some (.array (.object "java/lang/Object"))), Cond.fieldLink RJx4a65c 39 "java/util/ArrayList" "DEFAULTCAPACITY_EMPTY_ELEMENTDATA" "[Ljava/lang/Object;", Cond.methodLink RJx4a65c 79 Lib.Math.max.name, Cond.static Lib.Math.max.name, Cond.initialized "java/lang/Math", Cond.code Lib.Math.max.name Lib.Math.max.code 2 (some .int), Cond.classLink RJx4a65c 7 "java/lang/Object", Cond.methodLink RJx4a65c 73 yJ8_newLength_cabcc]
def wsJx4a65c_add_9ea2d_r2 : List Cond := [Cond.static yJ8_newLength_cabcc, Cond.initialized RJ8, Cond.code yJ8_newLength_cabcc cJ8_newLength_cabcc 4 (some .int), Cond.methodLink RJ8 194 Lib.Math.max.name, Cond.constant RJ8 200 (2147483639), Cond.methodLink RJ8 201 yJ8_hugeLength_7cf53, Cond.static yJ8_hugeLength_7cf53, Cond.code yJ8_hugeLength_7cf53 cJ8_hugeLength_7cf53 3 (some .int), Cond.methodLink RJx4a65c 66 yJ7_copyOf_1904c, Cond.static yJ7_copyOf_1904c, Cond.initialized RJ7, Cond.code yJ7_copyOf_1904c cJ7_copyOf_1904c 2 (some (.array (.object "java/lang/Object"))), Cond.methodLink RJ7 86 ⟨"java/lang/Object", "getClass", "()Ljava/lang/Class;"⟩, Cond.selects "[Ljava/lang/Object;" ⟨"java/lang/Object", "getClass", "()Ljava/lang/Class;"⟩ ⟨"java/lang/Object", "getClass", "()Ljava/lang/Class;"⟩, Cond.instanceMethod ⟨"java/lang/Object", "getClass", "()Ljava/lang/Class;"⟩, Cond.native ⟨"java/lang/Object", "getClass", "()Ljava/lang/Class;"⟩, Cond.methodLink RJ7 300 yJ7_copyOf_6403c, Cond.static yJ7_copyOf_6403c, Cond.code yJ7_copyOf_6403c cJ7_copyOf_6403c 4 (some (.array (.object "java/lang/Object"))), Cond.classLink RJ7 110 "[Ljava/lang/Object;", Cond.classLink RJ7 2 "java/lang/Object", Cond.methodLink RJ7 304 Lib.Math.min.name, Cond.static Lib.Math.min.name, Cond.code Lib.Math.min.name Lib.Math.min.code 2 (some .int)]
def wsJx4a65c_add_9ea2d_r3 : List Cond := [Cond.methodLink RJ7 150 arraycopyName, Cond.native arraycopyName, Cond.static arraycopyName, Cond.initialized "java/lang/System"]
def wsJx4a65c_add_9ea2d : List Cond := .code yJx4a65c_add_9ea2d cJx4a65c_add_9ea2d 2 (some .boolean) :: ((wsJx4a65c_add_9ea2d_r1 ++ (wsJx4a65c_add_9ea2d_r2 ++ wsJx4a65c_add_9ea2d_r3)) ++ wsJx4a65c0)
def wsX8_take_r1 : List Cond := [Cond.fieldLink RX8 10 "BeetHouse$Yard" "loads" "Ljava/util/ArrayList;", Cond.fieldLink RX8 20 "BeetHouse$Yard" "roots" "I", Cond.fieldLink RX8 23 "BeetHouse$Yard" "came" "I", Cond.methodLink RX8 26 yJx4a65c_add_9ea2d, Cond.instanceMethod yJx4a65c_add_9ea2d, Cond.selects RJx4a65c yJx4a65c_add_9ea2d yJx4a65c_add_9ea2d, Cond.initialized RJx4a65c, Cond.code yJx4a65c_add_9ea2d cJx4a65c_add_9ea2d 2 (some .boolean), Cond.fieldLink RJx4a65c 63 "java/util/ArrayList" "modCount" "I", Cond.sameField "java/util/ArrayList" "java/util/AbstractList" "modCount" "I", Cond.fieldLink RJx4a65c 9 "java/util/ArrayList" "elementData" "[Ljava/lang/Object;", Cond.fieldLink RJx4a65c 48 "java/util/ArrayList" "size" "I", Cond.methodLink RJx4a65c 131 yJx4a65c_add_72be8, Cond.instanceMethod yJx4a65c_add_72be8, Cond.selects RJx4a65c yJx4a65c_add_72be8 yJx4a65c_add_72be8, Cond.code yJx4a65c_add_72be8 cJx4a65c_add_72be8 4 none, Cond.methodLink RJx4a65c 129 yJx4a65c_grow_d5877, Cond.instanceMethod yJx4a65c_grow_d5877, Cond.selects RJx4a65c yJx4a65c_grow_d5877 yJx4a65c_grow_d5877, Cond.code yJx4a65c_grow_d5877 cJx4a65c_grow_d5877 1 (some (.array (.object "java/lang/Object"))), Cond.methodLink RJx4a65c 69 yJx4a65c_grow_92f84, Cond.instanceMethod yJx4a65c_grow_92f84, Cond.selects RJx4a65c yJx4a65c_grow_92f84 yJx4a65c_grow_92f84, Cond.code yJx4a65c_grow_92f84 cJx4a65c_grow_92f84 4 (some (.array (.object "java/lang/Object")))]
def wsX8_take_r2 : List Cond := [Cond.fieldLink RJx4a65c 39 "java/util/ArrayList" "DEFAULTCAPACITY_EMPTY_ELEMENTDATA" "[Ljava/lang/Object;", Cond.methodLink RJx4a65c 79 Lib.Math.max.name, Cond.static Lib.Math.max.name, Cond.initialized "java/lang/Math", Cond.code Lib.Math.max.name Lib.Math.max.code 2 (some .int), Cond.classLink RJx4a65c 7 "java/lang/Object", Cond.methodLink RJx4a65c 73 yJ8_newLength_cabcc, Cond.static yJ8_newLength_cabcc, Cond.initialized RJ8, Cond.code yJ8_newLength_cabcc cJ8_newLength_cabcc 4 (some .int), Cond.methodLink RJ8 194 Lib.Math.max.name, Cond.constant RJ8 200 (2147483639), Cond.methodLink RJ8 201 yJ8_hugeLength_7cf53, Cond.static yJ8_hugeLength_7cf53, Cond.code yJ8_hugeLength_7cf53 cJ8_hugeLength_7cf53 3 (some .int), Cond.methodLink RJx4a65c 66 yJ7_copyOf_1904c, Cond.static yJ7_copyOf_1904c, Cond.initialized RJ7, Cond.code yJ7_copyOf_1904c cJ7_copyOf_1904c 2 (some (.array (.object "java/lang/Object"))), Cond.methodLink RJ7 86 ⟨"java/lang/Object", "getClass", "()Ljava/lang/Class;"⟩, Cond.selects "[Ljava/lang/Object;" ⟨"java/lang/Object", "getClass", "()Ljava/lang/Class;"⟩ ⟨"java/lang/Object", "getClass", "()Ljava/lang/Class;"⟩, Cond.instanceMethod ⟨"java/lang/Object", "getClass", "()Ljava/lang/Class;"⟩, Cond.native ⟨"java/lang/Object", "getClass", "()Ljava/lang/Class;"⟩, Cond.methodLink RJ7 300 yJ7_copyOf_6403c]
def wsX8_take_r3 : List Cond := [Cond.static yJ7_copyOf_6403c, Cond.code yJ7_copyOf_6403c cJ7_copyOf_6403c 4 (some (.array (.object "java/lang/Object"))), Cond.classLink RJ7 110 "[Ljava/lang/Object;", Cond.classLink RJ7 2 "java/lang/Object", Cond.methodLink RJ7 304 Lib.Math.min.name, Cond.static Lib.Math.min.name, Cond.code Lib.Math.min.name Lib.Math.min.code 2 (some .int), Cond.methodLink RJ7 150 arraycopyName, Cond.native arraycopyName, Cond.static arraycopyName, Cond.initialized "java/lang/System"]
def wsX8_take : List Cond := .code yX8_take cX8_take 2 none :: ((wsX8_take_r1 ++ (wsX8_take_r2 ++ wsX8_take_r3)) ++ wsX80 ++ wsX20 ++ wsX60 ++ wsX00 ++ wsJx4a65c0)
def wsX9_init_r1 : List Cond := [Cond.methodLink RX9 1 objectInit, Cond.instanceMethod objectInit, Cond.code objectInit ⟨#[0xb1]⟩ 1 none, Cond.classLink RX9 9 RX0, Cond.fieldLink RX9 11 "BeetHouse" "farmers" "[LBeetHouse$Farmer;", Cond.classLink RX9 15 RJx4a65c, Cond.instantiable RJx4a65c 3, Cond.initialized RJx4a65c, Cond.fieldLink RX9 18 "BeetHouse" "plots" "Ljava/util/ArrayList;", Cond.classLink RX9 22 RX1, Cond.fieldLink RX9 24 "BeetHouse" "gangs" "[LBeetHouse$Gang;", Cond.fieldLink RX9 28 "BeetHouse" "lorries" "Ljava/util/ArrayList;", Cond.classLink RX9 31 RX7, Cond.instantiable RX7 2, Cond.initialized RX7, Cond.fieldLink RX9 34 "BeetHouse" "weather" "LBeetHouse$Weather;", Cond.classLink RX9 38 RX8, Cond.instantiable RX8 4, Cond.initialized RX8, Cond.fieldLink RX9 41 "BeetHouse" "yard" "LBeetHouse$Yard;", Cond.classLink RX9 45 RX4, Cond.instantiable RX4 5, Cond.initialized RX4, Cond.fieldLink RX9 48 "BeetHouse" "mill" "LBeetHouse$Mill;"]
def wsX9_init_r2 : List Cond := [Cond.classLink RX9 52 RX5, Cond.instantiable RX5 7, Cond.initialized RX5, Cond.fieldLink RX9 55 "BeetHouse" "orders" "LBeetHouse$Orders;", Cond.arrayClass .int, Cond.fieldLink RX9 59 "BeetHouse" "prices" "[I", Cond.fieldLink RX9 63 "BeetHouse" "refusals" "[I", Cond.fieldLink RX9 66 "BeetHouse" "freezing" "Z", Cond.fieldLink RX9 70 "BeetHouse" "hour" "I", Cond.instantiable RX0 4, Cond.initialized RX0, Cond.instantiable RX1 2, Cond.initialized RX1, Cond.methodLink RX9 17 yJx4a65c_init_da8c8, Cond.instanceMethod yJx4a65c_init_da8c8, Cond.code yJx4a65c_init_da8c8 cJx4a65c_init_da8c8 1 none, Cond.fieldLink RJx4a65c 39 "java/util/ArrayList" "DEFAULTCAPACITY_EMPTY_ELEMENTDATA" "[Ljava/lang/Object;", Cond.fieldLink RJx4a65c 9 "java/util/ArrayList" "elementData" "[Ljava/lang/Object;", Cond.methodLink RJx4a65c 1 yJxc12de_init_da8c8, Cond.instanceMethod yJxc12de_init_da8c8, Cond.initialized RJxc12de, Cond.code yJxc12de_init_da8c8 cJxc12de_init_da8c8 1 none, Cond.fieldLink RJxc12de 7 "java/util/AbstractList" "modCount" "I", Cond.methodLink RJxc12de 1 yJxa1e45_init_da8c8]
def wsX9_init_r3 : List Cond := [Cond.instanceMethod yJxa1e45_init_da8c8, Cond.initialized RJxa1e45, Cond.code yJxa1e45_init_da8c8 cJxa1e45_init_da8c8 1 none, Cond.methodLink RJxa1e45 1 objectInit, Cond.instanceMethod yX7_init, Cond.code yX7_init cX7_init 2 none, Cond.methodLink RX7 3 objectInit, Cond.fieldLink RX7 9 "BeetHouse$Weather" "warmths" "[I", Cond.fieldLink RX7 15 "BeetHouse$Weather" "numbers" "[I", Cond.instanceMethod yX8_init, Cond.code yX8_init cX8_init 1 none, Cond.methodLink RX8 1 objectInit, Cond.classLink RX8 7 RJx4a65c, Cond.fieldLink RX8 10 "BeetHouse$Yard" "loads" "Ljava/util/ArrayList;", Cond.fieldLink RX8 16 "BeetHouse$Yard" "room" "I", Cond.fieldLink RX8 20 "BeetHouse$Yard" "roots" "I", Cond.fieldLink RX8 23 "BeetHouse$Yard" "came" "I", Cond.methodLink RX8 9 yJx4a65c_init_da8c8, Cond.instanceMethod yX4_init, Cond.code yX4_init cX4_init 1 none, Cond.methodLink RX4 1 objectInit, Cond.fieldLink RX4 7 "BeetHouse$Mill" "rate" "I", Cond.fieldLink RX4 13 "BeetHouse$Mill" "eaten" "I", Cond.fieldLink RX4 16 "BeetHouse$Mill" "sugarWon" "I"]
def wsX9_init_r4 : List Cond := [Cond.fieldLink RX4 19 "BeetHouse$Mill" "stood" "I", Cond.fieldLink RX4 22 "BeetHouse$Mill" "lack" "I", Cond.instanceMethod yX5_init, Cond.code yX5_init cX5_init 1 none, Cond.methodLink RX5 3 objectInit, Cond.fieldLink RX5 9 "BeetHouse$Orders" "numbers" "[I", Cond.classLink RX5 15 "[[I", Cond.fieldLink RX5 17 "BeetHouse$Orders" "wasteByEnds" "[[I", Cond.fieldLink RX5 20 "BeetHouse$Orders" "begins" "[I", Cond.fieldLink RX5 23 "BeetHouse$Orders" "leastAfter" "[I", Cond.fieldLink RX5 26 "BeetHouse$Orders" "chosenAfter" "[I", Cond.fieldLink RX5 29 "BeetHouse$Orders" "size" "I", Cond.fieldLink RX5 33 "BeetHouse$Orders" "now" "I", Cond.instanceMethod yX0_init, Cond.code yX0_init cX0_init 2 none, Cond.methodLink RX0 1 objectInit, Cond.fieldLink RX0 7 "BeetHouse$Farmer" "share" "I", Cond.fieldLink RX0 13 "BeetHouse$Farmer" "coins" "I", Cond.fieldLink RX0 16 "BeetHouse$Farmer" "came" "I", Cond.fieldLink RX0 19 "BeetHouse$Farmer" "number" "I", Cond.instanceMethod yX1_init, Cond.code yX1_init cX1_init 1 none, Cond.methodLink RX1 1 objectInit, Cond.fieldLink RX1 7 "BeetHouse$Gang" "rate" "I"]
def wsX9_init_r5 : List Cond := [Cond.fieldLink RX1 13 "BeetHouse$Gang" "plot" "LBeetHouse$Plot;"]
def wsX9_init : List Cond := .code yX9_init cX9_init 2 none :: ((wsX9_init_r1 ++ (wsX9_init_r2 ++ (wsX9_init_r3 ++ (wsX9_init_r4 ++ wsX9_init_r5)))) ++ wsX90 ++ wsJx4a65c0 ++ wsX70 ++ wsX80 ++ wsX40 ++ wsX50 ++ wsX00 ++ wsX10)
def wsX9_farmerAt : List Cond := .code yX9_farmerAt cX9_farmerAt 2 (some (.object "BeetHouse$Farmer")) :: ([.fieldLink RX9 11 "BeetHouse" "farmers" "[LBeetHouse$Farmer;"] ++ wsX90)
def wsX9_refuse : List Cond := .code yX9_refuse cX9_refuse 2 (some .int) :: ([.fieldLink RX9 63 "BeetHouse" "refusals" "[I"] ++ wsX90)
def wsX9_outside : List Cond := .code yX9_outside cX9_outside 3 (some .int) :: ([])
def wsX9_share : List Cond := .code yX9_share cX9_share 6 (some .int) :: ([.methodLink RX9 78 yX9_farmerAt, .instanceMethod yX9_farmerAt, .selects RX9 yX9_farmerAt yX9_farmerAt, .initialized RX9, .code yX9_farmerAt cX9_farmerAt 2 (some (.object "BeetHouse$Farmer")), .fieldLink RX9 11 "BeetHouse" "farmers" "[LBeetHouse$Farmer;", .methodLink RX9 82 yX9_refuse, .instanceMethod yX9_refuse, .selects RX9 yX9_refuse yX9_refuse, .code yX9_refuse cX9_refuse 2 (some .int), .fieldLink RX9 63 "BeetHouse" "refusals" "[I", .methodLink RX9 86 yX9_outside, .static yX9_outside, .code yX9_outside cX9_outside 3 (some .int)] ++ wsX00 ++ wsX90)
def wsJx4a65c_size_8abf5 : List Cond := .code yJx4a65c_size_8abf5 cJx4a65c_size_8abf5 1 (some .int) :: ([.fieldLink RJx4a65c 48 "java/util/ArrayList" "size" "I"] ++ wsJx4a65c0)
def wsX9_field_r1 : List Cond := [Cond.fieldLink RX9 18 "BeetHouse" "plots" "Ljava/util/ArrayList;", Cond.classLink RX9 97 RX6, Cond.instantiable RX6 14, Cond.initialized RX6, Cond.methodLink RX9 78 yX9_farmerAt, Cond.instanceMethod yX9_farmerAt, Cond.selects RX9 yX9_farmerAt yX9_farmerAt, Cond.initialized RX9, Cond.code yX9_farmerAt cX9_farmerAt 2 (some (.object "BeetHouse$Farmer")), Cond.fieldLink RX9 11 "BeetHouse" "farmers" "[LBeetHouse$Farmer;", Cond.methodLink RX9 82 yX9_refuse, Cond.instanceMethod yX9_refuse, Cond.selects RX9 yX9_refuse yX9_refuse, Cond.code yX9_refuse cX9_refuse 2 (some .int), Cond.fieldLink RX9 63 "BeetHouse" "refusals" "[I", Cond.methodLink RX9 93 yJx4a65c_size_8abf5, Cond.instanceMethod yJx4a65c_size_8abf5, Cond.selects RJx4a65c yJx4a65c_size_8abf5 yJx4a65c_size_8abf5, Cond.initialized RJx4a65c, Cond.code yJx4a65c_size_8abf5 cJx4a65c_size_8abf5 1 (some .int), Cond.fieldLink RJx4a65c 48 "java/util/ArrayList" "size" "I", Cond.instanceMethod yX6_init, Cond.code yX6_init cX6_init 7 none, Cond.methodLink RX6 3 objectInit]
def wsX9_field_r2 : List Cond := [Cond.instanceMethod objectInit, Cond.code objectInit ⟨#[0xb1]⟩ 1 none, Cond.fieldLink RX6 9 "BeetHouse$Plot" "roots" "I", Cond.fieldLink RX6 15 "BeetHouse$Plot" "sugar" "I", Cond.fieldLink RX6 18 "BeetHouse$Plot" "covered" "Z", Cond.fieldLink RX6 22 "BeetHouse$Plot" "frozen" "Z", Cond.fieldLink RX6 25 "BeetHouse$Plot" "thawedSince" "I", Cond.fieldLink RX6 28 "BeetHouse$Plot" "wasted" "I", Cond.fieldLink RX6 31 "BeetHouse$Plot" "spoiled" "I", Cond.fieldLink RX6 34 "BeetHouse$Plot" "came" "I", Cond.fieldLink RX6 37 "BeetHouse$Plot" "number" "I", Cond.fieldLink RX6 40 "BeetHouse$Plot" "farmer" "LBeetHouse$Farmer;", Cond.fieldLink RX6 44 "BeetHouse$Plot" "ground" "I", Cond.fieldLink RX6 47 "BeetHouse$Plot" "sweet" "I", Cond.fieldLink RX6 50 "BeetHouse$Plot" "way" "I", Cond.fieldLink RX6 53 "BeetHouse$Plot" "stony" "Z", Cond.methodLink RX9 102 yJx4a65c_add_9ea2d, Cond.instanceMethod yJx4a65c_add_9ea2d, Cond.selects RJx4a65c yJx4a65c_add_9ea2d yJx4a65c_add_9ea2d, Cond.code yJx4a65c_add_9ea2d cJx4a65c_add_9ea2d 2 (some .boolean), Cond.fieldLink RJx4a65c 63 "java/util/ArrayList" "modCount" "I", Cond.sameField "java/util/ArrayList" "java/util/AbstractList" "modCount" "I", Cond.fieldLink RJx4a65c 9 "java/util/ArrayList" "elementData" "[Ljava/lang/Object;", Cond.methodLink RJx4a65c 131 yJx4a65c_add_72be8]
def wsX9_field_r3 : List Cond := [Cond.instanceMethod yJx4a65c_add_72be8, Cond.selects RJx4a65c yJx4a65c_add_72be8 yJx4a65c_add_72be8, Cond.code yJx4a65c_add_72be8 cJx4a65c_add_72be8 4 none, Cond.methodLink RJx4a65c 129 yJx4a65c_grow_d5877, Cond.instanceMethod yJx4a65c_grow_d5877, Cond.selects RJx4a65c yJx4a65c_grow_d5877 yJx4a65c_grow_d5877, Cond.code yJx4a65c_grow_d5877 cJx4a65c_grow_d5877 1 (some (.array (.object "java/lang/Object"))), Cond.methodLink RJx4a65c 69 yJx4a65c_grow_92f84, Cond.instanceMethod yJx4a65c_grow_92f84, Cond.selects RJx4a65c yJx4a65c_grow_92f84 yJx4a65c_grow_92f84, Cond.code yJx4a65c_grow_92f84 cJx4a65c_grow_92f84 4 (some (.array (.object "java/lang/Object"))), Cond.fieldLink RJx4a65c 39 "java/util/ArrayList" "DEFAULTCAPACITY_EMPTY_ELEMENTDATA" "[Ljava/lang/Object;", Cond.methodLink RJx4a65c 79 Lib.Math.max.name, Cond.static Lib.Math.max.name, Cond.initialized "java/lang/Math", Cond.code Lib.Math.max.name Lib.Math.max.code 2 (some .int), Cond.classLink RJx4a65c 7 "java/lang/Object", Cond.methodLink RJx4a65c 73 yJ8_newLength_cabcc, Cond.static yJ8_newLength_cabcc, Cond.initialized RJ8, Cond.code yJ8_newLength_cabcc cJ8_newLength_cabcc 4 (some .int), Cond.methodLink RJ8 194 Lib.Math.max.name, Cond.constant RJ8 200 (2147483639), Cond.methodLink RJ8 201 yJ8_hugeLength_7cf53]
def wsX9_field_r4 : List Cond := [Cond.static yJ8_hugeLength_7cf53, Cond.code yJ8_hugeLength_7cf53 cJ8_hugeLength_7cf53 3 (some .int), Cond.methodLink RJx4a65c 66 yJ7_copyOf_1904c, Cond.static yJ7_copyOf_1904c, Cond.initialized RJ7, Cond.code yJ7_copyOf_1904c cJ7_copyOf_1904c 2 (some (.array (.object "java/lang/Object"))), Cond.methodLink RJ7 86 ⟨"java/lang/Object", "getClass", "()Ljava/lang/Class;"⟩, Cond.selects "[Ljava/lang/Object;" ⟨"java/lang/Object", "getClass", "()Ljava/lang/Class;"⟩ ⟨"java/lang/Object", "getClass", "()Ljava/lang/Class;"⟩, Cond.instanceMethod ⟨"java/lang/Object", "getClass", "()Ljava/lang/Class;"⟩, Cond.native ⟨"java/lang/Object", "getClass", "()Ljava/lang/Class;"⟩, Cond.methodLink RJ7 300 yJ7_copyOf_6403c, Cond.static yJ7_copyOf_6403c, Cond.code yJ7_copyOf_6403c cJ7_copyOf_6403c 4 (some (.array (.object "java/lang/Object"))), Cond.classLink RJ7 110 "[Ljava/lang/Object;", Cond.classLink RJ7 2 "java/lang/Object", Cond.methodLink RJ7 304 Lib.Math.min.name, Cond.static Lib.Math.min.name, Cond.code Lib.Math.min.name Lib.Math.min.code 2 (some .int), Cond.methodLink RJ7 150 arraycopyName, Cond.native arraycopyName, Cond.static arraycopyName, Cond.initialized "java/lang/System"]
def wsX9_field : List Cond := .code yX9_field cX9_field 8 (some .int) :: ((wsX9_field_r1 ++ (wsX9_field_r2 ++ (wsX9_field_r3 ++ wsX9_field_r4))) ++ wsX90 ++ wsX60 ++ wsJx4a65c0)
def wsX9_plotAt_r1 : List Cond := [Cond.fieldLink RX9 18 "BeetHouse" "plots" "Ljava/util/ArrayList;", Cond.classLink RX9 97 "BeetHouse$Plot", Cond.methodLink RX9 93 yJx4a65c_size_8abf5, Cond.instanceMethod yJx4a65c_size_8abf5, Cond.selects RJx4a65c yJx4a65c_size_8abf5 yJx4a65c_size_8abf5, Cond.initialized RJx4a65c, Cond.code yJx4a65c_size_8abf5 cJx4a65c_size_8abf5 1 (some .int), Cond.fieldLink RJx4a65c 48 "java/util/ArrayList" "size" "I", Cond.methodLink RX9 172 yJx4a65c_get_915e3, Cond.instanceMethod yJx4a65c_get_915e3, Cond.selects RJx4a65c yJx4a65c_get_915e3 yJx4a65c_get_915e3, Cond.code yJx4a65c_get_915e3 cJx4a65c_get_915e3 2 (some (.object "java/lang/Object")), Cond.methodLink RJx4a65c 118 yJ15_checkIndex_7cf53, Cond.static yJ15_checkIndex_7cf53, Cond.initialized RJ15, Cond.code yJ15_checkIndex_7cf53 cJ15_checkIndex_7cf53 2 (some .int), Cond.methodLink RJ15 105 yJ3_checkIndex_8e157, Cond.static yJ3_checkIndex_8e157, Cond.initialized RJ3, Cond.code yJ3_checkIndex_8e157 cJ3_checkIndex_8e157 3 (some .int), Cond.methodLink RJx4a65c 123 yJx4a65c_elementData_915e3, Cond.instanceMethod yJx4a65c_elementData_915e3, Cond.selects RJx4a65c yJx4a65c_elementData_915e3 yJx4a65c_elementData_915e3, Cond.code yJx4a65c_elementData_915e3 cJx4a65c_elementData_915e3 2 (some (.object "java/lang/Object"))]
def wsX9_plotAt_r2 : List Cond := [Cond.fieldLink RJx4a65c 9 "java/util/ArrayList" "elementData" "[Ljava/lang/Object;"]
def wsX9_plotAt : List Cond := .code yX9_plotAt cX9_plotAt 2 (some (.object "BeetHouse$Plot")) :: ((wsX9_plotAt_r1 ++ wsX9_plotAt_r2) ++ wsX90 ++ wsJx4a65c0)
def wsX9_gang_r1 : List Cond := [Cond.fieldLink RX9 24 "BeetHouse" "gangs" "[LBeetHouse$Gang;", Cond.methodLink RX9 106 yX9_plotAt, Cond.instanceMethod yX9_plotAt, Cond.selects RX9 yX9_plotAt yX9_plotAt, Cond.initialized RX9, Cond.code yX9_plotAt cX9_plotAt 2 (some (.object "BeetHouse$Plot")), Cond.fieldLink RX9 18 "BeetHouse" "plots" "Ljava/util/ArrayList;", Cond.classLink RX9 97 "BeetHouse$Plot", Cond.methodLink RX9 93 yJx4a65c_size_8abf5, Cond.instanceMethod yJx4a65c_size_8abf5, Cond.selects RJx4a65c yJx4a65c_size_8abf5 yJx4a65c_size_8abf5, Cond.initialized RJx4a65c, Cond.code yJx4a65c_size_8abf5 cJx4a65c_size_8abf5 1 (some .int), Cond.fieldLink RJx4a65c 48 "java/util/ArrayList" "size" "I", Cond.methodLink RX9 172 yJx4a65c_get_915e3, Cond.instanceMethod yJx4a65c_get_915e3, Cond.selects RJx4a65c yJx4a65c_get_915e3 yJx4a65c_get_915e3, Cond.code yJx4a65c_get_915e3 cJx4a65c_get_915e3 2 (some (.object "java/lang/Object")), Cond.methodLink RJx4a65c 118 yJ15_checkIndex_7cf53, Cond.static yJ15_checkIndex_7cf53, Cond.initialized RJ15, Cond.code yJ15_checkIndex_7cf53 cJ15_checkIndex_7cf53 2 (some .int), Cond.methodLink RJ15 105 yJ3_checkIndex_8e157, Cond.static yJ3_checkIndex_8e157]
def wsX9_gang_r2 : List Cond := [Cond.initialized RJ3, Cond.code yJ3_checkIndex_8e157 cJ3_checkIndex_8e157 3 (some .int), Cond.methodLink RJx4a65c 123 yJx4a65c_elementData_915e3, Cond.instanceMethod yJx4a65c_elementData_915e3, Cond.selects RJx4a65c yJx4a65c_elementData_915e3 yJx4a65c_elementData_915e3, Cond.code yJx4a65c_elementData_915e3 cJx4a65c_elementData_915e3 2 (some (.object "java/lang/Object")), Cond.fieldLink RJx4a65c 9 "java/util/ArrayList" "elementData" "[Ljava/lang/Object;", Cond.methodLink RX9 82 yX9_refuse, Cond.instanceMethod yX9_refuse, Cond.selects RX9 yX9_refuse yX9_refuse, Cond.code yX9_refuse cX9_refuse 2 (some .int), Cond.fieldLink RX9 63 "BeetHouse" "refusals" "[I", Cond.methodLink RX9 86 yX9_outside, Cond.static yX9_outside, Cond.code yX9_outside cX9_outside 3 (some .int)]
def wsX9_gang : List Cond := .code yX9_gang cX9_gang 6 (some .int) :: ((wsX9_gang_r1 ++ wsX9_gang_r2) ++ wsX90 ++ wsX10 ++ wsJx4a65c0)
def wsX9_lorry_r1 : List Cond := [Cond.fieldLink RX9 28 "BeetHouse" "lorries" "Ljava/util/ArrayList;", Cond.classLink RX9 117 RX3, Cond.instantiable RX3 8, Cond.initialized RX3, Cond.methodLink RX9 82 yX9_refuse, Cond.instanceMethod yX9_refuse, Cond.selects RX9 yX9_refuse yX9_refuse, Cond.initialized RX9, Cond.code yX9_refuse cX9_refuse 2 (some .int), Cond.fieldLink RX9 63 "BeetHouse" "refusals" "[I", Cond.methodLink RX9 93 yJx4a65c_size_8abf5, Cond.instanceMethod yJx4a65c_size_8abf5, Cond.selects RJx4a65c yJx4a65c_size_8abf5 yJx4a65c_size_8abf5, Cond.initialized RJx4a65c, Cond.code yJx4a65c_size_8abf5 cJx4a65c_size_8abf5 1 (some .int), Cond.fieldLink RJx4a65c 48 "java/util/ArrayList" "size" "I", Cond.instanceMethod yX3_init, Cond.code yX3_init cX3_init 2 none, Cond.methodLink RX3 3 objectInit, Cond.instanceMethod objectInit, Cond.code objectInit ⟨#[0xb1]⟩ 1 none, Cond.fieldLink RX3 9 "BeetHouse$Lorry" "state" "I", Cond.fieldLink RX3 15 "BeetHouse$Lorry" "plot" "LBeetHouse$Plot;", Cond.fieldLink RX3 19 "BeetHouse$Lorry" "there" "I"]
def wsX9_lorry_r2 : List Cond := [Cond.fieldLink RX3 22 "BeetHouse$Lorry" "roots" "I", Cond.fieldLink RX3 25 "BeetHouse$Lorry" "sugar" "I", Cond.fieldLink RX3 28 "BeetHouse$Lorry" "drowned" "I", Cond.fieldLink RX3 31 "BeetHouse$Lorry" "brought" "I", Cond.fieldLink RX3 34 "BeetHouse$Lorry" "capacity" "I", Cond.methodLink RX9 102 yJx4a65c_add_9ea2d, Cond.instanceMethod yJx4a65c_add_9ea2d, Cond.selects RJx4a65c yJx4a65c_add_9ea2d yJx4a65c_add_9ea2d, Cond.code yJx4a65c_add_9ea2d cJx4a65c_add_9ea2d 2 (some .boolean), Cond.fieldLink RJx4a65c 63 "java/util/ArrayList" "modCount" "I", Cond.sameField "java/util/ArrayList" "java/util/AbstractList" "modCount" "I", Cond.fieldLink RJx4a65c 9 "java/util/ArrayList" "elementData" "[Ljava/lang/Object;", Cond.methodLink RJx4a65c 131 yJx4a65c_add_72be8, Cond.instanceMethod yJx4a65c_add_72be8, Cond.selects RJx4a65c yJx4a65c_add_72be8 yJx4a65c_add_72be8, Cond.code yJx4a65c_add_72be8 cJx4a65c_add_72be8 4 none, Cond.methodLink RJx4a65c 129 yJx4a65c_grow_d5877, Cond.instanceMethod yJx4a65c_grow_d5877, Cond.selects RJx4a65c yJx4a65c_grow_d5877 yJx4a65c_grow_d5877, Cond.code yJx4a65c_grow_d5877 cJx4a65c_grow_d5877 1 (some (.array (.object "java/lang/Object"))), Cond.methodLink RJx4a65c 69 yJx4a65c_grow_92f84, Cond.instanceMethod yJx4a65c_grow_92f84, Cond.selects RJx4a65c yJx4a65c_grow_92f84 yJx4a65c_grow_92f84, Cond.code yJx4a65c_grow_92f84 cJx4a65c_grow_92f84 4 (some (.array (.object "java/lang/Object")))]
def wsX9_lorry_r3 : List Cond := [Cond.fieldLink RJx4a65c 39 "java/util/ArrayList" "DEFAULTCAPACITY_EMPTY_ELEMENTDATA" "[Ljava/lang/Object;", Cond.methodLink RJx4a65c 79 Lib.Math.max.name, Cond.static Lib.Math.max.name, Cond.initialized "java/lang/Math", Cond.code Lib.Math.max.name Lib.Math.max.code 2 (some .int), Cond.classLink RJx4a65c 7 "java/lang/Object", Cond.methodLink RJx4a65c 73 yJ8_newLength_cabcc, Cond.static yJ8_newLength_cabcc, Cond.initialized RJ8, Cond.code yJ8_newLength_cabcc cJ8_newLength_cabcc 4 (some .int), Cond.methodLink RJ8 194 Lib.Math.max.name, Cond.constant RJ8 200 (2147483639), Cond.methodLink RJ8 201 yJ8_hugeLength_7cf53, Cond.static yJ8_hugeLength_7cf53, Cond.code yJ8_hugeLength_7cf53 cJ8_hugeLength_7cf53 3 (some .int), Cond.methodLink RJx4a65c 66 yJ7_copyOf_1904c, Cond.static yJ7_copyOf_1904c, Cond.initialized RJ7, Cond.code yJ7_copyOf_1904c cJ7_copyOf_1904c 2 (some (.array (.object "java/lang/Object"))), Cond.methodLink RJ7 86 ⟨"java/lang/Object", "getClass", "()Ljava/lang/Class;"⟩, Cond.selects "[Ljava/lang/Object;" ⟨"java/lang/Object", "getClass", "()Ljava/lang/Class;"⟩ ⟨"java/lang/Object", "getClass", "()Ljava/lang/Class;"⟩, Cond.instanceMethod ⟨"java/lang/Object", "getClass", "()Ljava/lang/Class;"⟩, Cond.native ⟨"java/lang/Object", "getClass", "()Ljava/lang/Class;"⟩, Cond.methodLink RJ7 300 yJ7_copyOf_6403c]
def wsX9_lorry_r4 : List Cond := [Cond.static yJ7_copyOf_6403c, Cond.code yJ7_copyOf_6403c cJ7_copyOf_6403c 4 (some (.array (.object "java/lang/Object"))), Cond.classLink RJ7 110 "[Ljava/lang/Object;", Cond.classLink RJ7 2 "java/lang/Object", Cond.methodLink RJ7 304 Lib.Math.min.name, Cond.static Lib.Math.min.name, Cond.code Lib.Math.min.name Lib.Math.min.code 2 (some .int), Cond.methodLink RJ7 150 arraycopyName, Cond.native arraycopyName, Cond.static arraycopyName, Cond.initialized "java/lang/System"]
def wsX9_lorry : List Cond := .code yX9_lorry cX9_lorry 2 (some .int) :: ((wsX9_lorry_r1 ++ (wsX9_lorry_r2 ++ (wsX9_lorry_r3 ++ wsX9_lorry_r4))) ++ wsX90 ++ wsX30 ++ wsJx4a65c0)
def wsX9_lorryAt_r1 : List Cond := [Cond.fieldLink RX9 28 "BeetHouse" "lorries" "Ljava/util/ArrayList;", Cond.classLink RX9 117 "BeetHouse$Lorry", Cond.methodLink RX9 93 yJx4a65c_size_8abf5, Cond.instanceMethod yJx4a65c_size_8abf5, Cond.selects RJx4a65c yJx4a65c_size_8abf5 yJx4a65c_size_8abf5, Cond.initialized RJx4a65c, Cond.code yJx4a65c_size_8abf5 cJx4a65c_size_8abf5 1 (some .int), Cond.fieldLink RJx4a65c 48 "java/util/ArrayList" "size" "I", Cond.methodLink RX9 172 yJx4a65c_get_915e3, Cond.instanceMethod yJx4a65c_get_915e3, Cond.selects RJx4a65c yJx4a65c_get_915e3 yJx4a65c_get_915e3, Cond.code yJx4a65c_get_915e3 cJx4a65c_get_915e3 2 (some (.object "java/lang/Object")), Cond.methodLink RJx4a65c 118 yJ15_checkIndex_7cf53, Cond.static yJ15_checkIndex_7cf53, Cond.initialized RJ15, Cond.code yJ15_checkIndex_7cf53 cJ15_checkIndex_7cf53 2 (some .int), Cond.methodLink RJ15 105 yJ3_checkIndex_8e157, Cond.static yJ3_checkIndex_8e157, Cond.initialized RJ3, Cond.code yJ3_checkIndex_8e157 cJ3_checkIndex_8e157 3 (some .int), Cond.methodLink RJx4a65c 123 yJx4a65c_elementData_915e3, Cond.instanceMethod yJx4a65c_elementData_915e3, Cond.selects RJx4a65c yJx4a65c_elementData_915e3 yJx4a65c_elementData_915e3, Cond.code yJx4a65c_elementData_915e3 cJx4a65c_elementData_915e3 2 (some (.object "java/lang/Object"))]
def wsX9_lorryAt_r2 : List Cond := [Cond.fieldLink RJx4a65c 9 "java/util/ArrayList" "elementData" "[Ljava/lang/Object;"]
def wsX9_lorryAt : List Cond := .code yX9_lorryAt cX9_lorryAt 2 (some (.object "BeetHouse$Lorry")) :: ((wsX9_lorryAt_r1 ++ wsX9_lorryAt_r2) ++ wsX90 ++ wsJx4a65c0)
def wsX9_send_r1 : List Cond := [Cond.fieldLink RX9 70 "BeetHouse" "hour" "I", Cond.methodLink RX9 120 yX9_lorryAt, Cond.instanceMethod yX9_lorryAt, Cond.selects RX9 yX9_lorryAt yX9_lorryAt, Cond.initialized RX9, Cond.code yX9_lorryAt cX9_lorryAt 2 (some (.object "BeetHouse$Lorry")), Cond.fieldLink RX9 28 "BeetHouse" "lorries" "Ljava/util/ArrayList;", Cond.classLink RX9 117 "BeetHouse$Lorry", Cond.methodLink RX9 93 yJx4a65c_size_8abf5, Cond.instanceMethod yJx4a65c_size_8abf5, Cond.selects RJx4a65c yJx4a65c_size_8abf5 yJx4a65c_size_8abf5, Cond.initialized RJx4a65c, Cond.code yJx4a65c_size_8abf5 cJx4a65c_size_8abf5 1 (some .int), Cond.fieldLink RJx4a65c 48 "java/util/ArrayList" "size" "I", Cond.methodLink RX9 172 yJx4a65c_get_915e3, Cond.instanceMethod yJx4a65c_get_915e3, Cond.selects RJx4a65c yJx4a65c_get_915e3 yJx4a65c_get_915e3, Cond.code yJx4a65c_get_915e3 cJx4a65c_get_915e3 2 (some (.object "java/lang/Object")), Cond.methodLink RJx4a65c 118 yJ15_checkIndex_7cf53, Cond.static yJ15_checkIndex_7cf53, Cond.initialized RJ15, Cond.code yJ15_checkIndex_7cf53 cJ15_checkIndex_7cf53 2 (some .int), Cond.methodLink RJ15 105 yJ3_checkIndex_8e157, Cond.static yJ3_checkIndex_8e157]
def wsX9_send_r2 : List Cond := [Cond.initialized RJ3, Cond.code yJ3_checkIndex_8e157 cJ3_checkIndex_8e157 3 (some .int), Cond.methodLink RJx4a65c 123 yJx4a65c_elementData_915e3, Cond.instanceMethod yJx4a65c_elementData_915e3, Cond.selects RJx4a65c yJx4a65c_elementData_915e3 yJx4a65c_elementData_915e3, Cond.code yJx4a65c_elementData_915e3 cJx4a65c_elementData_915e3 2 (some (.object "java/lang/Object")), Cond.fieldLink RJx4a65c 9 "java/util/ArrayList" "elementData" "[Ljava/lang/Object;", Cond.methodLink RX9 106 yX9_plotAt, Cond.instanceMethod yX9_plotAt, Cond.selects RX9 yX9_plotAt yX9_plotAt, Cond.code yX9_plotAt cX9_plotAt 2 (some (.object "BeetHouse$Plot")), Cond.fieldLink RX9 18 "BeetHouse" "plots" "Ljava/util/ArrayList;", Cond.classLink RX9 97 "BeetHouse$Plot", Cond.methodLink RX9 82 yX9_refuse, Cond.instanceMethod yX9_refuse, Cond.selects RX9 yX9_refuse yX9_refuse, Cond.code yX9_refuse cX9_refuse 2 (some .int), Cond.fieldLink RX9 63 "BeetHouse" "refusals" "[I", Cond.instanceMethod yX3_setOut, Cond.initialized RX3, Cond.selects RX3 yX3_setOut yX3_setOut, Cond.code yX3_setOut cX3_setOut 3 none, Cond.fieldLink RX3 9 "BeetHouse$Lorry" "state" "I", Cond.fieldLink RX3 15 "BeetHouse$Lorry" "plot" "LBeetHouse$Plot;"]
def wsX9_send_r3 : List Cond := [Cond.fieldLink RX3 19 "BeetHouse$Lorry" "there" "I"]
def wsX9_send : List Cond := .code yX9_send cX9_send 5 (some .int) :: ((wsX9_send_r1 ++ (wsX9_send_r2 ++ wsX9_send_r3)) ++ wsX30 ++ wsX90 ++ wsJx4a65c0 ++ wsX60)
def wsX9_firstHome_r1 : List Cond := [Cond.fieldLink RX9 28 "BeetHouse" "lorries" "Ljava/util/ArrayList;", Cond.classLink RX9 117 "BeetHouse$Lorry", Cond.methodLink RX9 93 yJx4a65c_size_8abf5, Cond.instanceMethod yJx4a65c_size_8abf5, Cond.selects RJx4a65c yJx4a65c_size_8abf5 yJx4a65c_size_8abf5, Cond.initialized RJx4a65c, Cond.code yJx4a65c_size_8abf5 cJx4a65c_size_8abf5 1 (some .int), Cond.fieldLink RJx4a65c 48 "java/util/ArrayList" "size" "I", Cond.methodLink RX9 172 yJx4a65c_get_915e3, Cond.instanceMethod yJx4a65c_get_915e3, Cond.selects RJx4a65c yJx4a65c_get_915e3 yJx4a65c_get_915e3, Cond.code yJx4a65c_get_915e3 cJx4a65c_get_915e3 2 (some (.object "java/lang/Object")), Cond.methodLink RJx4a65c 118 yJ15_checkIndex_7cf53, Cond.static yJ15_checkIndex_7cf53, Cond.initialized RJ15, Cond.code yJ15_checkIndex_7cf53 cJ15_checkIndex_7cf53 2 (some .int), Cond.methodLink RJ15 105 yJ3_checkIndex_8e157, Cond.static yJ3_checkIndex_8e157, Cond.initialized RJ3, Cond.code yJ3_checkIndex_8e157 cJ3_checkIndex_8e157 3 (some .int), Cond.methodLink RJx4a65c 123 yJx4a65c_elementData_915e3, Cond.instanceMethod yJx4a65c_elementData_915e3, Cond.selects RJx4a65c yJx4a65c_elementData_915e3 yJx4a65c_elementData_915e3, Cond.code yJx4a65c_elementData_915e3 cJx4a65c_elementData_915e3 2 (some (.object "java/lang/Object"))]
def wsX9_firstHome_r2 : List Cond := [Cond.fieldLink RJx4a65c 9 "java/util/ArrayList" "elementData" "[Ljava/lang/Object;"]
def wsX9_firstHome : List Cond := .code yX9_firstHome cX9_firstHome 2 (some (.object "BeetHouse$Lorry")) :: ((wsX9_firstHome_r1 ++ wsX9_firstHome_r2) ++ wsX90 ++ wsX30 ++ wsJx4a65c0)
def wsX9_hasRootsToSpare_r1 : List Cond := [Cond.fieldLink RX9 28 "BeetHouse" "lorries" "Ljava/util/ArrayList;", Cond.classLink RX9 117 "BeetHouse$Lorry", Cond.methodLink RX9 93 yJx4a65c_size_8abf5, Cond.instanceMethod yJx4a65c_size_8abf5, Cond.selects RJx4a65c yJx4a65c_size_8abf5 yJx4a65c_size_8abf5, Cond.initialized RJx4a65c, Cond.code yJx4a65c_size_8abf5 cJx4a65c_size_8abf5 1 (some .int), Cond.fieldLink RJx4a65c 48 "java/util/ArrayList" "size" "I", Cond.methodLink RX9 172 yJx4a65c_get_915e3, Cond.instanceMethod yJx4a65c_get_915e3, Cond.selects RJx4a65c yJx4a65c_get_915e3 yJx4a65c_get_915e3, Cond.code yJx4a65c_get_915e3 cJx4a65c_get_915e3 2 (some (.object "java/lang/Object")), Cond.methodLink RJx4a65c 118 yJ15_checkIndex_7cf53, Cond.static yJ15_checkIndex_7cf53, Cond.initialized RJ15, Cond.code yJ15_checkIndex_7cf53 cJ15_checkIndex_7cf53 2 (some .int), Cond.methodLink RJ15 105 yJ3_checkIndex_8e157, Cond.static yJ3_checkIndex_8e157, Cond.initialized RJ3, Cond.code yJ3_checkIndex_8e157 cJ3_checkIndex_8e157 3 (some .int), Cond.methodLink RJx4a65c 123 yJx4a65c_elementData_915e3, Cond.instanceMethod yJx4a65c_elementData_915e3, Cond.selects RJx4a65c yJx4a65c_elementData_915e3 yJx4a65c_elementData_915e3, Cond.code yJx4a65c_elementData_915e3 cJx4a65c_elementData_915e3 2 (some (.object "java/lang/Object"))]
def wsX9_hasRootsToSpare_r2 : List Cond := [Cond.fieldLink RJx4a65c 9 "java/util/ArrayList" "elementData" "[Ljava/lang/Object;", Cond.instanceMethod yX3_isOutTo, Cond.initialized RX3, Cond.selects RX3 yX3_isOutTo yX3_isOutTo, Cond.code yX3_isOutTo cX3_isOutTo 2 (some .boolean), Cond.fieldLink RX3 9 "BeetHouse$Lorry" "state" "I", Cond.fieldLink RX3 15 "BeetHouse$Lorry" "plot" "LBeetHouse$Plot;"]
def wsX9_hasRootsToSpare : List Cond := .code yX9_hasRootsToSpare cX9_hasRootsToSpare 5 (some .boolean) :: ((wsX9_hasRootsToSpare_r1 ++ wsX9_hasRootsToSpare_r2) ++ wsX90 ++ wsX30 ++ wsX60 ++ wsJx4a65c0)
def wsX9_mostOwed_r1 : List Cond := [Cond.fieldLink RX9 18 "BeetHouse" "plots" "Ljava/util/ArrayList;", Cond.classLink RX9 97 "BeetHouse$Plot", Cond.fieldLink RX9 41 "BeetHouse" "yard" "LBeetHouse$Yard;", Cond.methodLink RX9 93 yJx4a65c_size_8abf5, Cond.instanceMethod yJx4a65c_size_8abf5, Cond.selects RJx4a65c yJx4a65c_size_8abf5 yJx4a65c_size_8abf5, Cond.initialized RJx4a65c, Cond.code yJx4a65c_size_8abf5 cJx4a65c_size_8abf5 1 (some .int), Cond.fieldLink RJx4a65c 48 "java/util/ArrayList" "size" "I", Cond.methodLink RX9 172 yJx4a65c_get_915e3, Cond.instanceMethod yJx4a65c_get_915e3, Cond.selects RJx4a65c yJx4a65c_get_915e3 yJx4a65c_get_915e3, Cond.code yJx4a65c_get_915e3 cJx4a65c_get_915e3 2 (some (.object "java/lang/Object")), Cond.methodLink RJx4a65c 118 yJ15_checkIndex_7cf53, Cond.static yJ15_checkIndex_7cf53, Cond.initialized RJ15, Cond.code yJ15_checkIndex_7cf53 cJ15_checkIndex_7cf53 2 (some .int), Cond.methodLink RJ15 105 yJ3_checkIndex_8e157, Cond.static yJ3_checkIndex_8e157, Cond.initialized RJ3, Cond.code yJ3_checkIndex_8e157 cJ3_checkIndex_8e157 3 (some .int), Cond.methodLink RJx4a65c 123 yJx4a65c_elementData_915e3, Cond.instanceMethod yJx4a65c_elementData_915e3, Cond.selects RJx4a65c yJx4a65c_elementData_915e3 yJx4a65c_elementData_915e3]
def wsX9_mostOwed_r2 : List Cond := [Cond.code yJx4a65c_elementData_915e3 cJx4a65c_elementData_915e3 2 (some (.object "java/lang/Object")), Cond.fieldLink RJx4a65c 9 "java/util/ArrayList" "elementData" "[Ljava/lang/Object;", Cond.methodLink RX9 274 yX9_hasRootsToSpare, Cond.instanceMethod yX9_hasRootsToSpare, Cond.selects RX9 yX9_hasRootsToSpare yX9_hasRootsToSpare, Cond.initialized RX9, Cond.code yX9_hasRootsToSpare cX9_hasRootsToSpare 5 (some .boolean), Cond.fieldLink RX9 28 "BeetHouse" "lorries" "Ljava/util/ArrayList;", Cond.classLink RX9 117 "BeetHouse$Lorry", Cond.instanceMethod yX3_isOutTo, Cond.initialized RX3, Cond.selects RX3 yX3_isOutTo yX3_isOutTo, Cond.code yX3_isOutTo cX3_isOutTo 2 (some .boolean), Cond.fieldLink RX3 9 "BeetHouse$Lorry" "state" "I", Cond.fieldLink RX3 15 "BeetHouse$Lorry" "plot" "LBeetHouse$Plot;", Cond.instanceMethod yX0_comesBefore, Cond.initialized RX0, Cond.selects RX0 yX0_comesBefore yX0_comesBefore, Cond.code yX0_comesBefore cX0_comesBefore 5 (some .boolean), Cond.fieldLink RX0 19 "BeetHouse$Farmer" "number" "I", Cond.methodLink RX0 22 yX0_claim, Cond.instanceMethod yX0_claim, Cond.selects RX0 yX0_claim yX0_claim, Cond.code yX0_claim cX0_claim 2 (some .int)]
def wsX9_mostOwed_r3 : List Cond := [Cond.fieldLink RX0 7 "BeetHouse$Farmer" "share" "I", Cond.fieldLink RX0 16 "BeetHouse$Farmer" "came" "I"]
def wsX9_mostOwed : List Cond := .code yX9_mostOwed cX9_mostOwed 4 (some (.object "BeetHouse$Farmer")) :: ((wsX9_mostOwed_r1 ++ (wsX9_mostOwed_r2 ++ wsX9_mostOwed_r3)) ++ wsX90 ++ wsX60 ++ wsX80 ++ wsJx4a65c0 ++ wsX30 ++ wsX00)
def wsX9_sweetestOf_r1 : List Cond := [Cond.fieldLink RX9 18 "BeetHouse" "plots" "Ljava/util/ArrayList;", Cond.classLink RX9 97 "BeetHouse$Plot", Cond.methodLink RX9 93 yJx4a65c_size_8abf5, Cond.instanceMethod yJx4a65c_size_8abf5, Cond.selects RJx4a65c yJx4a65c_size_8abf5 yJx4a65c_size_8abf5, Cond.initialized RJx4a65c, Cond.code yJx4a65c_size_8abf5 cJx4a65c_size_8abf5 1 (some .int), Cond.fieldLink RJx4a65c 48 "java/util/ArrayList" "size" "I", Cond.methodLink RX9 172 yJx4a65c_get_915e3, Cond.instanceMethod yJx4a65c_get_915e3, Cond.selects RJx4a65c yJx4a65c_get_915e3 yJx4a65c_get_915e3, Cond.code yJx4a65c_get_915e3 cJx4a65c_get_915e3 2 (some (.object "java/lang/Object")), Cond.methodLink RJx4a65c 118 yJ15_checkIndex_7cf53, Cond.static yJ15_checkIndex_7cf53, Cond.initialized RJ15, Cond.code yJ15_checkIndex_7cf53 cJ15_checkIndex_7cf53 2 (some .int), Cond.methodLink RJ15 105 yJ3_checkIndex_8e157, Cond.static yJ3_checkIndex_8e157, Cond.initialized RJ3, Cond.code yJ3_checkIndex_8e157 cJ3_checkIndex_8e157 3 (some .int), Cond.methodLink RJx4a65c 123 yJx4a65c_elementData_915e3, Cond.instanceMethod yJx4a65c_elementData_915e3, Cond.selects RJx4a65c yJx4a65c_elementData_915e3 yJx4a65c_elementData_915e3, Cond.code yJx4a65c_elementData_915e3 cJx4a65c_elementData_915e3 2 (some (.object "java/lang/Object"))]
def wsX9_sweetestOf_r2 : List Cond := [Cond.fieldLink RJx4a65c 9 "java/util/ArrayList" "elementData" "[Ljava/lang/Object;", Cond.methodLink RX9 274 yX9_hasRootsToSpare, Cond.instanceMethod yX9_hasRootsToSpare, Cond.selects RX9 yX9_hasRootsToSpare yX9_hasRootsToSpare, Cond.initialized RX9, Cond.code yX9_hasRootsToSpare cX9_hasRootsToSpare 5 (some .boolean), Cond.fieldLink RX9 28 "BeetHouse" "lorries" "Ljava/util/ArrayList;", Cond.classLink RX9 117 "BeetHouse$Lorry", Cond.instanceMethod yX3_isOutTo, Cond.initialized RX3, Cond.selects RX3 yX3_isOutTo yX3_isOutTo, Cond.code yX3_isOutTo cX3_isOutTo 2 (some .boolean), Cond.fieldLink RX3 9 "BeetHouse$Lorry" "state" "I", Cond.fieldLink RX3 15 "BeetHouse$Lorry" "plot" "LBeetHouse$Plot;"]
def wsX9_sweetestOf : List Cond := .code yX9_sweetestOf cX9_sweetestOf 5 (some (.object "BeetHouse$Plot")) :: ((wsX9_sweetestOf_r1 ++ wsX9_sweetestOf_r2) ++ wsX90 ++ wsX60 ++ wsJx4a65c0 ++ wsX30)
def wsX9_turn_r1 : List Cond := [Cond.fieldLink RX9 70 "BeetHouse" "hour" "I", Cond.methodLink RX9 134 yX9_firstHome, Cond.instanceMethod yX9_firstHome, Cond.selects RX9 yX9_firstHome yX9_firstHome, Cond.initialized RX9, Cond.code yX9_firstHome cX9_firstHome 2 (some (.object "BeetHouse$Lorry")), Cond.fieldLink RX9 28 "BeetHouse" "lorries" "Ljava/util/ArrayList;", Cond.classLink RX9 117 "BeetHouse$Lorry", Cond.methodLink RX9 93 yJx4a65c_size_8abf5, Cond.instanceMethod yJx4a65c_size_8abf5, Cond.selects RJx4a65c yJx4a65c_size_8abf5 yJx4a65c_size_8abf5, Cond.initialized RJx4a65c, Cond.code yJx4a65c_size_8abf5 cJx4a65c_size_8abf5 1 (some .int), Cond.fieldLink RJx4a65c 48 "java/util/ArrayList" "size" "I", Cond.methodLink RX9 172 yJx4a65c_get_915e3, Cond.instanceMethod yJx4a65c_get_915e3, Cond.selects RJx4a65c yJx4a65c_get_915e3 yJx4a65c_get_915e3, Cond.code yJx4a65c_get_915e3 cJx4a65c_get_915e3 2 (some (.object "java/lang/Object")), Cond.methodLink RJx4a65c 118 yJ15_checkIndex_7cf53, Cond.static yJ15_checkIndex_7cf53, Cond.initialized RJ15, Cond.code yJ15_checkIndex_7cf53 cJ15_checkIndex_7cf53 2 (some .int), Cond.methodLink RJ15 105 yJ3_checkIndex_8e157, Cond.static yJ3_checkIndex_8e157]
def wsX9_turn_r2 : List Cond := [Cond.initialized RJ3, Cond.code yJ3_checkIndex_8e157 cJ3_checkIndex_8e157 3 (some .int), Cond.methodLink RJx4a65c 123 yJx4a65c_elementData_915e3, Cond.instanceMethod yJx4a65c_elementData_915e3, Cond.selects RJx4a65c yJx4a65c_elementData_915e3 yJx4a65c_elementData_915e3, Cond.code yJx4a65c_elementData_915e3 cJx4a65c_elementData_915e3 2 (some (.object "java/lang/Object")), Cond.fieldLink RJx4a65c 9 "java/util/ArrayList" "elementData" "[Ljava/lang/Object;", Cond.methodLink RX9 82 yX9_refuse, Cond.instanceMethod yX9_refuse, Cond.selects RX9 yX9_refuse yX9_refuse, Cond.code yX9_refuse cX9_refuse 2 (some .int), Cond.fieldLink RX9 63 "BeetHouse" "refusals" "[I", Cond.methodLink RX9 138 yX9_mostOwed, Cond.instanceMethod yX9_mostOwed, Cond.selects RX9 yX9_mostOwed yX9_mostOwed, Cond.code yX9_mostOwed cX9_mostOwed 4 (some (.object "BeetHouse$Farmer")), Cond.fieldLink RX9 18 "BeetHouse" "plots" "Ljava/util/ArrayList;", Cond.classLink RX9 97 "BeetHouse$Plot", Cond.fieldLink RX9 41 "BeetHouse" "yard" "LBeetHouse$Yard;", Cond.methodLink RX9 274 yX9_hasRootsToSpare, Cond.instanceMethod yX9_hasRootsToSpare, Cond.selects RX9 yX9_hasRootsToSpare yX9_hasRootsToSpare, Cond.code yX9_hasRootsToSpare cX9_hasRootsToSpare 5 (some .boolean), Cond.instanceMethod yX3_isOutTo]
def wsX9_turn_r3 : List Cond := [Cond.initialized RX3, Cond.selects RX3 yX3_isOutTo yX3_isOutTo, Cond.code yX3_isOutTo cX3_isOutTo 2 (some .boolean), Cond.fieldLink RX3 9 "BeetHouse$Lorry" "state" "I", Cond.fieldLink RX3 15 "BeetHouse$Lorry" "plot" "LBeetHouse$Plot;", Cond.instanceMethod yX0_comesBefore, Cond.initialized RX0, Cond.selects RX0 yX0_comesBefore yX0_comesBefore, Cond.code yX0_comesBefore cX0_comesBefore 5 (some .boolean), Cond.fieldLink RX0 19 "BeetHouse$Farmer" "number" "I", Cond.methodLink RX0 22 yX0_claim, Cond.instanceMethod yX0_claim, Cond.selects RX0 yX0_claim yX0_claim, Cond.code yX0_claim cX0_claim 2 (some .int), Cond.fieldLink RX0 7 "BeetHouse$Farmer" "share" "I", Cond.fieldLink RX0 16 "BeetHouse$Farmer" "came" "I", Cond.methodLink RX9 142 yX9_sweetestOf, Cond.instanceMethod yX9_sweetestOf, Cond.selects RX9 yX9_sweetestOf yX9_sweetestOf, Cond.code yX9_sweetestOf cX9_sweetestOf 5 (some (.object "BeetHouse$Plot")), Cond.instanceMethod yX3_setOut, Cond.selects RX3 yX3_setOut yX3_setOut, Cond.code yX3_setOut cX3_setOut 3 none, Cond.fieldLink RX3 19 "BeetHouse$Lorry" "there" "I"]
def wsX9_turn : List Cond := .code yX9_turn cX9_turn 3 (some .int) :: ((wsX9_turn_r1 ++ (wsX9_turn_r2 ++ wsX9_turn_r3)) ++ wsX90 ++ wsX60 ++ wsX30 ++ wsJx4a65c0 ++ wsX80 ++ wsX00)
def wsX9_works : List Cond := .code yX9_works cX9_works 5 (some .int) :: ([.fieldLink RX9 41 "BeetHouse" "yard" "LBeetHouse$Yard;", .fieldLink RX9 48 "BeetHouse" "mill" "LBeetHouse$Mill;", .methodLink RX9 82 yX9_refuse, .instanceMethod yX9_refuse, .selects RX9 yX9_refuse yX9_refuse, .initialized RX9, .code yX9_refuse cX9_refuse 2 (some .int), .fieldLink RX9 63 "BeetHouse" "refusals" "[I", .methodLink RX9 86 yX9_outside, .static yX9_outside, .code yX9_outside cX9_outside 3 (some .int)] ++ wsX90 ++ wsX80 ++ wsX40)
def wsX9_put : List Cond := .code yX9_put cX9_put 8 (some .int) :: ([.methodLink RX9 82 yX9_refuse, .instanceMethod yX9_refuse, .selects RX9 yX9_refuse yX9_refuse, .initialized RX9, .code yX9_refuse cX9_refuse 2 (some .int), .fieldLink RX9 63 "BeetHouse" "refusals" "[I", .methodLink RX9 86 yX9_outside, .static yX9_outside, .code yX9_outside cX9_outside 3 (some .int)] ++ wsX90)
def wsX9_table : List Cond := .code yX9_table cX9_table 3 (some .int) :: ([.fieldLink RX9 34 "BeetHouse" "weather" "LBeetHouse$Weather;", .methodLink RX9 156 yX9_put, .instanceMethod yX9_put, .selects RX9 yX9_put yX9_put, .initialized RX9, .code yX9_put cX9_put 8 (some .int), .methodLink RX9 82 yX9_refuse, .instanceMethod yX9_refuse, .selects RX9 yX9_refuse yX9_refuse, .code yX9_refuse cX9_refuse 2 (some .int), .fieldLink RX9 63 "BeetHouse" "refusals" "[I", .methodLink RX9 86 yX9_outside, .static yX9_outside, .code yX9_outside cX9_outside 3 (some .int)] ++ wsX90 ++ wsX70)
def wsX9_warmth : List Cond := .code yX9_warmth cX9_warmth 3 (some .int) :: ([.fieldLink RX9 34 "BeetHouse" "weather" "LBeetHouse$Weather;", .methodLink RX9 156 yX9_put, .instanceMethod yX9_put, .selects RX9 yX9_put yX9_put, .initialized RX9, .code yX9_put cX9_put 8 (some .int), .methodLink RX9 82 yX9_refuse, .instanceMethod yX9_refuse, .selects RX9 yX9_refuse yX9_refuse, .code yX9_refuse cX9_refuse 2 (some .int), .fieldLink RX9 63 "BeetHouse" "refusals" "[I", .methodLink RX9 86 yX9_outside, .static yX9_outside, .code yX9_outside cX9_outside 3 (some .int)] ++ wsX90 ++ wsX70)
def wsX9_price : List Cond := .code yX9_price cX9_price 3 (some .int) :: ([.fieldLink RX9 59 "BeetHouse" "prices" "[I", .methodLink RX9 156 yX9_put, .instanceMethod yX9_put, .selects RX9 yX9_put yX9_put, .initialized RX9, .code yX9_put cX9_put 8 (some .int), .methodLink RX9 82 yX9_refuse, .instanceMethod yX9_refuse, .selects RX9 yX9_refuse yX9_refuse, .code yX9_refuse cX9_refuse 2 (some .int), .fieldLink RX9 63 "BeetHouse" "refusals" "[I", .methodLink RX9 86 yX9_outside, .static yX9_outside, .code yX9_outside cX9_outside 3 (some .int)] ++ wsX90)
def wsX9_cover_r1 : List Cond := [Cond.methodLink RX9 106 yX9_plotAt, Cond.instanceMethod yX9_plotAt, Cond.selects RX9 yX9_plotAt yX9_plotAt, Cond.initialized RX9, Cond.code yX9_plotAt cX9_plotAt 2 (some (.object "BeetHouse$Plot")), Cond.fieldLink RX9 18 "BeetHouse" "plots" "Ljava/util/ArrayList;", Cond.classLink RX9 97 "BeetHouse$Plot", Cond.methodLink RX9 93 yJx4a65c_size_8abf5, Cond.instanceMethod yJx4a65c_size_8abf5, Cond.selects RJx4a65c yJx4a65c_size_8abf5 yJx4a65c_size_8abf5, Cond.initialized RJx4a65c, Cond.code yJx4a65c_size_8abf5 cJx4a65c_size_8abf5 1 (some .int), Cond.fieldLink RJx4a65c 48 "java/util/ArrayList" "size" "I", Cond.methodLink RX9 172 yJx4a65c_get_915e3, Cond.instanceMethod yJx4a65c_get_915e3, Cond.selects RJx4a65c yJx4a65c_get_915e3 yJx4a65c_get_915e3, Cond.code yJx4a65c_get_915e3 cJx4a65c_get_915e3 2 (some (.object "java/lang/Object")), Cond.methodLink RJx4a65c 118 yJ15_checkIndex_7cf53, Cond.static yJ15_checkIndex_7cf53, Cond.initialized RJ15, Cond.code yJ15_checkIndex_7cf53 cJ15_checkIndex_7cf53 2 (some .int), Cond.methodLink RJ15 105 yJ3_checkIndex_8e157, Cond.static yJ3_checkIndex_8e157, Cond.initialized RJ3]
def wsX9_cover_r2 : List Cond := [Cond.code yJ3_checkIndex_8e157 cJ3_checkIndex_8e157 3 (some .int), Cond.methodLink RJx4a65c 123 yJx4a65c_elementData_915e3, Cond.instanceMethod yJx4a65c_elementData_915e3, Cond.selects RJx4a65c yJx4a65c_elementData_915e3 yJx4a65c_elementData_915e3, Cond.code yJx4a65c_elementData_915e3 cJx4a65c_elementData_915e3 2 (some (.object "java/lang/Object")), Cond.fieldLink RJx4a65c 9 "java/util/ArrayList" "elementData" "[Ljava/lang/Object;", Cond.methodLink RX9 82 yX9_refuse, Cond.instanceMethod yX9_refuse, Cond.selects RX9 yX9_refuse yX9_refuse, Cond.code yX9_refuse cX9_refuse 2 (some .int), Cond.fieldLink RX9 63 "BeetHouse" "refusals" "[I"]
def wsX9_cover : List Cond := .code yX9_cover cX9_cover 4 (some .int) :: ((wsX9_cover_r1 ++ wsX9_cover_r2) ++ wsX60 ++ wsX90 ++ wsJx4a65c0)
def wsX9_frost_r1 : List Cond := [Cond.fieldLink RX9 66 "BeetHouse" "freezing" "Z", Cond.fieldLink RX9 18 "BeetHouse" "plots" "Ljava/util/ArrayList;", Cond.classLink RX9 97 "BeetHouse$Plot", Cond.fieldLink RX9 70 "BeetHouse" "hour" "I", Cond.methodLink RX9 82 yX9_refuse, Cond.instanceMethod yX9_refuse, Cond.selects RX9 yX9_refuse yX9_refuse, Cond.initialized RX9, Cond.code yX9_refuse cX9_refuse 2 (some .int), Cond.fieldLink RX9 63 "BeetHouse" "refusals" "[I", Cond.methodLink RX9 93 yJx4a65c_size_8abf5, Cond.instanceMethod yJx4a65c_size_8abf5, Cond.selects RJx4a65c yJx4a65c_size_8abf5 yJx4a65c_size_8abf5, Cond.initialized RJx4a65c, Cond.code yJx4a65c_size_8abf5 cJx4a65c_size_8abf5 1 (some .int), Cond.fieldLink RJx4a65c 48 "java/util/ArrayList" "size" "I", Cond.methodLink RX9 172 yJx4a65c_get_915e3, Cond.instanceMethod yJx4a65c_get_915e3, Cond.selects RJx4a65c yJx4a65c_get_915e3 yJx4a65c_get_915e3, Cond.code yJx4a65c_get_915e3 cJx4a65c_get_915e3 2 (some (.object "java/lang/Object")), Cond.methodLink RJx4a65c 118 yJ15_checkIndex_7cf53, Cond.static yJ15_checkIndex_7cf53, Cond.initialized RJ15, Cond.code yJ15_checkIndex_7cf53 cJ15_checkIndex_7cf53 2 (some .int)]
def wsX9_frost_r2 : List Cond := [Cond.methodLink RJ15 105 yJ3_checkIndex_8e157, Cond.static yJ3_checkIndex_8e157, Cond.initialized RJ3, Cond.code yJ3_checkIndex_8e157 cJ3_checkIndex_8e157 3 (some .int), Cond.methodLink RJx4a65c 123 yJx4a65c_elementData_915e3, Cond.instanceMethod yJx4a65c_elementData_915e3, Cond.selects RJx4a65c yJx4a65c_elementData_915e3 yJx4a65c_elementData_915e3, Cond.code yJx4a65c_elementData_915e3 cJx4a65c_elementData_915e3 2 (some (.object "java/lang/Object")), Cond.fieldLink RJx4a65c 9 "java/util/ArrayList" "elementData" "[Ljava/lang/Object;", Cond.instanceMethod yX6_freeze, Cond.initialized RX6, Cond.selects RX6 yX6_freeze yX6_freeze, Cond.code yX6_freeze cX6_freeze 1 (some .boolean), Cond.fieldLink RX6 9 "BeetHouse$Plot" "roots" "I", Cond.fieldLink RX6 18 "BeetHouse$Plot" "covered" "Z", Cond.fieldLink RX6 22 "BeetHouse$Plot" "frozen" "Z", Cond.fieldLink RX6 25 "BeetHouse$Plot" "thawedSince" "I", Cond.instanceMethod yX6_thaw, Cond.selects RX6 yX6_thaw yX6_thaw, Cond.code yX6_thaw cX6_thaw 3 (some .boolean)]
def wsX9_frost : List Cond := .code yX9_frost cX9_frost 5 (some .int) :: ((wsX9_frost_r1 ++ wsX9_frost_r2) ++ wsX90 ++ wsJx4a65c0 ++ wsX60)
def wsX9_liftRoots : List Cond := .code yX9_liftRoots cX9_liftRoots 3 none :: ([.fieldLink RX9 24 "BeetHouse" "gangs" "[LBeetHouse$Gang;", .instanceMethod yX6_lift, .initialized RX6, .selects RX6 yX6_lift yX6_lift, .code yX6_lift cX6_lift 3 none, .fieldLink RX6 44 "BeetHouse$Plot" "ground" "I", .methodLink RX6 56 Lib.Math.min.name, .static Lib.Math.min.name, .initialized "java/lang/Math", .code Lib.Math.min.name Lib.Math.min.code 2 (some .int), .fieldLink RX6 9 "BeetHouse$Plot" "roots" "I", .fieldLink RX6 15 "BeetHouse$Plot" "sugar" "I", .fieldLink RX6 47 "BeetHouse$Plot" "sweet" "I"] ++ wsX90 ++ wsX10 ++ wsX60)
def wsX9_pay : List Cond := .code yX9_pay cX9_pay 3 none :: ([.methodLink RX9 323 Lib.Math.min.name, .static Lib.Math.min.name, .initialized "java/lang/Math", .code Lib.Math.min.name Lib.Math.min.code 2 (some .int), .fieldLink RX9 59 "BeetHouse" "prices" "[I"] ++ wsX20 ++ wsX60 ++ wsX00 ++ wsX90)
def wsX9_unloadOne_r1 : List Cond := [Cond.classLink RX9 243 RX2, Cond.instantiable RX2 3, Cond.initialized RX2, Cond.fieldLink RX9 41 "BeetHouse" "yard" "LBeetHouse$Yard;", Cond.instanceMethod yX2_init, Cond.code yX2_init cX2_init 4 none, Cond.methodLink RX2 1 objectInit, Cond.instanceMethod objectInit, Cond.code objectInit ⟨#[0xb1]⟩ 1 none, Cond.fieldLink RX2 7 "BeetHouse$Load" "plot" "LBeetHouse$Plot;", Cond.fieldLink RX2 13 "BeetHouse$Load" "roots" "I", Cond.fieldLink RX2 17 "BeetHouse$Load" "sugar" "I", Cond.instanceMethod yX8_take, Cond.initialized RX8, Cond.selects RX8 yX8_take yX8_take, Cond.code yX8_take cX8_take 2 none, Cond.fieldLink RX8 10 "BeetHouse$Yard" "loads" "Ljava/util/ArrayList;", Cond.fieldLink RX8 20 "BeetHouse$Yard" "roots" "I", Cond.fieldLink RX8 23 "BeetHouse$Yard" "came" "I", Cond.methodLink RX8 26 yJx4a65c_add_9ea2d, Cond.instanceMethod yJx4a65c_add_9ea2d, Cond.selects RJx4a65c yJx4a65c_add_9ea2d yJx4a65c_add_9ea2d, Cond.initialized RJx4a65c, Cond.code yJx4a65c_add_9ea2d cJx4a65c_add_9ea2d 2 (some .boolean)]
def wsX9_unloadOne_r2 : List Cond := [Cond.fieldLink RJx4a65c 63 "java/util/ArrayList" "modCount" "I", Cond.sameField "java/util/ArrayList" "java/util/AbstractList" "modCount" "I", Cond.fieldLink RJx4a65c 9 "java/util/ArrayList" "elementData" "[Ljava/lang/Object;", Cond.fieldLink RJx4a65c 48 "java/util/ArrayList" "size" "I", Cond.methodLink RJx4a65c 131 yJx4a65c_add_72be8, Cond.instanceMethod yJx4a65c_add_72be8, Cond.selects RJx4a65c yJx4a65c_add_72be8 yJx4a65c_add_72be8, Cond.code yJx4a65c_add_72be8 cJx4a65c_add_72be8 4 none, Cond.methodLink RJx4a65c 129 yJx4a65c_grow_d5877, Cond.instanceMethod yJx4a65c_grow_d5877, Cond.selects RJx4a65c yJx4a65c_grow_d5877 yJx4a65c_grow_d5877, Cond.code yJx4a65c_grow_d5877 cJx4a65c_grow_d5877 1 (some (.array (.object "java/lang/Object"))), Cond.methodLink RJx4a65c 69 yJx4a65c_grow_92f84, Cond.instanceMethod yJx4a65c_grow_92f84, Cond.selects RJx4a65c yJx4a65c_grow_92f84 yJx4a65c_grow_92f84, Cond.code yJx4a65c_grow_92f84 cJx4a65c_grow_92f84 4 (some (.array (.object "java/lang/Object"))), Cond.fieldLink RJx4a65c 39 "java/util/ArrayList" "DEFAULTCAPACITY_EMPTY_ELEMENTDATA" "[Ljava/lang/Object;", Cond.methodLink RJx4a65c 79 Lib.Math.max.name, Cond.static Lib.Math.max.name, Cond.initialized "java/lang/Math", Cond.code Lib.Math.max.name Lib.Math.max.code 2 (some .int), Cond.classLink RJx4a65c 7 "java/lang/Object", Cond.methodLink RJx4a65c 73 yJ8_newLength_cabcc, Cond.static yJ8_newLength_cabcc]
def wsX9_unloadOne_r3 : List Cond := [Cond.initialized RJ8, Cond.code yJ8_newLength_cabcc cJ8_newLength_cabcc 4 (some .int), Cond.methodLink RJ8 194 Lib.Math.max.name, Cond.constant RJ8 200 (2147483639), Cond.methodLink RJ8 201 yJ8_hugeLength_7cf53, Cond.static yJ8_hugeLength_7cf53, Cond.code yJ8_hugeLength_7cf53 cJ8_hugeLength_7cf53 3 (some .int), Cond.methodLink RJx4a65c 66 yJ7_copyOf_1904c, Cond.static yJ7_copyOf_1904c, Cond.initialized RJ7, Cond.code yJ7_copyOf_1904c cJ7_copyOf_1904c 2 (some (.array (.object "java/lang/Object"))), Cond.methodLink RJ7 86 ⟨"java/lang/Object", "getClass", "()Ljava/lang/Class;"⟩, Cond.selects "[Ljava/lang/Object;" ⟨"java/lang/Object", "getClass", "()Ljava/lang/Class;"⟩ ⟨"java/lang/Object", "getClass", "()Ljava/lang/Class;"⟩, Cond.instanceMethod ⟨"java/lang/Object", "getClass", "()Ljava/lang/Class;"⟩, Cond.native ⟨"java/lang/Object", "getClass", "()Ljava/lang/Class;"⟩, Cond.methodLink RJ7 300 yJ7_copyOf_6403c, Cond.static yJ7_copyOf_6403c, Cond.code yJ7_copyOf_6403c cJ7_copyOf_6403c 4 (some (.array (.object "java/lang/Object"))), Cond.classLink RJ7 110 "[Ljava/lang/Object;", Cond.classLink RJ7 2 "java/lang/Object", Cond.methodLink RJ7 304 Lib.Math.min.name, Cond.static Lib.Math.min.name, Cond.code Lib.Math.min.name Lib.Math.min.code 2 (some .int), Cond.methodLink RJ7 150 arraycopyName]
def wsX9_unloadOne_r4 : List Cond := [Cond.native arraycopyName, Cond.static arraycopyName, Cond.initialized "java/lang/System", Cond.methodLink RX9 317 yX9_pay, Cond.instanceMethod yX9_pay, Cond.selects RX9 yX9_pay yX9_pay, Cond.initialized RX9, Cond.code yX9_pay cX9_pay 3 none, Cond.methodLink RX9 323 Lib.Math.min.name, Cond.fieldLink RX9 59 "BeetHouse" "prices" "[I", Cond.instanceMethod yX3_comeHome, Cond.initialized RX3, Cond.selects RX3 yX3_comeHome yX3_comeHome, Cond.code yX3_comeHome cX3_comeHome 1 none, Cond.fieldLink RX3 9 "BeetHouse$Lorry" "state" "I", Cond.fieldLink RX3 15 "BeetHouse$Lorry" "plot" "LBeetHouse$Plot;", Cond.fieldLink RX3 22 "BeetHouse$Lorry" "roots" "I", Cond.fieldLink RX3 25 "BeetHouse$Lorry" "sugar" "I"]
def wsX9_unloadOne : List Cond := .code yX9_unloadOne cX9_unloadOne 3 none :: ((wsX9_unloadOne_r1 ++ (wsX9_unloadOne_r2 ++ (wsX9_unloadOne_r3 ++ wsX9_unloadOne_r4))) ++ wsX30 ++ wsX20 ++ wsX90 ++ wsX80 ++ wsX60 ++ wsX00 ++ wsJx4a65c0)
def wsX9_unloadLorries_r1 : List Cond := [Cond.fieldLink RX9 28 "BeetHouse" "lorries" "Ljava/util/ArrayList;", Cond.classLink RX9 117 "BeetHouse$Lorry", Cond.fieldLink RX9 41 "BeetHouse" "yard" "LBeetHouse$Yard;", Cond.methodLink RX9 93 yJx4a65c_size_8abf5, Cond.instanceMethod yJx4a65c_size_8abf5, Cond.selects RJx4a65c yJx4a65c_size_8abf5 yJx4a65c_size_8abf5, Cond.initialized RJx4a65c, Cond.code yJx4a65c_size_8abf5 cJx4a65c_size_8abf5 1 (some .int), Cond.fieldLink RJx4a65c 48 "java/util/ArrayList" "size" "I", Cond.methodLink RX9 172 yJx4a65c_get_915e3, Cond.instanceMethod yJx4a65c_get_915e3, Cond.selects RJx4a65c yJx4a65c_get_915e3 yJx4a65c_get_915e3, Cond.code yJx4a65c_get_915e3 cJx4a65c_get_915e3 2 (some (.object "java/lang/Object")), Cond.methodLink RJx4a65c 118 yJ15_checkIndex_7cf53, Cond.static yJ15_checkIndex_7cf53, Cond.initialized RJ15, Cond.code yJ15_checkIndex_7cf53 cJ15_checkIndex_7cf53 2 (some .int), Cond.methodLink RJ15 105 yJ3_checkIndex_8e157, Cond.static yJ3_checkIndex_8e157, Cond.initialized RJ3, Cond.code yJ3_checkIndex_8e157 cJ3_checkIndex_8e157 3 (some .int), Cond.methodLink RJx4a65c 123 yJx4a65c_elementData_915e3, Cond.instanceMethod yJx4a65c_elementData_915e3, Cond.selects RJx4a65c yJx4a65c_elementData_915e3 yJx4a65c_elementData_915e3]
def wsX9_unloadLorries_r2 : List Cond := [Cond.code yJx4a65c_elementData_915e3 cJx4a65c_elementData_915e3 2 (some (.object "java/lang/Object")), Cond.fieldLink RJx4a65c 9 "java/util/ArrayList" "elementData" "[Ljava/lang/Object;", Cond.instanceMethod yX8_hasRoomFor, Cond.initialized RX8, Cond.selects RX8 yX8_hasRoomFor yX8_hasRoomFor, Cond.code yX8_hasRoomFor cX8_hasRoomFor 2 (some .boolean), Cond.fieldLink RX8 20 "BeetHouse$Yard" "roots" "I", Cond.fieldLink RX8 16 "BeetHouse$Yard" "room" "I", Cond.methodLink RX9 306 yX9_unloadOne, Cond.instanceMethod yX9_unloadOne, Cond.selects RX9 yX9_unloadOne yX9_unloadOne, Cond.initialized RX9, Cond.code yX9_unloadOne cX9_unloadOne 3 none, Cond.classLink RX9 243 RX2, Cond.instantiable RX2 3, Cond.initialized RX2, Cond.instanceMethod yX2_init, Cond.code yX2_init cX2_init 4 none, Cond.methodLink RX2 1 objectInit, Cond.instanceMethod objectInit, Cond.code objectInit ⟨#[0xb1]⟩ 1 none, Cond.fieldLink RX2 7 "BeetHouse$Load" "plot" "LBeetHouse$Plot;", Cond.fieldLink RX2 13 "BeetHouse$Load" "roots" "I", Cond.fieldLink RX2 17 "BeetHouse$Load" "sugar" "I"]
def wsX9_unloadLorries_r3 : List Cond := [Cond.instanceMethod yX8_take, Cond.selects RX8 yX8_take yX8_take, Cond.code yX8_take cX8_take 2 none, Cond.fieldLink RX8 10 "BeetHouse$Yard" "loads" "Ljava/util/ArrayList;", Cond.fieldLink RX8 23 "BeetHouse$Yard" "came" "I", Cond.methodLink RX8 26 yJx4a65c_add_9ea2d, Cond.instanceMethod yJx4a65c_add_9ea2d, Cond.selects RJx4a65c yJx4a65c_add_9ea2d yJx4a65c_add_9ea2d, Cond.code yJx4a65c_add_9ea2d cJx4a65c_add_9ea2d 2 (some .boolean), Cond.fieldLink RJx4a65c 63 "java/util/ArrayList" "modCount" "I", Cond.sameField "java/util/ArrayList" "java/util/AbstractList" "modCount" "I", Cond.methodLink RJx4a65c 131 yJx4a65c_add_72be8, Cond.instanceMethod yJx4a65c_add_72be8, Cond.selects RJx4a65c yJx4a65c_add_72be8 yJx4a65c_add_72be8, Cond.code yJx4a65c_add_72be8 cJx4a65c_add_72be8 4 none, Cond.methodLink RJx4a65c 129 yJx4a65c_grow_d5877, Cond.instanceMethod yJx4a65c_grow_d5877, Cond.selects RJx4a65c yJx4a65c_grow_d5877 yJx4a65c_grow_d5877, Cond.code yJx4a65c_grow_d5877 cJx4a65c_grow_d5877 1 (some (.array (.object "java/lang/Object"))), Cond.methodLink RJx4a65c 69 yJx4a65c_grow_92f84, Cond.instanceMethod yJx4a65c_grow_92f84, Cond.selects RJx4a65c yJx4a65c_grow_92f84 yJx4a65c_grow_92f84, Cond.code yJx4a65c_grow_92f84 cJx4a65c_grow_92f84 4 (some (.array (.object "java/lang/Object"))), Cond.fieldLink RJx4a65c 39 "java/util/ArrayList" "DEFAULTCAPACITY_EMPTY_ELEMENTDATA" "[Ljava/lang/Object;"]
def wsX9_unloadLorries_r4 : List Cond := [Cond.methodLink RJx4a65c 79 Lib.Math.max.name, Cond.static Lib.Math.max.name, Cond.initialized "java/lang/Math", Cond.code Lib.Math.max.name Lib.Math.max.code 2 (some .int), Cond.classLink RJx4a65c 7 "java/lang/Object", Cond.methodLink RJx4a65c 73 yJ8_newLength_cabcc, Cond.static yJ8_newLength_cabcc, Cond.initialized RJ8, Cond.code yJ8_newLength_cabcc cJ8_newLength_cabcc 4 (some .int), Cond.methodLink RJ8 194 Lib.Math.max.name, Cond.constant RJ8 200 (2147483639), Cond.methodLink RJ8 201 yJ8_hugeLength_7cf53, Cond.static yJ8_hugeLength_7cf53, Cond.code yJ8_hugeLength_7cf53 cJ8_hugeLength_7cf53 3 (some .int), Cond.methodLink RJx4a65c 66 yJ7_copyOf_1904c, Cond.static yJ7_copyOf_1904c, Cond.initialized RJ7, Cond.code yJ7_copyOf_1904c cJ7_copyOf_1904c 2 (some (.array (.object "java/lang/Object"))), Cond.methodLink RJ7 86 ⟨"java/lang/Object", "getClass", "()Ljava/lang/Class;"⟩, Cond.selects "[Ljava/lang/Object;" ⟨"java/lang/Object", "getClass", "()Ljava/lang/Class;"⟩ ⟨"java/lang/Object", "getClass", "()Ljava/lang/Class;"⟩, Cond.instanceMethod ⟨"java/lang/Object", "getClass", "()Ljava/lang/Class;"⟩, Cond.native ⟨"java/lang/Object", "getClass", "()Ljava/lang/Class;"⟩, Cond.methodLink RJ7 300 yJ7_copyOf_6403c, Cond.static yJ7_copyOf_6403c]
def wsX9_unloadLorries_r5 : List Cond := [Cond.code yJ7_copyOf_6403c cJ7_copyOf_6403c 4 (some (.array (.object "java/lang/Object"))), Cond.classLink RJ7 110 "[Ljava/lang/Object;", Cond.classLink RJ7 2 "java/lang/Object", Cond.methodLink RJ7 304 Lib.Math.min.name, Cond.static Lib.Math.min.name, Cond.code Lib.Math.min.name Lib.Math.min.code 2 (some .int), Cond.methodLink RJ7 150 arraycopyName, Cond.native arraycopyName, Cond.static arraycopyName, Cond.initialized "java/lang/System", Cond.methodLink RX9 317 yX9_pay, Cond.instanceMethod yX9_pay, Cond.selects RX9 yX9_pay yX9_pay, Cond.code yX9_pay cX9_pay 3 none, Cond.methodLink RX9 323 Lib.Math.min.name, Cond.fieldLink RX9 59 "BeetHouse" "prices" "[I", Cond.instanceMethod yX3_comeHome, Cond.initialized RX3, Cond.selects RX3 yX3_comeHome yX3_comeHome, Cond.code yX3_comeHome cX3_comeHome 1 none, Cond.fieldLink RX3 9 "BeetHouse$Lorry" "state" "I", Cond.fieldLink RX3 15 "BeetHouse$Lorry" "plot" "LBeetHouse$Plot;", Cond.fieldLink RX3 22 "BeetHouse$Lorry" "roots" "I", Cond.fieldLink RX3 25 "BeetHouse$Lorry" "sugar" "I"]
def wsX9_unloadLorries : List Cond := .code yX9_unloadLorries cX9_unloadLorries 4 none :: ((wsX9_unloadLorries_r1 ++ (wsX9_unloadLorries_r2 ++ (wsX9_unloadLorries_r3 ++ (wsX9_unloadLorries_r4 ++ wsX9_unloadLorries_r5)))) ++ wsX90 ++ wsX30 ++ wsJx4a65c0 ++ wsX80 ++ wsX20 ++ wsX60 ++ wsX00)
def wsX9_wasteHeaps_r1 : List Cond := [Cond.fieldLink RX9 34 "BeetHouse" "weather" "LBeetHouse$Weather;", Cond.fieldLink RX9 70 "BeetHouse" "hour" "I", Cond.fieldLink RX9 18 "BeetHouse" "plots" "Ljava/util/ArrayList;", Cond.classLink RX9 97 "BeetHouse$Plot", Cond.instanceMethod yX7_numberOf, Cond.initialized RX7, Cond.selects RX7 yX7_numberOf yX7_numberOf, Cond.code yX7_numberOf cX7_numberOf 3 (some .int), Cond.fieldLink RX7 9 "BeetHouse$Weather" "warmths" "[I", Cond.fieldLink RX7 15 "BeetHouse$Weather" "numbers" "[I", Cond.methodLink RX9 93 yJx4a65c_size_8abf5, Cond.instanceMethod yJx4a65c_size_8abf5, Cond.selects RJx4a65c yJx4a65c_size_8abf5 yJx4a65c_size_8abf5, Cond.initialized RJx4a65c, Cond.code yJx4a65c_size_8abf5 cJx4a65c_size_8abf5 1 (some .int), Cond.fieldLink RJx4a65c 48 "java/util/ArrayList" "size" "I", Cond.methodLink RX9 172 yJx4a65c_get_915e3, Cond.instanceMethod yJx4a65c_get_915e3, Cond.selects RJx4a65c yJx4a65c_get_915e3 yJx4a65c_get_915e3, Cond.code yJx4a65c_get_915e3 cJx4a65c_get_915e3 2 (some (.object "java/lang/Object")), Cond.methodLink RJx4a65c 118 yJ15_checkIndex_7cf53, Cond.static yJ15_checkIndex_7cf53, Cond.initialized RJ15, Cond.code yJ15_checkIndex_7cf53 cJ15_checkIndex_7cf53 2 (some .int)]
def wsX9_wasteHeaps_r2 : List Cond := [Cond.methodLink RJ15 105 yJ3_checkIndex_8e157, Cond.static yJ3_checkIndex_8e157, Cond.initialized RJ3, Cond.code yJ3_checkIndex_8e157 cJ3_checkIndex_8e157 3 (some .int), Cond.methodLink RJx4a65c 123 yJx4a65c_elementData_915e3, Cond.instanceMethod yJx4a65c_elementData_915e3, Cond.selects RJx4a65c yJx4a65c_elementData_915e3 yJx4a65c_elementData_915e3, Cond.code yJx4a65c_elementData_915e3 cJx4a65c_elementData_915e3 2 (some (.object "java/lang/Object")), Cond.fieldLink RJx4a65c 9 "java/util/ArrayList" "elementData" "[Ljava/lang/Object;", Cond.instanceMethod yX6_waste, Cond.initialized RX6, Cond.selects RX6 yX6_waste yX6_waste, Cond.code yX6_waste cX6_waste 3 none, Cond.fieldLink RX6 15 "BeetHouse$Plot" "sugar" "I", Cond.fieldLink RX6 28 "BeetHouse$Plot" "wasted" "I", Cond.methodLink RX6 64 yX6_wasteOf, Cond.instanceMethod yX6_wasteOf, Cond.selects RX6 yX6_wasteOf yX6_wasteOf, Cond.code yX6_wasteOf cX6_wasteOf 4 (some .int), Cond.fieldLink RX6 22 "BeetHouse$Plot" "frozen" "Z", Cond.fieldLink RX6 25 "BeetHouse$Plot" "thawedSince" "I", Cond.methodLink RX6 56 Lib.Math.min.name, Cond.static Lib.Math.min.name, Cond.initialized "java/lang/Math"]
def wsX9_wasteHeaps_r3 : List Cond := [Cond.code Lib.Math.min.name Lib.Math.min.code 2 (some .int), Cond.fieldLink RX6 18 "BeetHouse$Plot" "covered" "Z", Cond.constantLong RX6 62 (1000)]
def wsX9_wasteHeaps : List Cond := .code yX9_wasteHeaps cX9_wasteHeaps 3 none :: ((wsX9_wasteHeaps_r1 ++ (wsX9_wasteHeaps_r2 ++ wsX9_wasteHeaps_r3)) ++ wsX90 ++ wsX70 ++ wsJx4a65c0 ++ wsX60)
def wsX9_passHour_r1 : List Cond := [Cond.fieldLink RX9 70 "BeetHouse" "hour" "I", Cond.fieldLink RX9 66 "BeetHouse" "freezing" "Z", Cond.fieldLink RX9 28 "BeetHouse" "lorries" "Ljava/util/ArrayList;", Cond.classLink RX9 117 "BeetHouse$Lorry", Cond.fieldLink RX9 48 "BeetHouse" "mill" "LBeetHouse$Mill;", Cond.fieldLink RX9 41 "BeetHouse" "yard" "LBeetHouse$Yard;", Cond.fieldLink RX9 18 "BeetHouse" "plots" "Ljava/util/ArrayList;", Cond.classLink RX9 97 "BeetHouse$Plot", Cond.methodLink RX9 281 yX9_liftRoots, Cond.instanceMethod yX9_liftRoots, Cond.selects RX9 yX9_liftRoots yX9_liftRoots, Cond.initialized RX9, Cond.code yX9_liftRoots cX9_liftRoots 3 none, Cond.fieldLink RX9 24 "BeetHouse" "gangs" "[LBeetHouse$Gang;", Cond.instanceMethod yX6_lift, Cond.initialized RX6, Cond.selects RX6 yX6_lift yX6_lift, Cond.code yX6_lift cX6_lift 3 none, Cond.fieldLink RX6 44 "BeetHouse$Plot" "ground" "I", Cond.methodLink RX6 56 Lib.Math.min.name, Cond.static Lib.Math.min.name, Cond.initialized "java/lang/Math", Cond.code Lib.Math.min.name Lib.Math.min.code 2 (some .int), Cond.fieldLink RX6 9 "BeetHouse$Plot" "roots" "I"]
def wsX9_passHour_r2 : List Cond := [Cond.fieldLink RX6 15 "BeetHouse$Plot" "sugar" "I", Cond.fieldLink RX6 47 "BeetHouse$Plot" "sweet" "I", Cond.methodLink RX9 93 yJx4a65c_size_8abf5, Cond.instanceMethod yJx4a65c_size_8abf5, Cond.selects RJx4a65c yJx4a65c_size_8abf5 yJx4a65c_size_8abf5, Cond.initialized RJx4a65c, Cond.code yJx4a65c_size_8abf5 cJx4a65c_size_8abf5 1 (some .int), Cond.fieldLink RJx4a65c 48 "java/util/ArrayList" "size" "I", Cond.methodLink RX9 172 yJx4a65c_get_915e3, Cond.instanceMethod yJx4a65c_get_915e3, Cond.selects RJx4a65c yJx4a65c_get_915e3 yJx4a65c_get_915e3, Cond.code yJx4a65c_get_915e3 cJx4a65c_get_915e3 2 (some (.object "java/lang/Object")), Cond.methodLink RJx4a65c 118 yJ15_checkIndex_7cf53, Cond.static yJ15_checkIndex_7cf53, Cond.initialized RJ15, Cond.code yJ15_checkIndex_7cf53 cJ15_checkIndex_7cf53 2 (some .int), Cond.methodLink RJ15 105 yJ3_checkIndex_8e157, Cond.static yJ3_checkIndex_8e157, Cond.initialized RJ3, Cond.code yJ3_checkIndex_8e157 cJ3_checkIndex_8e157 3 (some .int), Cond.methodLink RJx4a65c 123 yJx4a65c_elementData_915e3, Cond.instanceMethod yJx4a65c_elementData_915e3, Cond.selects RJx4a65c yJx4a65c_elementData_915e3 yJx4a65c_elementData_915e3, Cond.code yJx4a65c_elementData_915e3 cJx4a65c_elementData_915e3 2 (some (.object "java/lang/Object"))]
def wsX9_passHour_r3 : List Cond := [Cond.fieldLink RJx4a65c 9 "java/util/ArrayList" "elementData" "[Ljava/lang/Object;", Cond.instanceMethod yX3_arrive, Cond.initialized RX3, Cond.selects RX3 yX3_arrive yX3_arrive, Cond.code yX3_arrive cX3_arrive 2 none, Cond.fieldLink RX3 19 "BeetHouse$Lorry" "there" "I", Cond.fieldLink RX3 15 "BeetHouse$Lorry" "plot" "LBeetHouse$Plot;", Cond.fieldLink RX3 9 "BeetHouse$Lorry" "state" "I", Cond.methodLink RX3 42 yX3_fill, Cond.instanceMethod yX3_fill, Cond.selects RX3 yX3_fill yX3_fill, Cond.code yX3_fill cX3_fill 3 none, Cond.fieldLink RX3 34 "BeetHouse$Lorry" "capacity" "I", Cond.methodLink RX3 51 Lib.Math.min.name, Cond.fieldLink RX3 22 "BeetHouse$Lorry" "roots" "I", Cond.fieldLink RX3 25 "BeetHouse$Lorry" "sugar" "I", Cond.instanceMethod yX6_sugarIn, Cond.selects RX6 yX6_sugarIn yX6_sugarIn, Cond.code yX6_sugarIn cX6_sugarIn 2 (some .int), Cond.instanceMethod yX6_lose, Cond.selects RX6 yX6_lose yX6_lose, Cond.code yX6_lose cX6_lose 3 none, Cond.fieldLink RX6 25 "BeetHouse$Plot" "thawedSince" "I", Cond.instanceMethod yX6_wayBack]
def wsX9_passHour_r4 : List Cond := [Cond.selects RX6 yX6_wayBack yX6_wayBack, Cond.code yX6_wayBack cX6_wayBack 1 (some .int), Cond.fieldLink RX6 53 "BeetHouse$Plot" "stony" "Z", Cond.fieldLink RX6 50 "BeetHouse$Plot" "way" "I", Cond.methodLink RX9 287 yX9_unloadLorries, Cond.instanceMethod yX9_unloadLorries, Cond.selects RX9 yX9_unloadLorries yX9_unloadLorries, Cond.code yX9_unloadLorries cX9_unloadLorries 4 none, Cond.instanceMethod yX8_hasRoomFor, Cond.initialized RX8, Cond.selects RX8 yX8_hasRoomFor yX8_hasRoomFor, Cond.code yX8_hasRoomFor cX8_hasRoomFor 2 (some .boolean), Cond.fieldLink RX8 20 "BeetHouse$Yard" "roots" "I", Cond.fieldLink RX8 16 "BeetHouse$Yard" "room" "I", Cond.methodLink RX9 306 yX9_unloadOne, Cond.instanceMethod yX9_unloadOne, Cond.selects RX9 yX9_unloadOne yX9_unloadOne, Cond.code yX9_unloadOne cX9_unloadOne 3 none, Cond.classLink RX9 243 RX2, Cond.instantiable RX2 3, Cond.initialized RX2, Cond.instanceMethod yX2_init, Cond.code yX2_init cX2_init 4 none, Cond.methodLink RX2 1 objectInit]
def wsX9_passHour_r5 : List Cond := [Cond.instanceMethod objectInit, Cond.code objectInit ⟨#[0xb1]⟩ 1 none, Cond.fieldLink RX2 7 "BeetHouse$Load" "plot" "LBeetHouse$Plot;", Cond.fieldLink RX2 13 "BeetHouse$Load" "roots" "I", Cond.fieldLink RX2 17 "BeetHouse$Load" "sugar" "I", Cond.instanceMethod yX8_take, Cond.selects RX8 yX8_take yX8_take, Cond.code yX8_take cX8_take 2 none, Cond.fieldLink RX8 10 "BeetHouse$Yard" "loads" "Ljava/util/ArrayList;", Cond.fieldLink RX8 23 "BeetHouse$Yard" "came" "I", Cond.methodLink RX8 26 yJx4a65c_add_9ea2d, Cond.instanceMethod yJx4a65c_add_9ea2d, Cond.selects RJx4a65c yJx4a65c_add_9ea2d yJx4a65c_add_9ea2d, Cond.code yJx4a65c_add_9ea2d cJx4a65c_add_9ea2d 2 (some .boolean), Cond.fieldLink RJx4a65c 63 "java/util/ArrayList" "modCount" "I", Cond.sameField "java/util/ArrayList" "java/util/AbstractList" "modCount" "I", Cond.methodLink RJx4a65c 131 yJx4a65c_add_72be8, Cond.instanceMethod yJx4a65c_add_72be8, Cond.selects RJx4a65c yJx4a65c_add_72be8 yJx4a65c_add_72be8, Cond.code yJx4a65c_add_72be8 cJx4a65c_add_72be8 4 none, Cond.methodLink RJx4a65c 129 yJx4a65c_grow_d5877, Cond.instanceMethod yJx4a65c_grow_d5877, Cond.selects RJx4a65c yJx4a65c_grow_d5877 yJx4a65c_grow_d5877, Cond.code yJx4a65c_grow_d5877 cJx4a65c_grow_d5877 1 (some (.array (.object "java/lang/Object")))]
def wsX9_passHour_r6 : List Cond := [Cond.methodLink RJx4a65c 69 yJx4a65c_grow_92f84, Cond.instanceMethod yJx4a65c_grow_92f84, Cond.selects RJx4a65c yJx4a65c_grow_92f84 yJx4a65c_grow_92f84, Cond.code yJx4a65c_grow_92f84 cJx4a65c_grow_92f84 4 (some (.array (.object "java/lang/Object"))), Cond.fieldLink RJx4a65c 39 "java/util/ArrayList" "DEFAULTCAPACITY_EMPTY_ELEMENTDATA" "[Ljava/lang/Object;", Cond.methodLink RJx4a65c 79 Lib.Math.max.name, Cond.static Lib.Math.max.name, Cond.code Lib.Math.max.name Lib.Math.max.code 2 (some .int), Cond.classLink RJx4a65c 7 "java/lang/Object", Cond.methodLink RJx4a65c 73 yJ8_newLength_cabcc, Cond.static yJ8_newLength_cabcc, Cond.initialized RJ8, Cond.code yJ8_newLength_cabcc cJ8_newLength_cabcc 4 (some .int), Cond.methodLink RJ8 194 Lib.Math.max.name, Cond.constant RJ8 200 (2147483639), Cond.methodLink RJ8 201 yJ8_hugeLength_7cf53, Cond.static yJ8_hugeLength_7cf53, Cond.code yJ8_hugeLength_7cf53 cJ8_hugeLength_7cf53 3 (some .int), Cond.methodLink RJx4a65c 66 yJ7_copyOf_1904c, Cond.static yJ7_copyOf_1904c, Cond.initialized RJ7, Cond.code yJ7_copyOf_1904c cJ7_copyOf_1904c 2 (some (.array (.object "java/lang/Object"))), Cond.methodLink RJ7 86 ⟨"java/lang/Object", "getClass", "()Ljava/lang/Class;"⟩, Cond.selects "[Ljava/lang/Object;" ⟨"java/lang/Object", "getClass", "()Ljava/lang/Class;"⟩ ⟨"java/lang/Object", "getClass", "()Ljava/lang/Class;"⟩]
def wsX9_passHour_r7 : List Cond := [Cond.instanceMethod ⟨"java/lang/Object", "getClass", "()Ljava/lang/Class;"⟩, Cond.native ⟨"java/lang/Object", "getClass", "()Ljava/lang/Class;"⟩, Cond.methodLink RJ7 300 yJ7_copyOf_6403c, Cond.static yJ7_copyOf_6403c, Cond.code yJ7_copyOf_6403c cJ7_copyOf_6403c 4 (some (.array (.object "java/lang/Object"))), Cond.classLink RJ7 110 "[Ljava/lang/Object;", Cond.classLink RJ7 2 "java/lang/Object", Cond.methodLink RJ7 304 Lib.Math.min.name, Cond.methodLink RJ7 150 arraycopyName, Cond.native arraycopyName, Cond.static arraycopyName, Cond.initialized "java/lang/System", Cond.methodLink RX9 317 yX9_pay, Cond.instanceMethod yX9_pay, Cond.selects RX9 yX9_pay yX9_pay, Cond.code yX9_pay cX9_pay 3 none, Cond.methodLink RX9 323 Lib.Math.min.name, Cond.fieldLink RX9 59 "BeetHouse" "prices" "[I", Cond.instanceMethod yX3_comeHome, Cond.selects RX3 yX3_comeHome yX3_comeHome, Cond.code yX3_comeHome cX3_comeHome 1 none, Cond.instanceMethod yX4_grind, Cond.initialized RX4, Cond.selects RX4 yX4_grind yX4_grind]
def wsX9_passHour_r8 : List Cond := [Cond.code yX4_grind cX4_grind 6 none, Cond.fieldLink RX4 7 "BeetHouse$Mill" "rate" "I", Cond.classLink RX4 41 "BeetHouse$Load", Cond.methodLink RX4 56 Lib.Math.min.name, Cond.fieldLink RX4 13 "BeetHouse$Mill" "eaten" "I", Cond.fieldLink RX4 16 "BeetHouse$Mill" "sugarWon" "I", Cond.fieldLink RX4 22 "BeetHouse$Mill" "lack" "I", Cond.fieldLink RX4 19 "BeetHouse$Mill" "stood" "I", Cond.methodLink RX4 31 yJx4a65c_isEmpty_aae02, Cond.instanceMethod yJx4a65c_isEmpty_aae02, Cond.selects RJx4a65c yJx4a65c_isEmpty_aae02 yJx4a65c_isEmpty_aae02, Cond.code yJx4a65c_isEmpty_aae02 cJx4a65c_isEmpty_aae02 1 (some .boolean), Cond.methodLink RX4 37 yJx4a65c_get_915e3, Cond.instanceMethod yX6_rootsFor, Cond.selects RX6 yX6_rootsFor yX6_rootsFor, Cond.code yX6_rootsFor cX6_rootsFor 2 (some .int), Cond.instanceMethod yX6_unitsFor, Cond.selects RX6 yX6_unitsFor yX6_unitsFor, Cond.code yX6_unitsFor cX6_unitsFor 2 (some .int), Cond.methodLink RX4 69 yJx4a65c_remove_915e3, Cond.instanceMethod yJx4a65c_remove_915e3, Cond.selects RJx4a65c yJx4a65c_remove_915e3 yJx4a65c_remove_915e3, Cond.code yJx4a65c_remove_915e3 cJx4a65c_remove_915e3 4 (some (.object "java/lang/Object")), Cond.methodLink RJx4a65c 144 yJx4a65c_fastRemove_b59b0]
def wsX9_passHour_r9 : List Cond := [Cond.instanceMethod yJx4a65c_fastRemove_b59b0, Cond.selects RJx4a65c yJx4a65c_fastRemove_b59b0 yJx4a65c_fastRemove_b59b0, Cond.code yJx4a65c_fastRemove_b59b0 cJx4a65c_fastRemove_b59b0 4 none, Cond.methodLink RJx4a65c 112 arraycopyName, Cond.methodLink RX9 294 yX9_wasteHeaps, Cond.instanceMethod yX9_wasteHeaps, Cond.selects RX9 yX9_wasteHeaps yX9_wasteHeaps, Cond.code yX9_wasteHeaps cX9_wasteHeaps 3 none, Cond.fieldLink RX9 34 "BeetHouse" "weather" "LBeetHouse$Weather;", Cond.instanceMethod yX7_numberOf, Cond.initialized RX7, Cond.selects RX7 yX7_numberOf yX7_numberOf, Cond.code yX7_numberOf cX7_numberOf 3 (some .int), Cond.fieldLink RX7 9 "BeetHouse$Weather" "warmths" "[I", Cond.fieldLink RX7 15 "BeetHouse$Weather" "numbers" "[I", Cond.instanceMethod yX6_waste, Cond.selects RX6 yX6_waste yX6_waste, Cond.code yX6_waste cX6_waste 3 none, Cond.fieldLink RX6 28 "BeetHouse$Plot" "wasted" "I", Cond.methodLink RX6 64 yX6_wasteOf, Cond.instanceMethod yX6_wasteOf, Cond.selects RX6 yX6_wasteOf yX6_wasteOf, Cond.code yX6_wasteOf cX6_wasteOf 4 (some .int), Cond.fieldLink RX6 22 "BeetHouse$Plot" "frozen" "Z"]
def wsX9_passHour_r10 : List Cond := [Cond.fieldLink RX6 18 "BeetHouse$Plot" "covered" "Z", Cond.constantLong RX6 62 (1000), Cond.instanceMethod yX6_spoil, Cond.selects RX6 yX6_spoil yX6_spoil, Cond.code yX6_spoil cX6_spoil 2 none, Cond.fieldLink RX6 31 "BeetHouse$Plot" "spoiled" "I", Cond.methodLink RX6 67 yX6_lose]
def wsX9_passHour : List Cond := .code yX9_passHour cX9_passHour 2 none :: ((wsX9_passHour_r1 ++ (wsX9_passHour_r2 ++ (wsX9_passHour_r3 ++ (wsX9_passHour_r4 ++ (wsX9_passHour_r5 ++ (wsX9_passHour_r6 ++ (wsX9_passHour_r7 ++ (wsX9_passHour_r8 ++ (wsX9_passHour_r9 ++ wsX9_passHour_r10))))))))) ++ wsX90 ++ wsX10 ++ wsX60 ++ wsJx4a65c0 ++ wsX30 ++ wsX80 ++ wsX20 ++ wsX00 ++ wsX40 ++ wsX70)
def wsX9_hours_r1 : List Cond := [Cond.fieldLink RX9 70 "BeetHouse" "hour" "I", Cond.fieldLink RX9 48 "BeetHouse" "mill" "LBeetHouse$Mill;", Cond.methodLink RX9 82 yX9_refuse, Cond.instanceMethod yX9_refuse, Cond.selects RX9 yX9_refuse yX9_refuse, Cond.initialized RX9, Cond.code yX9_refuse cX9_refuse 2 (some .int), Cond.fieldLink RX9 63 "BeetHouse" "refusals" "[I", Cond.methodLink RX9 187 yX9_passHour, Cond.instanceMethod yX9_passHour, Cond.selects RX9 yX9_passHour yX9_passHour, Cond.code yX9_passHour cX9_passHour 2 none, Cond.fieldLink RX9 66 "BeetHouse" "freezing" "Z", Cond.fieldLink RX9 28 "BeetHouse" "lorries" "Ljava/util/ArrayList;", Cond.classLink RX9 117 "BeetHouse$Lorry", Cond.fieldLink RX9 41 "BeetHouse" "yard" "LBeetHouse$Yard;", Cond.fieldLink RX9 18 "BeetHouse" "plots" "Ljava/util/ArrayList;", Cond.classLink RX9 97 "BeetHouse$Plot", Cond.methodLink RX9 281 yX9_liftRoots, Cond.instanceMethod yX9_liftRoots, Cond.selects RX9 yX9_liftRoots yX9_liftRoots, Cond.code yX9_liftRoots cX9_liftRoots 3 none, Cond.fieldLink RX9 24 "BeetHouse" "gangs" "[LBeetHouse$Gang;", Cond.instanceMethod yX6_lift]
def wsX9_hours_r2 : List Cond := [Cond.initialized RX6, Cond.selects RX6 yX6_lift yX6_lift, Cond.code yX6_lift cX6_lift 3 none, Cond.fieldLink RX6 44 "BeetHouse$Plot" "ground" "I", Cond.methodLink RX6 56 Lib.Math.min.name, Cond.static Lib.Math.min.name, Cond.initialized "java/lang/Math", Cond.code Lib.Math.min.name Lib.Math.min.code 2 (some .int), Cond.fieldLink RX6 9 "BeetHouse$Plot" "roots" "I", Cond.fieldLink RX6 15 "BeetHouse$Plot" "sugar" "I", Cond.fieldLink RX6 47 "BeetHouse$Plot" "sweet" "I", Cond.methodLink RX9 93 yJx4a65c_size_8abf5, Cond.instanceMethod yJx4a65c_size_8abf5, Cond.selects RJx4a65c yJx4a65c_size_8abf5 yJx4a65c_size_8abf5, Cond.initialized RJx4a65c, Cond.code yJx4a65c_size_8abf5 cJx4a65c_size_8abf5 1 (some .int), Cond.fieldLink RJx4a65c 48 "java/util/ArrayList" "size" "I", Cond.methodLink RX9 172 yJx4a65c_get_915e3, Cond.instanceMethod yJx4a65c_get_915e3, Cond.selects RJx4a65c yJx4a65c_get_915e3 yJx4a65c_get_915e3, Cond.code yJx4a65c_get_915e3 cJx4a65c_get_915e3 2 (some (.object "java/lang/Object")), Cond.methodLink RJx4a65c 118 yJ15_checkIndex_7cf53, Cond.static yJ15_checkIndex_7cf53, Cond.initialized RJ15]
def wsX9_hours_r3 : List Cond := [Cond.code yJ15_checkIndex_7cf53 cJ15_checkIndex_7cf53 2 (some .int), Cond.methodLink RJ15 105 yJ3_checkIndex_8e157, Cond.static yJ3_checkIndex_8e157, Cond.initialized RJ3, Cond.code yJ3_checkIndex_8e157 cJ3_checkIndex_8e157 3 (some .int), Cond.methodLink RJx4a65c 123 yJx4a65c_elementData_915e3, Cond.instanceMethod yJx4a65c_elementData_915e3, Cond.selects RJx4a65c yJx4a65c_elementData_915e3 yJx4a65c_elementData_915e3, Cond.code yJx4a65c_elementData_915e3 cJx4a65c_elementData_915e3 2 (some (.object "java/lang/Object")), Cond.fieldLink RJx4a65c 9 "java/util/ArrayList" "elementData" "[Ljava/lang/Object;", Cond.instanceMethod yX3_arrive, Cond.initialized RX3, Cond.selects RX3 yX3_arrive yX3_arrive, Cond.code yX3_arrive cX3_arrive 2 none, Cond.fieldLink RX3 19 "BeetHouse$Lorry" "there" "I", Cond.fieldLink RX3 15 "BeetHouse$Lorry" "plot" "LBeetHouse$Plot;", Cond.fieldLink RX3 9 "BeetHouse$Lorry" "state" "I", Cond.methodLink RX3 42 yX3_fill, Cond.instanceMethod yX3_fill, Cond.selects RX3 yX3_fill yX3_fill, Cond.code yX3_fill cX3_fill 3 none, Cond.fieldLink RX3 34 "BeetHouse$Lorry" "capacity" "I", Cond.methodLink RX3 51 Lib.Math.min.name, Cond.fieldLink RX3 22 "BeetHouse$Lorry" "roots" "I"]
def wsX9_hours_r4 : List Cond := [Cond.fieldLink RX3 25 "BeetHouse$Lorry" "sugar" "I", Cond.instanceMethod yX6_sugarIn, Cond.selects RX6 yX6_sugarIn yX6_sugarIn, Cond.code yX6_sugarIn cX6_sugarIn 2 (some .int), Cond.instanceMethod yX6_lose, Cond.selects RX6 yX6_lose yX6_lose, Cond.code yX6_lose cX6_lose 3 none, Cond.fieldLink RX6 25 "BeetHouse$Plot" "thawedSince" "I", Cond.instanceMethod yX6_wayBack, Cond.selects RX6 yX6_wayBack yX6_wayBack, Cond.code yX6_wayBack cX6_wayBack 1 (some .int), Cond.fieldLink RX6 53 "BeetHouse$Plot" "stony" "Z", Cond.fieldLink RX6 50 "BeetHouse$Plot" "way" "I", Cond.methodLink RX9 287 yX9_unloadLorries, Cond.instanceMethod yX9_unloadLorries, Cond.selects RX9 yX9_unloadLorries yX9_unloadLorries, Cond.code yX9_unloadLorries cX9_unloadLorries 4 none, Cond.instanceMethod yX8_hasRoomFor, Cond.initialized RX8, Cond.selects RX8 yX8_hasRoomFor yX8_hasRoomFor, Cond.code yX8_hasRoomFor cX8_hasRoomFor 2 (some .boolean), Cond.fieldLink RX8 20 "BeetHouse$Yard" "roots" "I", Cond.fieldLink RX8 16 "BeetHouse$Yard" "room" "I", Cond.methodLink RX9 306 yX9_unloadOne]
def wsX9_hours_r5 : List Cond := [Cond.instanceMethod yX9_unloadOne, Cond.selects RX9 yX9_unloadOne yX9_unloadOne, Cond.code yX9_unloadOne cX9_unloadOne 3 none, Cond.classLink RX9 243 RX2, Cond.instantiable RX2 3, Cond.initialized RX2, Cond.instanceMethod yX2_init, Cond.code yX2_init cX2_init 4 none, Cond.methodLink RX2 1 objectInit, Cond.instanceMethod objectInit, Cond.code objectInit ⟨#[0xb1]⟩ 1 none, Cond.fieldLink RX2 7 "BeetHouse$Load" "plot" "LBeetHouse$Plot;", Cond.fieldLink RX2 13 "BeetHouse$Load" "roots" "I", Cond.fieldLink RX2 17 "BeetHouse$Load" "sugar" "I", Cond.instanceMethod yX8_take, Cond.selects RX8 yX8_take yX8_take, Cond.code yX8_take cX8_take 2 none, Cond.fieldLink RX8 10 "BeetHouse$Yard" "loads" "Ljava/util/ArrayList;", Cond.fieldLink RX8 23 "BeetHouse$Yard" "came" "I", Cond.methodLink RX8 26 yJx4a65c_add_9ea2d, Cond.instanceMethod yJx4a65c_add_9ea2d, Cond.selects RJx4a65c yJx4a65c_add_9ea2d yJx4a65c_add_9ea2d, Cond.code yJx4a65c_add_9ea2d cJx4a65c_add_9ea2d 2 (some .boolean), Cond.fieldLink RJx4a65c 63 "java/util/ArrayList" "modCount" "I"]
def wsX9_hours_r6 : List Cond := [Cond.sameField "java/util/ArrayList" "java/util/AbstractList" "modCount" "I", Cond.methodLink RJx4a65c 131 yJx4a65c_add_72be8, Cond.instanceMethod yJx4a65c_add_72be8, Cond.selects RJx4a65c yJx4a65c_add_72be8 yJx4a65c_add_72be8, Cond.code yJx4a65c_add_72be8 cJx4a65c_add_72be8 4 none, Cond.methodLink RJx4a65c 129 yJx4a65c_grow_d5877, Cond.instanceMethod yJx4a65c_grow_d5877, Cond.selects RJx4a65c yJx4a65c_grow_d5877 yJx4a65c_grow_d5877, Cond.code yJx4a65c_grow_d5877 cJx4a65c_grow_d5877 1 (some (.array (.object "java/lang/Object"))), Cond.methodLink RJx4a65c 69 yJx4a65c_grow_92f84, Cond.instanceMethod yJx4a65c_grow_92f84, Cond.selects RJx4a65c yJx4a65c_grow_92f84 yJx4a65c_grow_92f84, Cond.code yJx4a65c_grow_92f84 cJx4a65c_grow_92f84 4 (some (.array (.object "java/lang/Object"))), Cond.fieldLink RJx4a65c 39 "java/util/ArrayList" "DEFAULTCAPACITY_EMPTY_ELEMENTDATA" "[Ljava/lang/Object;", Cond.methodLink RJx4a65c 79 Lib.Math.max.name, Cond.static Lib.Math.max.name, Cond.code Lib.Math.max.name Lib.Math.max.code 2 (some .int), Cond.classLink RJx4a65c 7 "java/lang/Object", Cond.methodLink RJx4a65c 73 yJ8_newLength_cabcc, Cond.static yJ8_newLength_cabcc, Cond.initialized RJ8, Cond.code yJ8_newLength_cabcc cJ8_newLength_cabcc 4 (some .int), Cond.methodLink RJ8 194 Lib.Math.max.name, Cond.constant RJ8 200 (2147483639)]
def wsX9_hours_r7 : List Cond := [Cond.methodLink RJ8 201 yJ8_hugeLength_7cf53, Cond.static yJ8_hugeLength_7cf53, Cond.code yJ8_hugeLength_7cf53 cJ8_hugeLength_7cf53 3 (some .int), Cond.methodLink RJx4a65c 66 yJ7_copyOf_1904c, Cond.static yJ7_copyOf_1904c, Cond.initialized RJ7, Cond.code yJ7_copyOf_1904c cJ7_copyOf_1904c 2 (some (.array (.object "java/lang/Object"))), Cond.methodLink RJ7 86 ⟨"java/lang/Object", "getClass", "()Ljava/lang/Class;"⟩, Cond.selects "[Ljava/lang/Object;" ⟨"java/lang/Object", "getClass", "()Ljava/lang/Class;"⟩ ⟨"java/lang/Object", "getClass", "()Ljava/lang/Class;"⟩, Cond.instanceMethod ⟨"java/lang/Object", "getClass", "()Ljava/lang/Class;"⟩, Cond.native ⟨"java/lang/Object", "getClass", "()Ljava/lang/Class;"⟩, Cond.methodLink RJ7 300 yJ7_copyOf_6403c, Cond.static yJ7_copyOf_6403c, Cond.code yJ7_copyOf_6403c cJ7_copyOf_6403c 4 (some (.array (.object "java/lang/Object"))), Cond.classLink RJ7 110 "[Ljava/lang/Object;", Cond.classLink RJ7 2 "java/lang/Object", Cond.methodLink RJ7 304 Lib.Math.min.name, Cond.methodLink RJ7 150 arraycopyName, Cond.native arraycopyName, Cond.static arraycopyName, Cond.initialized "java/lang/System", Cond.methodLink RX9 317 yX9_pay, Cond.instanceMethod yX9_pay, Cond.selects RX9 yX9_pay yX9_pay]
def wsX9_hours_r8 : List Cond := [Cond.code yX9_pay cX9_pay 3 none, Cond.methodLink RX9 323 Lib.Math.min.name, Cond.fieldLink RX9 59 "BeetHouse" "prices" "[I", Cond.instanceMethod yX3_comeHome, Cond.selects RX3 yX3_comeHome yX3_comeHome, Cond.code yX3_comeHome cX3_comeHome 1 none, Cond.instanceMethod yX4_grind, Cond.initialized RX4, Cond.selects RX4 yX4_grind yX4_grind, Cond.code yX4_grind cX4_grind 6 none, Cond.fieldLink RX4 7 "BeetHouse$Mill" "rate" "I", Cond.classLink RX4 41 "BeetHouse$Load", Cond.methodLink RX4 56 Lib.Math.min.name, Cond.fieldLink RX4 13 "BeetHouse$Mill" "eaten" "I", Cond.fieldLink RX4 16 "BeetHouse$Mill" "sugarWon" "I", Cond.fieldLink RX4 22 "BeetHouse$Mill" "lack" "I", Cond.fieldLink RX4 19 "BeetHouse$Mill" "stood" "I", Cond.methodLink RX4 31 yJx4a65c_isEmpty_aae02, Cond.instanceMethod yJx4a65c_isEmpty_aae02, Cond.selects RJx4a65c yJx4a65c_isEmpty_aae02 yJx4a65c_isEmpty_aae02, Cond.code yJx4a65c_isEmpty_aae02 cJx4a65c_isEmpty_aae02 1 (some .boolean), Cond.methodLink RX4 37 yJx4a65c_get_915e3, Cond.instanceMethod yX6_rootsFor, Cond.selects RX6 yX6_rootsFor yX6_rootsFor]
def wsX9_hours_r9 : List Cond := [Cond.code yX6_rootsFor cX6_rootsFor 2 (some .int), Cond.instanceMethod yX6_unitsFor, Cond.selects RX6 yX6_unitsFor yX6_unitsFor, Cond.code yX6_unitsFor cX6_unitsFor 2 (some .int), Cond.methodLink RX4 69 yJx4a65c_remove_915e3, Cond.instanceMethod yJx4a65c_remove_915e3, Cond.selects RJx4a65c yJx4a65c_remove_915e3 yJx4a65c_remove_915e3, Cond.code yJx4a65c_remove_915e3 cJx4a65c_remove_915e3 4 (some (.object "java/lang/Object")), Cond.methodLink RJx4a65c 144 yJx4a65c_fastRemove_b59b0, Cond.instanceMethod yJx4a65c_fastRemove_b59b0, Cond.selects RJx4a65c yJx4a65c_fastRemove_b59b0 yJx4a65c_fastRemove_b59b0, Cond.code yJx4a65c_fastRemove_b59b0 cJx4a65c_fastRemove_b59b0 4 none, Cond.methodLink RJx4a65c 112 arraycopyName, Cond.methodLink RX9 294 yX9_wasteHeaps, Cond.instanceMethod yX9_wasteHeaps, Cond.selects RX9 yX9_wasteHeaps yX9_wasteHeaps, Cond.code yX9_wasteHeaps cX9_wasteHeaps 3 none, Cond.fieldLink RX9 34 "BeetHouse" "weather" "LBeetHouse$Weather;", Cond.instanceMethod yX7_numberOf, Cond.initialized RX7, Cond.selects RX7 yX7_numberOf yX7_numberOf, Cond.code yX7_numberOf cX7_numberOf 3 (some .int), Cond.fieldLink RX7 9 "BeetHouse$Weather" "warmths" "[I", Cond.fieldLink RX7 15 "BeetHouse$Weather" "numbers" "[I"]
def wsX9_hours_r10 : List Cond := [Cond.instanceMethod yX6_waste, Cond.selects RX6 yX6_waste yX6_waste, Cond.code yX6_waste cX6_waste 3 none, Cond.fieldLink RX6 28 "BeetHouse$Plot" "wasted" "I", Cond.methodLink RX6 64 yX6_wasteOf, Cond.instanceMethod yX6_wasteOf, Cond.selects RX6 yX6_wasteOf yX6_wasteOf, Cond.code yX6_wasteOf cX6_wasteOf 4 (some .int), Cond.fieldLink RX6 22 "BeetHouse$Plot" "frozen" "Z", Cond.fieldLink RX6 18 "BeetHouse$Plot" "covered" "Z", Cond.constantLong RX6 62 (1000), Cond.instanceMethod yX6_spoil, Cond.selects RX6 yX6_spoil yX6_spoil, Cond.code yX6_spoil cX6_spoil 2 none, Cond.fieldLink RX6 31 "BeetHouse$Plot" "spoiled" "I", Cond.methodLink RX6 67 yX6_lose]
def wsX9_hours : List Cond := .code yX9_hours cX9_hours 4 (some .int) :: ((wsX9_hours_r1 ++ (wsX9_hours_r2 ++ (wsX9_hours_r3 ++ (wsX9_hours_r4 ++ (wsX9_hours_r5 ++ (wsX9_hours_r6 ++ (wsX9_hours_r7 ++ (wsX9_hours_r8 ++ (wsX9_hours_r9 ++ wsX9_hours_r10))))))))) ++ wsX90 ++ wsX40 ++ wsX10 ++ wsX60 ++ wsJx4a65c0 ++ wsX30 ++ wsX80 ++ wsX20 ++ wsX00 ++ wsX70)
def wsX9_owed : List Cond := .code yX9_owed cX9_owed 3 (some .int) :: ([.constant RX9 190 (1000000000), .fieldLink RX9 41 "BeetHouse" "yard" "LBeetHouse$Yard;", .methodLink RX9 78 yX9_farmerAt, .instanceMethod yX9_farmerAt, .selects RX9 yX9_farmerAt yX9_farmerAt, .initialized RX9, .code yX9_farmerAt cX9_farmerAt 2 (some (.object "BeetHouse$Farmer")), .fieldLink RX9 11 "BeetHouse" "farmers" "[LBeetHouse$Farmer;", .methodLink RX9 82 yX9_refuse, .instanceMethod yX9_refuse, .selects RX9 yX9_refuse yX9_refuse, .code yX9_refuse cX9_refuse 2 (some .int), .fieldLink RX9 63 "BeetHouse" "refusals" "[I", .instanceMethod yX0_claim, .initialized RX0, .selects RX0 yX0_claim yX0_claim, .code yX0_claim cX0_claim 2 (some .int), .fieldLink RX0 7 "BeetHouse$Farmer" "share" "I", .fieldLink RX0 16 "BeetHouse$Farmer" "came" "I"] ++ wsX90 ++ wsX80 ++ wsX00)
def wsX9_next_r1 : List Cond := [Cond.methodLink RX9 138 yX9_mostOwed, Cond.instanceMethod yX9_mostOwed, Cond.selects RX9 yX9_mostOwed yX9_mostOwed, Cond.initialized RX9, Cond.code yX9_mostOwed cX9_mostOwed 4 (some (.object "BeetHouse$Farmer")), Cond.fieldLink RX9 18 "BeetHouse" "plots" "Ljava/util/ArrayList;", Cond.classLink RX9 97 "BeetHouse$Plot", Cond.fieldLink RX9 41 "BeetHouse" "yard" "LBeetHouse$Yard;", Cond.methodLink RX9 93 yJx4a65c_size_8abf5, Cond.instanceMethod yJx4a65c_size_8abf5, Cond.selects RJx4a65c yJx4a65c_size_8abf5 yJx4a65c_size_8abf5, Cond.initialized RJx4a65c, Cond.code yJx4a65c_size_8abf5 cJx4a65c_size_8abf5 1 (some .int), Cond.fieldLink RJx4a65c 48 "java/util/ArrayList" "size" "I", Cond.methodLink RX9 172 yJx4a65c_get_915e3, Cond.instanceMethod yJx4a65c_get_915e3, Cond.selects RJx4a65c yJx4a65c_get_915e3 yJx4a65c_get_915e3, Cond.code yJx4a65c_get_915e3 cJx4a65c_get_915e3 2 (some (.object "java/lang/Object")), Cond.methodLink RJx4a65c 118 yJ15_checkIndex_7cf53, Cond.static yJ15_checkIndex_7cf53, Cond.initialized RJ15, Cond.code yJ15_checkIndex_7cf53 cJ15_checkIndex_7cf53 2 (some .int), Cond.methodLink RJ15 105 yJ3_checkIndex_8e157, Cond.static yJ3_checkIndex_8e157]
def wsX9_next_r2 : List Cond := [Cond.initialized RJ3, Cond.code yJ3_checkIndex_8e157 cJ3_checkIndex_8e157 3 (some .int), Cond.methodLink RJx4a65c 123 yJx4a65c_elementData_915e3, Cond.instanceMethod yJx4a65c_elementData_915e3, Cond.selects RJx4a65c yJx4a65c_elementData_915e3 yJx4a65c_elementData_915e3, Cond.code yJx4a65c_elementData_915e3 cJx4a65c_elementData_915e3 2 (some (.object "java/lang/Object")), Cond.fieldLink RJx4a65c 9 "java/util/ArrayList" "elementData" "[Ljava/lang/Object;", Cond.methodLink RX9 274 yX9_hasRootsToSpare, Cond.instanceMethod yX9_hasRootsToSpare, Cond.selects RX9 yX9_hasRootsToSpare yX9_hasRootsToSpare, Cond.code yX9_hasRootsToSpare cX9_hasRootsToSpare 5 (some .boolean), Cond.fieldLink RX9 28 "BeetHouse" "lorries" "Ljava/util/ArrayList;", Cond.classLink RX9 117 "BeetHouse$Lorry", Cond.instanceMethod yX3_isOutTo, Cond.initialized RX3, Cond.selects RX3 yX3_isOutTo yX3_isOutTo, Cond.code yX3_isOutTo cX3_isOutTo 2 (some .boolean), Cond.fieldLink RX3 9 "BeetHouse$Lorry" "state" "I", Cond.fieldLink RX3 15 "BeetHouse$Lorry" "plot" "LBeetHouse$Plot;", Cond.instanceMethod yX0_comesBefore, Cond.initialized RX0, Cond.selects RX0 yX0_comesBefore yX0_comesBefore, Cond.code yX0_comesBefore cX0_comesBefore 5 (some .boolean), Cond.fieldLink RX0 19 "BeetHouse$Farmer" "number" "I"]
def wsX9_next_r3 : List Cond := [Cond.methodLink RX0 22 yX0_claim, Cond.instanceMethod yX0_claim, Cond.selects RX0 yX0_claim yX0_claim, Cond.code yX0_claim cX0_claim 2 (some .int), Cond.fieldLink RX0 7 "BeetHouse$Farmer" "share" "I", Cond.fieldLink RX0 16 "BeetHouse$Farmer" "came" "I"]
def wsX9_next : List Cond := .code yX9_next cX9_next 2 (some .int) :: ((wsX9_next_r1 ++ (wsX9_next_r2 ++ wsX9_next_r3)) ++ wsX00 ++ wsX90 ++ wsX60 ++ wsX80 ++ wsJx4a65c0 ++ wsX30)
def wsX9_findOrder_r1 : List Cond := [Cond.fieldLink RX9 55 "BeetHouse" "orders" "LBeetHouse$Orders;", Cond.fieldLink RX9 70 "BeetHouse" "hour" "I", Cond.fieldLink RX9 48 "BeetHouse" "mill" "LBeetHouse$Mill;", Cond.fieldLink RX9 18 "BeetHouse" "plots" "Ljava/util/ArrayList;", Cond.classLink RX9 97 "BeetHouse$Plot", Cond.fieldLink RX9 34 "BeetHouse" "weather" "LBeetHouse$Weather;", Cond.instanceMethod yX5_clear, Cond.initialized RX5, Cond.selects RX5 yX5_clear yX5_clear, Cond.code yX5_clear cX5_clear 2 none, Cond.fieldLink RX5 29 "BeetHouse$Orders" "size" "I", Cond.fieldLink RX5 33 "BeetHouse$Orders" "now" "I", Cond.fieldLink RX5 20 "BeetHouse$Orders" "begins" "[I", Cond.methodLink RX9 93 yJx4a65c_size_8abf5, Cond.instanceMethod yJx4a65c_size_8abf5, Cond.selects RJx4a65c yJx4a65c_size_8abf5 yJx4a65c_size_8abf5, Cond.initialized RJx4a65c, Cond.code yJx4a65c_size_8abf5 cJx4a65c_size_8abf5 1 (some .int), Cond.fieldLink RJx4a65c 48 "java/util/ArrayList" "size" "I", Cond.methodLink RX9 172 yJx4a65c_get_915e3, Cond.instanceMethod yJx4a65c_get_915e3, Cond.selects RJx4a65c yJx4a65c_get_915e3 yJx4a65c_get_915e3, Cond.code yJx4a65c_get_915e3 cJx4a65c_get_915e3 2 (some (.object "java/lang/Object")), Cond.methodLink RJx4a65c 118 yJ15_checkIndex_7cf53]
def wsX9_findOrder_r2 : List Cond := [Cond.static yJ15_checkIndex_7cf53, Cond.initialized RJ15, Cond.code yJ15_checkIndex_7cf53 cJ15_checkIndex_7cf53 2 (some .int), Cond.methodLink RJ15 105 yJ3_checkIndex_8e157, Cond.static yJ3_checkIndex_8e157, Cond.initialized RJ3, Cond.code yJ3_checkIndex_8e157 cJ3_checkIndex_8e157 3 (some .int), Cond.methodLink RJx4a65c 123 yJx4a65c_elementData_915e3, Cond.instanceMethod yJx4a65c_elementData_915e3, Cond.selects RJx4a65c yJx4a65c_elementData_915e3 yJx4a65c_elementData_915e3, Cond.code yJx4a65c_elementData_915e3 cJx4a65c_elementData_915e3 2 (some (.object "java/lang/Object")), Cond.fieldLink RJx4a65c 9 "java/util/ArrayList" "elementData" "[Ljava/lang/Object;", Cond.instanceMethod yX5_add, Cond.selects RX5 yX5_add yX5_add, Cond.code yX5_add cX5_add 7 (some .boolean), Cond.fieldLink RX5 9 "BeetHouse$Orders" "numbers" "[I", Cond.fieldLink RX5 17 "BeetHouse$Orders" "wasteByEnds" "[[I", Cond.methodLink RX5 41 yX5_foresee, Cond.instanceMethod yX5_foresee, Cond.selects RX5 yX5_foresee yX5_foresee, Cond.code yX5_foresee cX5_foresee 7 none, Cond.instanceMethod yX7_numberOf, Cond.initialized RX7, Cond.selects RX7 yX7_numberOf yX7_numberOf]
def wsX9_findOrder_r3 : List Cond := [Cond.code yX7_numberOf cX7_numberOf 3 (some .int), Cond.fieldLink RX7 9 "BeetHouse$Weather" "warmths" "[I", Cond.fieldLink RX7 15 "BeetHouse$Weather" "numbers" "[I", Cond.instanceMethod yX6_wasteOf, Cond.initialized RX6, Cond.selects RX6 yX6_wasteOf yX6_wasteOf, Cond.code yX6_wasteOf cX6_wasteOf 4 (some .int), Cond.fieldLink RX6 22 "BeetHouse$Plot" "frozen" "Z", Cond.fieldLink RX6 25 "BeetHouse$Plot" "thawedSince" "I", Cond.methodLink RX6 56 Lib.Math.min.name, Cond.static Lib.Math.min.name, Cond.initialized "java/lang/Math", Cond.code Lib.Math.min.name Lib.Math.min.code 2 (some .int), Cond.fieldLink RX6 18 "BeetHouse$Plot" "covered" "Z", Cond.constantLong RX6 62 (1000), Cond.instanceMethod yX6_unitsFor, Cond.selects RX6 yX6_unitsFor yX6_unitsFor, Cond.code yX6_unitsFor cX6_unitsFor 2 (some .int), Cond.fieldLink RX6 53 "BeetHouse$Plot" "stony" "Z", Cond.instanceMethod yX5_search, Cond.selects RX5 yX5_search yX5_search, Cond.code yX5_search cX5_search 3 none, Cond.fieldLink RX5 23 "BeetHouse$Orders" "leastAfter" "[I", Cond.methodLink RX5 64 yX5_choose]
def wsX9_findOrder_r4 : List Cond := [Cond.instanceMethod yX5_choose, Cond.selects RX5 yX5_choose yX5_choose, Cond.code yX5_choose cX5_choose 8 none, Cond.methodLink RX5 68 Lib.Math.min.name, Cond.constant RX5 75 (2147483647), Cond.fieldLink RX5 26 "BeetHouse$Orders" "chosenAfter" "[I"]
def wsX9_findOrder : List Cond := .code yX9_findOrder cX9_findOrder 3 (some .boolean) :: ((wsX9_findOrder_r1 ++ (wsX9_findOrder_r2 ++ (wsX9_findOrder_r3 ++ wsX9_findOrder_r4))) ++ wsX90 ++ wsX40 ++ wsX60 ++ wsX50 ++ wsJx4a65c0 ++ wsX70)
def wsX9_best_r1 : List Cond := [Cond.fieldLink RX9 55 "BeetHouse" "orders" "LBeetHouse$Orders;", Cond.methodLink RX9 198 yX9_findOrder, Cond.instanceMethod yX9_findOrder, Cond.selects RX9 yX9_findOrder yX9_findOrder, Cond.initialized RX9, Cond.code yX9_findOrder cX9_findOrder 3 (some .boolean), Cond.fieldLink RX9 70 "BeetHouse" "hour" "I", Cond.fieldLink RX9 48 "BeetHouse" "mill" "LBeetHouse$Mill;", Cond.fieldLink RX9 18 "BeetHouse" "plots" "Ljava/util/ArrayList;", Cond.classLink RX9 97 "BeetHouse$Plot", Cond.fieldLink RX9 34 "BeetHouse" "weather" "LBeetHouse$Weather;", Cond.instanceMethod yX5_clear, Cond.initialized RX5, Cond.selects RX5 yX5_clear yX5_clear, Cond.code yX5_clear cX5_clear 2 none, Cond.fieldLink RX5 29 "BeetHouse$Orders" "size" "I", Cond.fieldLink RX5 33 "BeetHouse$Orders" "now" "I", Cond.fieldLink RX5 20 "BeetHouse$Orders" "begins" "[I", Cond.methodLink RX9 93 yJx4a65c_size_8abf5, Cond.instanceMethod yJx4a65c_size_8abf5, Cond.selects RJx4a65c yJx4a65c_size_8abf5 yJx4a65c_size_8abf5, Cond.initialized RJx4a65c, Cond.code yJx4a65c_size_8abf5 cJx4a65c_size_8abf5 1 (some .int), Cond.fieldLink RJx4a65c 48 "java/util/ArrayList" "size" "I"]
def wsX9_best_r2 : List Cond := [Cond.methodLink RX9 172 yJx4a65c_get_915e3, Cond.instanceMethod yJx4a65c_get_915e3, Cond.selects RJx4a65c yJx4a65c_get_915e3 yJx4a65c_get_915e3, Cond.code yJx4a65c_get_915e3 cJx4a65c_get_915e3 2 (some (.object "java/lang/Object")), Cond.methodLink RJx4a65c 118 yJ15_checkIndex_7cf53, Cond.static yJ15_checkIndex_7cf53, Cond.initialized RJ15, Cond.code yJ15_checkIndex_7cf53 cJ15_checkIndex_7cf53 2 (some .int), Cond.methodLink RJ15 105 yJ3_checkIndex_8e157, Cond.static yJ3_checkIndex_8e157, Cond.initialized RJ3, Cond.code yJ3_checkIndex_8e157 cJ3_checkIndex_8e157 3 (some .int), Cond.methodLink RJx4a65c 123 yJx4a65c_elementData_915e3, Cond.instanceMethod yJx4a65c_elementData_915e3, Cond.selects RJx4a65c yJx4a65c_elementData_915e3 yJx4a65c_elementData_915e3, Cond.code yJx4a65c_elementData_915e3 cJx4a65c_elementData_915e3 2 (some (.object "java/lang/Object")), Cond.fieldLink RJx4a65c 9 "java/util/ArrayList" "elementData" "[Ljava/lang/Object;", Cond.instanceMethod yX5_add, Cond.selects RX5 yX5_add yX5_add, Cond.code yX5_add cX5_add 7 (some .boolean), Cond.fieldLink RX5 9 "BeetHouse$Orders" "numbers" "[I", Cond.fieldLink RX5 17 "BeetHouse$Orders" "wasteByEnds" "[[I", Cond.methodLink RX5 41 yX5_foresee, Cond.instanceMethod yX5_foresee]
def wsX9_best_r3 : List Cond := [Cond.selects RX5 yX5_foresee yX5_foresee, Cond.code yX5_foresee cX5_foresee 7 none, Cond.instanceMethod yX7_numberOf, Cond.initialized RX7, Cond.selects RX7 yX7_numberOf yX7_numberOf, Cond.code yX7_numberOf cX7_numberOf 3 (some .int), Cond.fieldLink RX7 9 "BeetHouse$Weather" "warmths" "[I", Cond.fieldLink RX7 15 "BeetHouse$Weather" "numbers" "[I", Cond.instanceMethod yX6_wasteOf, Cond.initialized RX6, Cond.selects RX6 yX6_wasteOf yX6_wasteOf, Cond.code yX6_wasteOf cX6_wasteOf 4 (some .int), Cond.fieldLink RX6 22 "BeetHouse$Plot" "frozen" "Z", Cond.fieldLink RX6 25 "BeetHouse$Plot" "thawedSince" "I", Cond.methodLink RX6 56 Lib.Math.min.name, Cond.static Lib.Math.min.name, Cond.initialized "java/lang/Math", Cond.code Lib.Math.min.name Lib.Math.min.code 2 (some .int), Cond.fieldLink RX6 18 "BeetHouse$Plot" "covered" "Z", Cond.constantLong RX6 62 (1000), Cond.instanceMethod yX6_unitsFor, Cond.selects RX6 yX6_unitsFor yX6_unitsFor, Cond.code yX6_unitsFor cX6_unitsFor 2 (some .int), Cond.fieldLink RX6 53 "BeetHouse$Plot" "stony" "Z"]
def wsX9_best_r4 : List Cond := [Cond.instanceMethod yX5_search, Cond.selects RX5 yX5_search yX5_search, Cond.code yX5_search cX5_search 3 none, Cond.fieldLink RX5 23 "BeetHouse$Orders" "leastAfter" "[I", Cond.methodLink RX5 64 yX5_choose, Cond.instanceMethod yX5_choose, Cond.selects RX5 yX5_choose yX5_choose, Cond.code yX5_choose cX5_choose 8 none, Cond.methodLink RX5 68 Lib.Math.min.name, Cond.constant RX5 75 (2147483647), Cond.fieldLink RX5 26 "BeetHouse$Orders" "chosenAfter" "[I", Cond.methodLink RX9 82 yX9_refuse, Cond.instanceMethod yX9_refuse, Cond.selects RX9 yX9_refuse yX9_refuse, Cond.code yX9_refuse cX9_refuse 2 (some .int), Cond.fieldLink RX9 63 "BeetHouse" "refusals" "[I", Cond.instanceMethod yX5_leastWaste, Cond.selects RX5 yX5_leastWaste yX5_leastWaste, Cond.code yX5_leastWaste cX5_leastWaste 1 (some .int)]
def wsX9_best : List Cond := .code yX9_best cX9_best 1 (some .int) :: ((wsX9_best_r1 ++ (wsX9_best_r2 ++ (wsX9_best_r3 ++ wsX9_best_r4))) ++ wsX90 ++ wsX40 ++ wsX60 ++ wsX50 ++ wsJx4a65c0 ++ wsX70)
def wsX9_order_r1 : List Cond := [Cond.fieldLink RX9 55 "BeetHouse" "orders" "LBeetHouse$Orders;", Cond.methodLink RX9 198 yX9_findOrder, Cond.instanceMethod yX9_findOrder, Cond.selects RX9 yX9_findOrder yX9_findOrder, Cond.initialized RX9, Cond.code yX9_findOrder cX9_findOrder 3 (some .boolean), Cond.fieldLink RX9 70 "BeetHouse" "hour" "I", Cond.fieldLink RX9 48 "BeetHouse" "mill" "LBeetHouse$Mill;", Cond.fieldLink RX9 18 "BeetHouse" "plots" "Ljava/util/ArrayList;", Cond.classLink RX9 97 "BeetHouse$Plot", Cond.fieldLink RX9 34 "BeetHouse" "weather" "LBeetHouse$Weather;", Cond.instanceMethod yX5_clear, Cond.initialized RX5, Cond.selects RX5 yX5_clear yX5_clear, Cond.code yX5_clear cX5_clear 2 none, Cond.fieldLink RX5 29 "BeetHouse$Orders" "size" "I", Cond.fieldLink RX5 33 "BeetHouse$Orders" "now" "I", Cond.fieldLink RX5 20 "BeetHouse$Orders" "begins" "[I", Cond.methodLink RX9 93 yJx4a65c_size_8abf5, Cond.instanceMethod yJx4a65c_size_8abf5, Cond.selects RJx4a65c yJx4a65c_size_8abf5 yJx4a65c_size_8abf5, Cond.initialized RJx4a65c, Cond.code yJx4a65c_size_8abf5 cJx4a65c_size_8abf5 1 (some .int), Cond.fieldLink RJx4a65c 48 "java/util/ArrayList" "size" "I"]
def wsX9_order_r2 : List Cond := [Cond.methodLink RX9 172 yJx4a65c_get_915e3, Cond.instanceMethod yJx4a65c_get_915e3, Cond.selects RJx4a65c yJx4a65c_get_915e3 yJx4a65c_get_915e3, Cond.code yJx4a65c_get_915e3 cJx4a65c_get_915e3 2 (some (.object "java/lang/Object")), Cond.methodLink RJx4a65c 118 yJ15_checkIndex_7cf53, Cond.static yJ15_checkIndex_7cf53, Cond.initialized RJ15, Cond.code yJ15_checkIndex_7cf53 cJ15_checkIndex_7cf53 2 (some .int), Cond.methodLink RJ15 105 yJ3_checkIndex_8e157, Cond.static yJ3_checkIndex_8e157, Cond.initialized RJ3, Cond.code yJ3_checkIndex_8e157 cJ3_checkIndex_8e157 3 (some .int), Cond.methodLink RJx4a65c 123 yJx4a65c_elementData_915e3, Cond.instanceMethod yJx4a65c_elementData_915e3, Cond.selects RJx4a65c yJx4a65c_elementData_915e3 yJx4a65c_elementData_915e3, Cond.code yJx4a65c_elementData_915e3 cJx4a65c_elementData_915e3 2 (some (.object "java/lang/Object")), Cond.fieldLink RJx4a65c 9 "java/util/ArrayList" "elementData" "[Ljava/lang/Object;", Cond.instanceMethod yX5_add, Cond.selects RX5 yX5_add yX5_add, Cond.code yX5_add cX5_add 7 (some .boolean), Cond.fieldLink RX5 9 "BeetHouse$Orders" "numbers" "[I", Cond.fieldLink RX5 17 "BeetHouse$Orders" "wasteByEnds" "[[I", Cond.methodLink RX5 41 yX5_foresee, Cond.instanceMethod yX5_foresee]
def wsX9_order_r3 : List Cond := [Cond.selects RX5 yX5_foresee yX5_foresee, Cond.code yX5_foresee cX5_foresee 7 none, Cond.instanceMethod yX7_numberOf, Cond.initialized RX7, Cond.selects RX7 yX7_numberOf yX7_numberOf, Cond.code yX7_numberOf cX7_numberOf 3 (some .int), Cond.fieldLink RX7 9 "BeetHouse$Weather" "warmths" "[I", Cond.fieldLink RX7 15 "BeetHouse$Weather" "numbers" "[I", Cond.instanceMethod yX6_wasteOf, Cond.initialized RX6, Cond.selects RX6 yX6_wasteOf yX6_wasteOf, Cond.code yX6_wasteOf cX6_wasteOf 4 (some .int), Cond.fieldLink RX6 22 "BeetHouse$Plot" "frozen" "Z", Cond.fieldLink RX6 25 "BeetHouse$Plot" "thawedSince" "I", Cond.methodLink RX6 56 Lib.Math.min.name, Cond.static Lib.Math.min.name, Cond.initialized "java/lang/Math", Cond.code Lib.Math.min.name Lib.Math.min.code 2 (some .int), Cond.fieldLink RX6 18 "BeetHouse$Plot" "covered" "Z", Cond.constantLong RX6 62 (1000), Cond.instanceMethod yX6_unitsFor, Cond.selects RX6 yX6_unitsFor yX6_unitsFor, Cond.code yX6_unitsFor cX6_unitsFor 2 (some .int), Cond.fieldLink RX6 53 "BeetHouse$Plot" "stony" "Z"]
def wsX9_order_r4 : List Cond := [Cond.instanceMethod yX5_search, Cond.selects RX5 yX5_search yX5_search, Cond.code yX5_search cX5_search 3 none, Cond.fieldLink RX5 23 "BeetHouse$Orders" "leastAfter" "[I", Cond.methodLink RX5 64 yX5_choose, Cond.instanceMethod yX5_choose, Cond.selects RX5 yX5_choose yX5_choose, Cond.code yX5_choose cX5_choose 8 none, Cond.methodLink RX5 68 Lib.Math.min.name, Cond.constant RX5 75 (2147483647), Cond.fieldLink RX5 26 "BeetHouse$Orders" "chosenAfter" "[I", Cond.methodLink RX9 82 yX9_refuse, Cond.instanceMethod yX9_refuse, Cond.selects RX9 yX9_refuse yX9_refuse, Cond.code yX9_refuse cX9_refuse 2 (some .int), Cond.fieldLink RX9 63 "BeetHouse" "refusals" "[I", Cond.instanceMethod yX5_plotAtPlace, Cond.selects RX5 yX5_plotAtPlace yX5_plotAtPlace, Cond.code yX5_plotAtPlace cX5_plotAtPlace 4 (some .int)]
def wsX9_order : List Cond := .code yX9_order cX9_order 2 (some .int) :: ((wsX9_order_r1 ++ (wsX9_order_r2 ++ (wsX9_order_r3 ++ wsX9_order_r4))) ++ wsX90 ++ wsX40 ++ wsX60 ++ wsX50 ++ wsJx4a65c0 ++ wsX70)
def wsX9_lorriesOutTo_r1 : List Cond := [Cond.fieldLink RX9 28 "BeetHouse" "lorries" "Ljava/util/ArrayList;", Cond.classLink RX9 117 "BeetHouse$Lorry", Cond.methodLink RX9 93 yJx4a65c_size_8abf5, Cond.instanceMethod yJx4a65c_size_8abf5, Cond.selects RJx4a65c yJx4a65c_size_8abf5 yJx4a65c_size_8abf5, Cond.initialized RJx4a65c, Cond.code yJx4a65c_size_8abf5 cJx4a65c_size_8abf5 1 (some .int), Cond.fieldLink RJx4a65c 48 "java/util/ArrayList" "size" "I", Cond.methodLink RX9 172 yJx4a65c_get_915e3, Cond.instanceMethod yJx4a65c_get_915e3, Cond.selects RJx4a65c yJx4a65c_get_915e3 yJx4a65c_get_915e3, Cond.code yJx4a65c_get_915e3 cJx4a65c_get_915e3 2 (some (.object "java/lang/Object")), Cond.methodLink RJx4a65c 118 yJ15_checkIndex_7cf53, Cond.static yJ15_checkIndex_7cf53, Cond.initialized RJ15, Cond.code yJ15_checkIndex_7cf53 cJ15_checkIndex_7cf53 2 (some .int), Cond.methodLink RJ15 105 yJ3_checkIndex_8e157, Cond.static yJ3_checkIndex_8e157, Cond.initialized RJ3, Cond.code yJ3_checkIndex_8e157 cJ3_checkIndex_8e157 3 (some .int), Cond.methodLink RJx4a65c 123 yJx4a65c_elementData_915e3, Cond.instanceMethod yJx4a65c_elementData_915e3, Cond.selects RJx4a65c yJx4a65c_elementData_915e3 yJx4a65c_elementData_915e3, Cond.code yJx4a65c_elementData_915e3 cJx4a65c_elementData_915e3 2 (some (.object "java/lang/Object"))]
def wsX9_lorriesOutTo_r2 : List Cond := [Cond.fieldLink RJx4a65c 9 "java/util/ArrayList" "elementData" "[Ljava/lang/Object;", Cond.instanceMethod yX3_isOutTo, Cond.initialized RX3, Cond.selects RX3 yX3_isOutTo yX3_isOutTo, Cond.code yX3_isOutTo cX3_isOutTo 2 (some .boolean), Cond.fieldLink RX3 9 "BeetHouse$Lorry" "state" "I", Cond.fieldLink RX3 15 "BeetHouse$Lorry" "plot" "LBeetHouse$Plot;"]
def wsX9_lorriesOutTo : List Cond := .code yX9_lorriesOutTo cX9_lorriesOutTo 4 (some .int) :: ((wsX9_lorriesOutTo_r1 ++ wsX9_lorriesOutTo_r2) ++ wsX90 ++ wsJx4a65c0 ++ wsX30)
def wsX9_fieldOf_r1 : List Cond := [Cond.methodLink RX9 106 yX9_plotAt, Cond.instanceMethod yX9_plotAt, Cond.selects RX9 yX9_plotAt yX9_plotAt, Cond.initialized RX9, Cond.code yX9_plotAt cX9_plotAt 2 (some (.object "BeetHouse$Plot")), Cond.fieldLink RX9 18 "BeetHouse" "plots" "Ljava/util/ArrayList;", Cond.classLink RX9 97 "BeetHouse$Plot", Cond.methodLink RX9 93 yJx4a65c_size_8abf5, Cond.instanceMethod yJx4a65c_size_8abf5, Cond.selects RJx4a65c yJx4a65c_size_8abf5 yJx4a65c_size_8abf5, Cond.initialized RJx4a65c, Cond.code yJx4a65c_size_8abf5 cJx4a65c_size_8abf5 1 (some .int), Cond.fieldLink RJx4a65c 48 "java/util/ArrayList" "size" "I", Cond.methodLink RX9 172 yJx4a65c_get_915e3, Cond.instanceMethod yJx4a65c_get_915e3, Cond.selects RJx4a65c yJx4a65c_get_915e3 yJx4a65c_get_915e3, Cond.code yJx4a65c_get_915e3 cJx4a65c_get_915e3 2 (some (.object "java/lang/Object")), Cond.methodLink RJx4a65c 118 yJ15_checkIndex_7cf53, Cond.static yJ15_checkIndex_7cf53, Cond.initialized RJ15, Cond.code yJ15_checkIndex_7cf53 cJ15_checkIndex_7cf53 2 (some .int), Cond.methodLink RJ15 105 yJ3_checkIndex_8e157, Cond.static yJ3_checkIndex_8e157, Cond.initialized RJ3]
def wsX9_fieldOf_r2 : List Cond := [Cond.code yJ3_checkIndex_8e157 cJ3_checkIndex_8e157 3 (some .int), Cond.methodLink RJx4a65c 123 yJx4a65c_elementData_915e3, Cond.instanceMethod yJx4a65c_elementData_915e3, Cond.selects RJx4a65c yJx4a65c_elementData_915e3 yJx4a65c_elementData_915e3, Cond.code yJx4a65c_elementData_915e3 cJx4a65c_elementData_915e3 2 (some (.object "java/lang/Object")), Cond.fieldLink RJx4a65c 9 "java/util/ArrayList" "elementData" "[Ljava/lang/Object;", Cond.methodLink RX9 82 yX9_refuse, Cond.instanceMethod yX9_refuse, Cond.selects RX9 yX9_refuse yX9_refuse, Cond.code yX9_refuse cX9_refuse 2 (some .int), Cond.fieldLink RX9 63 "BeetHouse" "refusals" "[I", Cond.methodLink RX9 227 yX9_lorriesOutTo, Cond.instanceMethod yX9_lorriesOutTo, Cond.selects RX9 yX9_lorriesOutTo yX9_lorriesOutTo, Cond.code yX9_lorriesOutTo cX9_lorriesOutTo 4 (some .int), Cond.fieldLink RX9 28 "BeetHouse" "lorries" "Ljava/util/ArrayList;", Cond.classLink RX9 117 "BeetHouse$Lorry", Cond.instanceMethod yX3_isOutTo, Cond.initialized RX3, Cond.selects RX3 yX3_isOutTo yX3_isOutTo, Cond.code yX3_isOutTo cX3_isOutTo 2 (some .boolean), Cond.fieldLink RX3 9 "BeetHouse$Lorry" "state" "I", Cond.fieldLink RX3 15 "BeetHouse$Lorry" "plot" "LBeetHouse$Plot;"]
def wsX9_fieldOf : List Cond := .code yX9_fieldOf cX9_fieldOf 4 (some .int) :: ((wsX9_fieldOf_r1 ++ wsX9_fieldOf_r2) ++ wsX60 ++ wsX00 ++ wsX90 ++ wsJx4a65c0 ++ wsX30)
def wsX9_lorryOf_r1 : List Cond := [Cond.methodLink RX9 120 yX9_lorryAt, Cond.instanceMethod yX9_lorryAt, Cond.selects RX9 yX9_lorryAt yX9_lorryAt, Cond.initialized RX9, Cond.code yX9_lorryAt cX9_lorryAt 2 (some (.object "BeetHouse$Lorry")), Cond.fieldLink RX9 28 "BeetHouse" "lorries" "Ljava/util/ArrayList;", Cond.classLink RX9 117 "BeetHouse$Lorry", Cond.methodLink RX9 93 yJx4a65c_size_8abf5, Cond.instanceMethod yJx4a65c_size_8abf5, Cond.selects RJx4a65c yJx4a65c_size_8abf5 yJx4a65c_size_8abf5, Cond.initialized RJx4a65c, Cond.code yJx4a65c_size_8abf5 cJx4a65c_size_8abf5 1 (some .int), Cond.fieldLink RJx4a65c 48 "java/util/ArrayList" "size" "I", Cond.methodLink RX9 172 yJx4a65c_get_915e3, Cond.instanceMethod yJx4a65c_get_915e3, Cond.selects RJx4a65c yJx4a65c_get_915e3 yJx4a65c_get_915e3, Cond.code yJx4a65c_get_915e3 cJx4a65c_get_915e3 2 (some (.object "java/lang/Object")), Cond.methodLink RJx4a65c 118 yJ15_checkIndex_7cf53, Cond.static yJ15_checkIndex_7cf53, Cond.initialized RJ15, Cond.code yJ15_checkIndex_7cf53 cJ15_checkIndex_7cf53 2 (some .int), Cond.methodLink RJ15 105 yJ3_checkIndex_8e157, Cond.static yJ3_checkIndex_8e157, Cond.initialized RJ3]
def wsX9_lorryOf_r2 : List Cond := [Cond.code yJ3_checkIndex_8e157 cJ3_checkIndex_8e157 3 (some .int), Cond.methodLink RJx4a65c 123 yJx4a65c_elementData_915e3, Cond.instanceMethod yJx4a65c_elementData_915e3, Cond.selects RJx4a65c yJx4a65c_elementData_915e3 yJx4a65c_elementData_915e3, Cond.code yJx4a65c_elementData_915e3 cJx4a65c_elementData_915e3 2 (some (.object "java/lang/Object")), Cond.fieldLink RJx4a65c 9 "java/util/ArrayList" "elementData" "[Ljava/lang/Object;", Cond.methodLink RX9 82 yX9_refuse, Cond.instanceMethod yX9_refuse, Cond.selects RX9 yX9_refuse yX9_refuse, Cond.code yX9_refuse cX9_refuse 2 (some .int), Cond.fieldLink RX9 63 "BeetHouse" "refusals" "[I"]
def wsX9_lorryOf : List Cond := .code yX9_lorryOf cX9_lorryOf 4 (some .int) :: ((wsX9_lorryOf_r1 ++ wsX9_lorryOf_r2) ++ wsX30 ++ wsX60 ++ wsX90 ++ wsJx4a65c0)
def wsX9_load_r1 : List Cond := [Cond.fieldLink RX9 41 "BeetHouse" "yard" "LBeetHouse$Yard;", Cond.classLink RX9 243 "BeetHouse$Load", Cond.methodLink RX9 93 yJx4a65c_size_8abf5, Cond.instanceMethod yJx4a65c_size_8abf5, Cond.selects RJx4a65c yJx4a65c_size_8abf5 yJx4a65c_size_8abf5, Cond.initialized RJx4a65c, Cond.code yJx4a65c_size_8abf5 cJx4a65c_size_8abf5 1 (some .int), Cond.fieldLink RJx4a65c 48 "java/util/ArrayList" "size" "I", Cond.methodLink RX9 172 yJx4a65c_get_915e3, Cond.instanceMethod yJx4a65c_get_915e3, Cond.selects RJx4a65c yJx4a65c_get_915e3 yJx4a65c_get_915e3, Cond.code yJx4a65c_get_915e3 cJx4a65c_get_915e3 2 (some (.object "java/lang/Object")), Cond.methodLink RJx4a65c 118 yJ15_checkIndex_7cf53, Cond.static yJ15_checkIndex_7cf53, Cond.initialized RJ15, Cond.code yJ15_checkIndex_7cf53 cJ15_checkIndex_7cf53 2 (some .int), Cond.methodLink RJ15 105 yJ3_checkIndex_8e157, Cond.static yJ3_checkIndex_8e157, Cond.initialized RJ3, Cond.code yJ3_checkIndex_8e157 cJ3_checkIndex_8e157 3 (some .int), Cond.methodLink RJx4a65c 123 yJx4a65c_elementData_915e3, Cond.instanceMethod yJx4a65c_elementData_915e3, Cond.selects RJx4a65c yJx4a65c_elementData_915e3 yJx4a65c_elementData_915e3, Cond.code yJx4a65c_elementData_915e3 cJx4a65c_elementData_915e3 2 (some (.object "java/lang/Object"))]
def wsX9_load_r2 : List Cond := [Cond.fieldLink RJx4a65c 9 "java/util/ArrayList" "elementData" "[Ljava/lang/Object;"]
def wsX9_load : List Cond := .code yX9_load cX9_load 4 (some .int) :: ((wsX9_load_r1 ++ wsX9_load_r2) ++ wsX90 ++ wsX80 ++ wsX20 ++ wsX60 ++ wsJx4a65c0)
def wsX9_coins : List Cond := .code yX9_coins cX9_coins 3 (some .int) :: ([.methodLink RX9 78 yX9_farmerAt, .instanceMethod yX9_farmerAt, .selects RX9 yX9_farmerAt yX9_farmerAt, .initialized RX9, .code yX9_farmerAt cX9_farmerAt 2 (some (.object "BeetHouse$Farmer")), .fieldLink RX9 11 "BeetHouse" "farmers" "[LBeetHouse$Farmer;", .methodLink RX9 82 yX9_refuse, .instanceMethod yX9_refuse, .selects RX9 yX9_refuse yX9_refuse, .code yX9_refuse cX9_refuse 2 (some .int), .fieldLink RX9 63 "BeetHouse" "refusals" "[I"] ++ wsX00 ++ wsX90)
def wsX9_wasteOfAll_r1 : List Cond := [Cond.fieldLink RX9 18 "BeetHouse" "plots" "Ljava/util/ArrayList;", Cond.classLink RX9 97 "BeetHouse$Plot", Cond.methodLink RX9 93 yJx4a65c_size_8abf5, Cond.instanceMethod yJx4a65c_size_8abf5, Cond.selects RJx4a65c yJx4a65c_size_8abf5 yJx4a65c_size_8abf5, Cond.initialized RJx4a65c, Cond.code yJx4a65c_size_8abf5 cJx4a65c_size_8abf5 1 (some .int), Cond.fieldLink RJx4a65c 48 "java/util/ArrayList" "size" "I", Cond.methodLink RX9 172 yJx4a65c_get_915e3, Cond.instanceMethod yJx4a65c_get_915e3, Cond.selects RJx4a65c yJx4a65c_get_915e3 yJx4a65c_get_915e3, Cond.code yJx4a65c_get_915e3 cJx4a65c_get_915e3 2 (some (.object "java/lang/Object")), Cond.methodLink RJx4a65c 118 yJ15_checkIndex_7cf53, Cond.static yJ15_checkIndex_7cf53, Cond.initialized RJ15, Cond.code yJ15_checkIndex_7cf53 cJ15_checkIndex_7cf53 2 (some .int), Cond.methodLink RJ15 105 yJ3_checkIndex_8e157, Cond.static yJ3_checkIndex_8e157, Cond.initialized RJ3, Cond.code yJ3_checkIndex_8e157 cJ3_checkIndex_8e157 3 (some .int), Cond.methodLink RJx4a65c 123 yJx4a65c_elementData_915e3, Cond.instanceMethod yJx4a65c_elementData_915e3, Cond.selects RJx4a65c yJx4a65c_elementData_915e3 yJx4a65c_elementData_915e3, Cond.code yJx4a65c_elementData_915e3 cJx4a65c_elementData_915e3 2 (some (.object "java/lang/Object"))]
def wsX9_wasteOfAll_r2 : List Cond := [Cond.fieldLink RJx4a65c 9 "java/util/ArrayList" "elementData" "[Ljava/lang/Object;"]
def wsX9_wasteOfAll : List Cond := .code yX9_wasteOfAll cX9_wasteOfAll 3 (some .int) :: ((wsX9_wasteOfAll_r1 ++ wsX9_wasteOfAll_r2) ++ wsX90 ++ wsX60 ++ wsJx4a65c0)
def wsX9_spoiledOfAll_r1 : List Cond := [Cond.fieldLink RX9 18 "BeetHouse" "plots" "Ljava/util/ArrayList;", Cond.classLink RX9 97 "BeetHouse$Plot", Cond.methodLink RX9 93 yJx4a65c_size_8abf5, Cond.instanceMethod yJx4a65c_size_8abf5, Cond.selects RJx4a65c yJx4a65c_size_8abf5 yJx4a65c_size_8abf5, Cond.initialized RJx4a65c, Cond.code yJx4a65c_size_8abf5 cJx4a65c_size_8abf5 1 (some .int), Cond.fieldLink RJx4a65c 48 "java/util/ArrayList" "size" "I", Cond.methodLink RX9 172 yJx4a65c_get_915e3, Cond.instanceMethod yJx4a65c_get_915e3, Cond.selects RJx4a65c yJx4a65c_get_915e3 yJx4a65c_get_915e3, Cond.code yJx4a65c_get_915e3 cJx4a65c_get_915e3 2 (some (.object "java/lang/Object")), Cond.methodLink RJx4a65c 118 yJ15_checkIndex_7cf53, Cond.static yJ15_checkIndex_7cf53, Cond.initialized RJ15, Cond.code yJ15_checkIndex_7cf53 cJ15_checkIndex_7cf53 2 (some .int), Cond.methodLink RJ15 105 yJ3_checkIndex_8e157, Cond.static yJ3_checkIndex_8e157, Cond.initialized RJ3, Cond.code yJ3_checkIndex_8e157 cJ3_checkIndex_8e157 3 (some .int), Cond.methodLink RJx4a65c 123 yJx4a65c_elementData_915e3, Cond.instanceMethod yJx4a65c_elementData_915e3, Cond.selects RJx4a65c yJx4a65c_elementData_915e3 yJx4a65c_elementData_915e3, Cond.code yJx4a65c_elementData_915e3 cJx4a65c_elementData_915e3 2 (some (.object "java/lang/Object"))]
def wsX9_spoiledOfAll_r2 : List Cond := [Cond.fieldLink RJx4a65c 9 "java/util/ArrayList" "elementData" "[Ljava/lang/Object;"]
def wsX9_spoiledOfAll : List Cond := .code yX9_spoiledOfAll cX9_spoiledOfAll 3 (some .int) :: ((wsX9_spoiledOfAll_r1 ++ wsX9_spoiledOfAll_r2) ++ wsX90 ++ wsX60 ++ wsJx4a65c0)
def wsX9_count_r1 : List Cond := [Cond.fieldLink RX9 63 "BeetHouse" "refusals" "[I", Cond.fieldLink RX9 70 "BeetHouse" "hour" "I", Cond.fieldLink RX9 18 "BeetHouse" "plots" "Ljava/util/ArrayList;", Cond.fieldLink RX9 28 "BeetHouse" "lorries" "Ljava/util/ArrayList;", Cond.fieldLink RX9 41 "BeetHouse" "yard" "LBeetHouse$Yard;", Cond.fieldLink RX9 48 "BeetHouse" "mill" "LBeetHouse$Mill;", Cond.fieldLink RX9 66 "BeetHouse" "freezing" "Z", Cond.methodLink RX9 93 yJx4a65c_size_8abf5, Cond.instanceMethod yJx4a65c_size_8abf5, Cond.selects RJx4a65c yJx4a65c_size_8abf5 yJx4a65c_size_8abf5, Cond.initialized RJx4a65c, Cond.code yJx4a65c_size_8abf5 cJx4a65c_size_8abf5 1 (some .int), Cond.fieldLink RJx4a65c 48 "java/util/ArrayList" "size" "I", Cond.methodLink RX9 261 yX9_wasteOfAll, Cond.instanceMethod yX9_wasteOfAll, Cond.selects RX9 yX9_wasteOfAll yX9_wasteOfAll, Cond.initialized RX9, Cond.code yX9_wasteOfAll cX9_wasteOfAll 3 (some .int), Cond.classLink RX9 97 "BeetHouse$Plot", Cond.methodLink RX9 172 yJx4a65c_get_915e3, Cond.instanceMethod yJx4a65c_get_915e3, Cond.selects RJx4a65c yJx4a65c_get_915e3 yJx4a65c_get_915e3, Cond.code yJx4a65c_get_915e3 cJx4a65c_get_915e3 2 (some (.object "java/lang/Object")), Cond.methodLink RJx4a65c 118 yJ15_checkIndex_7cf53]
def wsX9_count_r2 : List Cond := [Cond.static yJ15_checkIndex_7cf53, Cond.initialized RJ15, Cond.code yJ15_checkIndex_7cf53 cJ15_checkIndex_7cf53 2 (some .int), Cond.methodLink RJ15 105 yJ3_checkIndex_8e157, Cond.static yJ3_checkIndex_8e157, Cond.initialized RJ3, Cond.code yJ3_checkIndex_8e157 cJ3_checkIndex_8e157 3 (some .int), Cond.methodLink RJx4a65c 123 yJx4a65c_elementData_915e3, Cond.instanceMethod yJx4a65c_elementData_915e3, Cond.selects RJx4a65c yJx4a65c_elementData_915e3 yJx4a65c_elementData_915e3, Cond.code yJx4a65c_elementData_915e3 cJx4a65c_elementData_915e3 2 (some (.object "java/lang/Object")), Cond.fieldLink RJx4a65c 9 "java/util/ArrayList" "elementData" "[Ljava/lang/Object;", Cond.methodLink RX9 264 yX9_spoiledOfAll, Cond.instanceMethod yX9_spoiledOfAll, Cond.selects RX9 yX9_spoiledOfAll yX9_spoiledOfAll, Cond.code yX9_spoiledOfAll cX9_spoiledOfAll 3 (some .int)]
def wsX9_count : List Cond := .code yX9_count cX9_count 2 (some .int) :: ((wsX9_count_r1 ++ wsX9_count_r2) ++ wsX90 ++ wsX80 ++ wsX40 ++ wsJx4a65c0 ++ wsX60)
def wsX10_init_r1 : List Cond := [Cond.methodLink RX10 1 objectInit, Cond.instanceMethod objectInit, Cond.code objectInit ⟨#[0xb1]⟩ 1 none, Cond.arrayClass .int, Cond.fieldLink RX10 7 "BeetHouseModel" "refusals" "[I", Cond.fieldLink RX10 13 "BeetHouseModel" "shares" "[I", Cond.fieldLink RX10 16 "BeetHouseModel" "coins" "[I", Cond.fieldLink RX10 19 "BeetHouseModel" "warmths" "[I", Cond.fieldLink RX10 22 "BeetHouseModel" "tables" "[I", Cond.fieldLink RX10 25 "BeetHouseModel" "prices" "[I", Cond.fieldLink RX10 28 "BeetHouseModel" "room" "I", Cond.fieldLink RX10 32 "BeetHouseModel" "farmer" "[I", Cond.fieldLink RX10 35 "BeetHouseModel" "ground" "[I", Cond.fieldLink RX10 38 "BeetHouseModel" "sweet" "[I", Cond.fieldLink RX10 41 "BeetHouseModel" "way" "[I", Cond.fieldLink RX10 44 "BeetHouseModel" "roots" "[I", Cond.fieldLink RX10 47 "BeetHouseModel" "sugar" "[I", Cond.fieldLink RX10 50 "BeetHouseModel" "thawed" "[I", Cond.fieldLink RX10 53 "BeetHouseModel" "waste" "[I", Cond.fieldLink RX10 56 "BeetHouseModel" "gone" "[I", Cond.fieldLink RX10 59 "BeetHouseModel" "came" "[I", Cond.arrayClass .boolean, Cond.fieldLink RX10 62 "BeetHouseModel" "stony" "[Z", Cond.fieldLink RX10 66 "BeetHouseModel" "covered" "[Z"]
def wsX10_init_r2 : List Cond := [Cond.fieldLink RX10 69 "BeetHouseModel" "frozen" "[Z", Cond.fieldLink RX10 72 "BeetHouseModel" "gangRate" "[I", Cond.fieldLink RX10 75 "BeetHouseModel" "gangField" "[I", Cond.fieldLink RX10 78 "BeetHouseModel" "size" "[I", Cond.fieldLink RX10 81 "BeetHouseModel" "does" "[I", Cond.fieldLink RX10 84 "BeetHouseModel" "to" "[I", Cond.fieldLink RX10 87 "BeetHouseModel" "there" "[I", Cond.fieldLink RX10 90 "BeetHouseModel" "has" "[I", Cond.fieldLink RX10 93 "BeetHouseModel" "hasSugar" "[I", Cond.fieldLink RX10 96 "BeetHouseModel" "drowned" "[I", Cond.fieldLink RX10 99 "BeetHouseModel" "brought" "[I", Cond.fieldLink RX10 102 "BeetHouseModel" "loadField" "[I", Cond.fieldLink RX10 105 "BeetHouseModel" "loadRoots" "[I", Cond.fieldLink RX10 108 "BeetHouseModel" "loadSugar" "[I", Cond.fieldLink RX10 111 "BeetHouseModel" "heap" "[I", Cond.fieldLink RX10 114 "BeetHouseModel" "lasts" "[I", Cond.fieldLink RX10 117 "BeetHouseModel" "least" "[I"]
def wsX10_init : List Cond := .code yX10_init cX10_init 2 none :: ((wsX10_init_r1 ++ wsX10_init_r2) ++ wsX100)
def wsX10_refuse : List Cond := .code yX10_refuse cX10_refuse 2 (some .int) :: ([.fieldLink RX10 7 "BeetHouseModel" "refusals" "[I"] ++ wsX100)
def wsX10_isIn : List Cond := .code yX10_isIn cX10_isIn 2 (some .boolean) :: ([])
def wsX10_share : List Cond := .code yX10_share cX10_share 4 (some .int) :: ([.fieldLink RX10 13 "BeetHouseModel" "shares" "[I", .methodLink RX10 120 yX10_isIn, .static yX10_isIn, .initialized RX10, .code yX10_isIn cX10_isIn 2 (some .boolean), .methodLink RX10 124 yX10_refuse, .instanceMethod yX10_refuse, .selects RX10 yX10_refuse yX10_refuse, .code yX10_refuse cX10_refuse 2 (some .int), .fieldLink RX10 7 "BeetHouseModel" "refusals" "[I"] ++ wsX100)
def wsX10_field : List Cond := .code yX10_field cX10_field 7 (some .int) :: ([.fieldLink RX10 128 "BeetHouseModel" "fields" "I", .fieldLink RX10 32 "BeetHouseModel" "farmer" "[I", .fieldLink RX10 35 "BeetHouseModel" "ground" "[I", .fieldLink RX10 38 "BeetHouseModel" "sweet" "[I", .fieldLink RX10 41 "BeetHouseModel" "way" "[I", .fieldLink RX10 62 "BeetHouseModel" "stony" "[Z", .fieldLink RX10 50 "BeetHouseModel" "thawed" "[I", .methodLink RX10 120 yX10_isIn, .static yX10_isIn, .initialized RX10, .code yX10_isIn cX10_isIn 2 (some .boolean), .methodLink RX10 124 yX10_refuse, .instanceMethod yX10_refuse, .selects RX10 yX10_refuse yX10_refuse, .code yX10_refuse cX10_refuse 2 (some .int), .fieldLink RX10 7 "BeetHouseModel" "refusals" "[I"] ++ wsX100)
def wsX10_isField : List Cond := .code yX10_isField cX10_isField 2 (some .boolean) :: ([.fieldLink RX10 128 "BeetHouseModel" "fields" "I", .methodLink RX10 120 yX10_isIn, .static yX10_isIn, .initialized RX10, .code yX10_isIn cX10_isIn 2 (some .boolean)] ++ wsX100)
def wsX10_isLorry : List Cond := .code yX10_isLorry cX10_isLorry 2 (some .boolean) :: ([.fieldLink RX10 131 "BeetHouseModel" "lorries" "I", .methodLink RX10 120 yX10_isIn, .static yX10_isIn, .initialized RX10, .code yX10_isIn cX10_isIn 2 (some .boolean)] ++ wsX100)
def wsX10_gang : List Cond := .code yX10_gang cX10_gang 4 (some .int) :: ([.fieldLink RX10 72 "BeetHouseModel" "gangRate" "[I", .fieldLink RX10 75 "BeetHouseModel" "gangField" "[I", .methodLink RX10 120 yX10_isIn, .static yX10_isIn, .initialized RX10, .code yX10_isIn cX10_isIn 2 (some .boolean), .methodLink RX10 134 yX10_isField, .instanceMethod yX10_isField, .selects RX10 yX10_isField yX10_isField, .code yX10_isField cX10_isField 2 (some .boolean), .fieldLink RX10 128 "BeetHouseModel" "fields" "I", .methodLink RX10 124 yX10_refuse, .instanceMethod yX10_refuse, .selects RX10 yX10_refuse yX10_refuse, .code yX10_refuse cX10_refuse 2 (some .int), .fieldLink RX10 7 "BeetHouseModel" "refusals" "[I"] ++ wsX100)
def wsX10_lorry : List Cond := .code yX10_lorry cX10_lorry 2 (some .int) :: ([.fieldLink RX10 131 "BeetHouseModel" "lorries" "I", .fieldLink RX10 78 "BeetHouseModel" "size" "[I", .fieldLink RX10 84 "BeetHouseModel" "to" "[I", .fieldLink RX10 87 "BeetHouseModel" "there" "[I", .methodLink RX10 124 yX10_refuse, .instanceMethod yX10_refuse, .selects RX10 yX10_refuse yX10_refuse, .initialized RX10, .code yX10_refuse cX10_refuse 2 (some .int), .fieldLink RX10 7 "BeetHouseModel" "refusals" "[I"] ++ wsX100)
def wsX10_goes : List Cond := .code yX10_goes cX10_goes 3 none :: ([.fieldLink RX10 81 "BeetHouseModel" "does" "[I", .fieldLink RX10 84 "BeetHouseModel" "to" "[I", .fieldLink RX10 87 "BeetHouseModel" "there" "[I", .fieldLink RX10 138 "BeetHouseModel" "hour" "I", .fieldLink RX10 41 "BeetHouseModel" "way" "[I"] ++ wsX100)
def wsX10_send_r1 : List Cond := [Cond.fieldLink RX10 81 "BeetHouseModel" "does" "[I", Cond.fieldLink RX10 87 "BeetHouseModel" "there" "[I", Cond.methodLink RX10 141 yX10_isLorry, Cond.instanceMethod yX10_isLorry, Cond.selects RX10 yX10_isLorry yX10_isLorry, Cond.initialized RX10, Cond.code yX10_isLorry cX10_isLorry 2 (some .boolean), Cond.fieldLink RX10 131 "BeetHouseModel" "lorries" "I", Cond.methodLink RX10 120 yX10_isIn, Cond.static yX10_isIn, Cond.code yX10_isIn cX10_isIn 2 (some .boolean), Cond.methodLink RX10 134 yX10_isField, Cond.instanceMethod yX10_isField, Cond.selects RX10 yX10_isField yX10_isField, Cond.code yX10_isField cX10_isField 2 (some .boolean), Cond.fieldLink RX10 128 "BeetHouseModel" "fields" "I", Cond.methodLink RX10 124 yX10_refuse, Cond.instanceMethod yX10_refuse, Cond.selects RX10 yX10_refuse yX10_refuse, Cond.code yX10_refuse cX10_refuse 2 (some .int), Cond.fieldLink RX10 7 "BeetHouseModel" "refusals" "[I", Cond.methodLink RX10 144 yX10_goes, Cond.instanceMethod yX10_goes, Cond.selects RX10 yX10_goes yX10_goes]
def wsX10_send_r2 : List Cond := [Cond.code yX10_goes cX10_goes 3 none, Cond.fieldLink RX10 84 "BeetHouseModel" "to" "[I", Cond.fieldLink RX10 138 "BeetHouseModel" "hour" "I", Cond.fieldLink RX10 41 "BeetHouseModel" "way" "[I"]
def wsX10_send : List Cond := .code yX10_send cX10_send 3 (some .int) :: ((wsX10_send_r1 ++ wsX10_send_r2) ++ wsX100)
def wsX10_isLeft : List Cond := .code yX10_isLeft cX10_isLeft 4 (some .boolean) :: ([.fieldLink RX10 44 "BeetHouseModel" "roots" "[I", .fieldLink RX10 131 "BeetHouseModel" "lorries" "I", .fieldLink RX10 81 "BeetHouseModel" "does" "[I", .fieldLink RX10 84 "BeetHouseModel" "to" "[I", .fieldLink RX10 78 "BeetHouseModel" "size" "[I"] ++ wsX100)
def wsX10_owedOf : List Cond := .code yX10_owedOf cX10_owedOf 5 (some .int) :: ([.fieldLink RX10 128 "BeetHouseModel" "fields" "I", .fieldLink RX10 59 "BeetHouseModel" "came" "[I", .fieldLink RX10 32 "BeetHouseModel" "farmer" "[I", .fieldLink RX10 13 "BeetHouseModel" "shares" "[I"] ++ wsX100)
def wsX10_nextOf : List Cond := .code yX10_nextOf cX10_nextOf 5 (some .int) :: ([.fieldLink RX10 128 "BeetHouseModel" "fields" "I", .fieldLink RX10 32 "BeetHouseModel" "farmer" "[I", .methodLink RX10 148 yX10_isLeft, .instanceMethod yX10_isLeft, .selects RX10 yX10_isLeft yX10_isLeft, .initialized RX10, .code yX10_isLeft cX10_isLeft 4 (some .boolean), .fieldLink RX10 44 "BeetHouseModel" "roots" "[I", .fieldLink RX10 131 "BeetHouseModel" "lorries" "I", .fieldLink RX10 81 "BeetHouseModel" "does" "[I", .fieldLink RX10 84 "BeetHouseModel" "to" "[I", .fieldLink RX10 78 "BeetHouseModel" "size" "[I", .methodLink RX10 151 yX10_owedOf, .instanceMethod yX10_owedOf, .selects RX10 yX10_owedOf yX10_owedOf, .code yX10_owedOf cX10_owedOf 5 (some .int), .fieldLink RX10 59 "BeetHouseModel" "came" "[I", .fieldLink RX10 13 "BeetHouseModel" "shares" "[I"] ++ wsX100)
def wsX10_turn_r1 : List Cond := [Cond.fieldLink RX10 131 "BeetHouseModel" "lorries" "I", Cond.fieldLink RX10 81 "BeetHouseModel" "does" "[I", Cond.fieldLink RX10 128 "BeetHouseModel" "fields" "I", Cond.fieldLink RX10 32 "BeetHouseModel" "farmer" "[I", Cond.fieldLink RX10 47 "BeetHouseModel" "sugar" "[I", Cond.methodLink RX10 124 yX10_refuse, Cond.instanceMethod yX10_refuse, Cond.selects RX10 yX10_refuse yX10_refuse, Cond.initialized RX10, Cond.code yX10_refuse cX10_refuse 2 (some .int), Cond.fieldLink RX10 7 "BeetHouseModel" "refusals" "[I", Cond.methodLink RX10 154 yX10_nextOf, Cond.instanceMethod yX10_nextOf, Cond.selects RX10 yX10_nextOf yX10_nextOf, Cond.code yX10_nextOf cX10_nextOf 5 (some .int), Cond.methodLink RX10 148 yX10_isLeft, Cond.instanceMethod yX10_isLeft, Cond.selects RX10 yX10_isLeft yX10_isLeft, Cond.code yX10_isLeft cX10_isLeft 4 (some .boolean), Cond.fieldLink RX10 44 "BeetHouseModel" "roots" "[I", Cond.fieldLink RX10 84 "BeetHouseModel" "to" "[I", Cond.fieldLink RX10 78 "BeetHouseModel" "size" "[I", Cond.methodLink RX10 151 yX10_owedOf, Cond.instanceMethod yX10_owedOf]
def wsX10_turn_r2 : List Cond := [Cond.selects RX10 yX10_owedOf yX10_owedOf, Cond.code yX10_owedOf cX10_owedOf 5 (some .int), Cond.fieldLink RX10 59 "BeetHouseModel" "came" "[I", Cond.fieldLink RX10 13 "BeetHouseModel" "shares" "[I", Cond.methodLink RX10 144 yX10_goes, Cond.instanceMethod yX10_goes, Cond.selects RX10 yX10_goes yX10_goes, Cond.code yX10_goes cX10_goes 3 none, Cond.fieldLink RX10 87 "BeetHouseModel" "there" "[I", Cond.fieldLink RX10 138 "BeetHouseModel" "hour" "I", Cond.fieldLink RX10 41 "BeetHouseModel" "way" "[I"]
def wsX10_turn : List Cond := .code yX10_turn cX10_turn 5 (some .int) :: ((wsX10_turn_r1 ++ wsX10_turn_r2) ++ wsX100)
def wsX10_works : List Cond := .code yX10_works cX10_works 4 (some .int) :: ([.fieldLink RX10 28 "BeetHouseModel" "room" "I", .fieldLink RX10 158 "BeetHouseModel" "rate" "I", .methodLink RX10 120 yX10_isIn, .static yX10_isIn, .initialized RX10, .code yX10_isIn cX10_isIn 2 (some .boolean), .methodLink RX10 124 yX10_refuse, .instanceMethod yX10_refuse, .selects RX10 yX10_refuse yX10_refuse, .code yX10_refuse cX10_refuse 2 (some .int), .fieldLink RX10 7 "BeetHouseModel" "refusals" "[I"] ++ wsX100)
def wsX10_table : List Cond := .code yX10_table cX10_table 4 (some .int) :: ([.fieldLink RX10 22 "BeetHouseModel" "tables" "[I", .methodLink RX10 120 yX10_isIn, .static yX10_isIn, .initialized RX10, .code yX10_isIn cX10_isIn 2 (some .boolean), .methodLink RX10 124 yX10_refuse, .instanceMethod yX10_refuse, .selects RX10 yX10_refuse yX10_refuse, .code yX10_refuse cX10_refuse 2 (some .int), .fieldLink RX10 7 "BeetHouseModel" "refusals" "[I"] ++ wsX100)
def wsX10_warmth : List Cond := .code yX10_warmth cX10_warmth 4 (some .int) :: ([.fieldLink RX10 19 "BeetHouseModel" "warmths" "[I", .methodLink RX10 120 yX10_isIn, .static yX10_isIn, .initialized RX10, .code yX10_isIn cX10_isIn 2 (some .boolean), .methodLink RX10 124 yX10_refuse, .instanceMethod yX10_refuse, .selects RX10 yX10_refuse yX10_refuse, .code yX10_refuse cX10_refuse 2 (some .int), .fieldLink RX10 7 "BeetHouseModel" "refusals" "[I"] ++ wsX100)
def wsX10_price : List Cond := .code yX10_price cX10_price 4 (some .int) :: ([.fieldLink RX10 25 "BeetHouseModel" "prices" "[I", .methodLink RX10 120 yX10_isIn, .static yX10_isIn, .initialized RX10, .code yX10_isIn cX10_isIn 2 (some .boolean), .methodLink RX10 124 yX10_refuse, .instanceMethod yX10_refuse, .selects RX10 yX10_refuse yX10_refuse, .code yX10_refuse cX10_refuse 2 (some .int), .fieldLink RX10 7 "BeetHouseModel" "refusals" "[I"] ++ wsX100)
def wsX10_cover : List Cond := .code yX10_cover cX10_cover 3 (some .int) :: ([.fieldLink RX10 44 "BeetHouseModel" "roots" "[I", .fieldLink RX10 69 "BeetHouseModel" "frozen" "[Z", .fieldLink RX10 66 "BeetHouseModel" "covered" "[Z", .methodLink RX10 134 yX10_isField, .instanceMethod yX10_isField, .selects RX10 yX10_isField yX10_isField, .initialized RX10, .code yX10_isField cX10_isField 2 (some .boolean), .fieldLink RX10 128 "BeetHouseModel" "fields" "I", .methodLink RX10 120 yX10_isIn, .static yX10_isIn, .code yX10_isIn cX10_isIn 2 (some .boolean), .methodLink RX10 124 yX10_refuse, .instanceMethod yX10_refuse, .selects RX10 yX10_refuse yX10_refuse, .code yX10_refuse cX10_refuse 2 (some .int), .fieldLink RX10 7 "BeetHouseModel" "refusals" "[I"] ++ wsX100)
def wsX10_frost : List Cond := .code yX10_frost cX10_frost 4 (some .int) :: ([.fieldLink RX10 161 "BeetHouseModel" "isFrost" "Z", .fieldLink RX10 128 "BeetHouseModel" "fields" "I", .fieldLink RX10 44 "BeetHouseModel" "roots" "[I", .fieldLink RX10 66 "BeetHouseModel" "covered" "[Z", .fieldLink RX10 69 "BeetHouseModel" "frozen" "[Z", .fieldLink RX10 50 "BeetHouseModel" "thawed" "[I", .fieldLink RX10 138 "BeetHouseModel" "hour" "I", .methodLink RX10 124 yX10_refuse, .instanceMethod yX10_refuse, .selects RX10 yX10_refuse yX10_refuse, .initialized RX10, .code yX10_refuse cX10_refuse 2 (some .int), .fieldLink RX10 7 "BeetHouseModel" "refusals" "[I"] ++ wsX100)
def wsX10_inYard : List Cond := .code yX10_inYard cX10_inYard 3 (some .int) :: ([.fieldLink RX10 165 "BeetHouseModel" "loads" "I", .fieldLink RX10 105 "BeetHouseModel" "loadRoots" "[I"] ++ wsX100)
def wsX10_lifts : List Cond := .code yX10_lifts cX10_lifts 4 none :: ([.fieldLink RX10 75 "BeetHouseModel" "gangField" "[I", .fieldLink RX10 72 "BeetHouseModel" "gangRate" "[I", .fieldLink RX10 35 "BeetHouseModel" "ground" "[I", .methodLink RX10 168 Lib.Math.min.name, .static Lib.Math.min.name, .initialized "java/lang/Math", .code Lib.Math.min.name Lib.Math.min.code 2 (some .int), .fieldLink RX10 44 "BeetHouseModel" "roots" "[I", .fieldLink RX10 47 "BeetHouseModel" "sugar" "[I", .fieldLink RX10 38 "BeetHouseModel" "sweet" "[I"] ++ wsX100)
def wsX10_arrives : List Cond := .code yX10_arrives cX10_arrives 5 none :: ([.fieldLink RX10 87 "BeetHouseModel" "there" "[I", .fieldLink RX10 138 "BeetHouseModel" "hour" "I", .fieldLink RX10 81 "BeetHouseModel" "does" "[I", .fieldLink RX10 84 "BeetHouseModel" "to" "[I", .fieldLink RX10 78 "BeetHouseModel" "size" "[I", .fieldLink RX10 44 "BeetHouseModel" "roots" "[I", .methodLink RX10 168 Lib.Math.min.name, .static Lib.Math.min.name, .initialized "java/lang/Math", .code Lib.Math.min.name Lib.Math.min.code 2 (some .int), .fieldLink RX10 47 "BeetHouseModel" "sugar" "[I", .fieldLink RX10 90 "BeetHouseModel" "has" "[I", .fieldLink RX10 93 "BeetHouseModel" "hasSugar" "[I", .fieldLink RX10 50 "BeetHouseModel" "thawed" "[I", .fieldLink RX10 41 "BeetHouseModel" "way" "[I", .fieldLink RX10 62 "BeetHouseModel" "stony" "[Z"] ++ wsX100)
def wsX10_brings : List Cond := .code yX10_brings cX10_brings 3 none :: ([.fieldLink RX10 84 "BeetHouseModel" "to" "[I", .fieldLink RX10 90 "BeetHouseModel" "has" "[I", .fieldLink RX10 102 "BeetHouseModel" "loadField" "[I", .fieldLink RX10 165 "BeetHouseModel" "loads" "I", .fieldLink RX10 105 "BeetHouseModel" "loadRoots" "[I", .fieldLink RX10 108 "BeetHouseModel" "loadSugar" "[I", .fieldLink RX10 93 "BeetHouseModel" "hasSugar" "[I", .fieldLink RX10 16 "BeetHouseModel" "coins" "[I", .fieldLink RX10 32 "BeetHouseModel" "farmer" "[I", .fieldLink RX10 25 "BeetHouseModel" "prices" "[I", .methodLink RX10 168 Lib.Math.min.name, .static Lib.Math.min.name, .initialized "java/lang/Math", .code Lib.Math.min.name Lib.Math.min.code 2 (some .int), .fieldLink RX10 59 "BeetHouseModel" "came" "[I", .fieldLink RX10 99 "BeetHouseModel" "brought" "[I", .fieldLink RX10 81 "BeetHouseModel" "does" "[I"] ++ wsX100)
def wsX10_unloads_r1 : List Cond := [Cond.fieldLink RX10 131 "BeetHouseModel" "lorries" "I", Cond.fieldLink RX10 81 "BeetHouseModel" "does" "[I", Cond.fieldLink RX10 90 "BeetHouseModel" "has" "[I", Cond.fieldLink RX10 28 "BeetHouseModel" "room" "I", Cond.fieldLink RX10 96 "BeetHouseModel" "drowned" "[I", Cond.methodLink RX10 174 yX10_inYard, Cond.instanceMethod yX10_inYard, Cond.selects RX10 yX10_inYard yX10_inYard, Cond.initialized RX10, Cond.code yX10_inYard cX10_inYard 3 (some .int), Cond.fieldLink RX10 165 "BeetHouseModel" "loads" "I", Cond.fieldLink RX10 105 "BeetHouseModel" "loadRoots" "[I", Cond.methodLink RX10 177 yX10_brings, Cond.instanceMethod yX10_brings, Cond.selects RX10 yX10_brings yX10_brings, Cond.code yX10_brings cX10_brings 3 none, Cond.fieldLink RX10 84 "BeetHouseModel" "to" "[I", Cond.fieldLink RX10 102 "BeetHouseModel" "loadField" "[I", Cond.fieldLink RX10 108 "BeetHouseModel" "loadSugar" "[I", Cond.fieldLink RX10 93 "BeetHouseModel" "hasSugar" "[I", Cond.fieldLink RX10 16 "BeetHouseModel" "coins" "[I", Cond.fieldLink RX10 32 "BeetHouseModel" "farmer" "[I", Cond.fieldLink RX10 25 "BeetHouseModel" "prices" "[I", Cond.methodLink RX10 168 Lib.Math.min.name]
def wsX10_unloads_r2 : List Cond := [Cond.static Lib.Math.min.name, Cond.initialized "java/lang/Math", Cond.code Lib.Math.min.name Lib.Math.min.code 2 (some .int), Cond.fieldLink RX10 59 "BeetHouseModel" "came" "[I", Cond.fieldLink RX10 99 "BeetHouseModel" "brought" "[I"]
def wsX10_unloads : List Cond := .code yX10_unloads cX10_unloads 3 none :: ((wsX10_unloads_r1 ++ wsX10_unloads_r2) ++ wsX100)
def wsX10_eats : List Cond := .code yX10_eats cX10_eats 4 (some .int) :: ([.fieldLink RX10 158 "BeetHouseModel" "rate" "I", .fieldLink RX10 165 "BeetHouseModel" "loads" "I", .fieldLink RX10 62 "BeetHouseModel" "stony" "[Z", .fieldLink RX10 102 "BeetHouseModel" "loadField" "[I", .fieldLink RX10 105 "BeetHouseModel" "loadRoots" "[I", .fieldLink RX10 181 "BeetHouseModel" "won" "I", .fieldLink RX10 108 "BeetHouseModel" "loadSugar" "[I", .fieldLink RX10 184 "BeetHouseModel" "lack" "I", .fieldLink RX10 187 "BeetHouseModel" "stood" "I", .fieldLink RX10 190 "BeetHouseModel" "eaten" "I"] ++ wsX100)
def wsX10_wasteOf : List Cond := .code yX10_wasteOf cX10_wasteOf 5 (some .int) :: ([.fieldLink RX10 69 "BeetHouseModel" "frozen" "[Z", .fieldLink RX10 22 "BeetHouseModel" "tables" "[I", .fieldLink RX10 19 "BeetHouseModel" "warmths" "[I", .fieldLink RX10 50 "BeetHouseModel" "thawed" "[I", .methodLink RX10 168 Lib.Math.min.name, .static Lib.Math.min.name, .initialized "java/lang/Math", .code Lib.Math.min.name Lib.Math.min.code 2 (some .int), .fieldLink RX10 66 "BeetHouseModel" "covered" "[Z", .constantLong RX10 193 (1000)] ++ wsX100)
def wsX10_ends : List Cond := .code yX10_ends cX10_ends 3 none :: ([.fieldLink RX10 128 "BeetHouseModel" "fields" "I", .fieldLink RX10 138 "BeetHouseModel" "hour" "I", .fieldLink RX10 47 "BeetHouseModel" "sugar" "[I", .fieldLink RX10 53 "BeetHouseModel" "waste" "[I", .fieldLink RX10 199 "BeetHouseModel" "wasted" "I", .fieldLink RX10 50 "BeetHouseModel" "thawed" "[I", .fieldLink RX10 56 "BeetHouseModel" "gone" "[I", .fieldLink RX10 44 "BeetHouseModel" "roots" "[I", .fieldLink RX10 202 "BeetHouseModel" "spoiled" "I", .fieldLink RX10 66 "BeetHouseModel" "covered" "[Z", .methodLink RX10 195 yX10_wasteOf, .instanceMethod yX10_wasteOf, .selects RX10 yX10_wasteOf yX10_wasteOf, .initialized RX10, .code yX10_wasteOf cX10_wasteOf 5 (some .int), .fieldLink RX10 69 "BeetHouseModel" "frozen" "[Z", .fieldLink RX10 22 "BeetHouseModel" "tables" "[I", .fieldLink RX10 19 "BeetHouseModel" "warmths" "[I", .methodLink RX10 168 Lib.Math.min.name, .static Lib.Math.min.name, .initialized "java/lang/Math", .code Lib.Math.min.name Lib.Math.min.code 2 (some .int), .constantLong RX10 193 (1000)] ++ wsX100)
def wsX10_hours_r1 : List Cond := [Cond.fieldLink RX10 138 "BeetHouseModel" "hour" "I", Cond.fieldLink RX10 161 "BeetHouseModel" "isFrost" "Z", Cond.fieldLink RX10 131 "BeetHouseModel" "lorries" "I", Cond.methodLink RX10 124 yX10_refuse, Cond.instanceMethod yX10_refuse, Cond.selects RX10 yX10_refuse yX10_refuse, Cond.initialized RX10, Cond.code yX10_refuse cX10_refuse 2 (some .int), Cond.fieldLink RX10 7 "BeetHouseModel" "refusals" "[I", Cond.methodLink RX10 205 yX10_lifts, Cond.instanceMethod yX10_lifts, Cond.selects RX10 yX10_lifts yX10_lifts, Cond.code yX10_lifts cX10_lifts 4 none, Cond.fieldLink RX10 75 "BeetHouseModel" "gangField" "[I", Cond.fieldLink RX10 72 "BeetHouseModel" "gangRate" "[I", Cond.fieldLink RX10 35 "BeetHouseModel" "ground" "[I", Cond.methodLink RX10 168 Lib.Math.min.name, Cond.static Lib.Math.min.name, Cond.initialized "java/lang/Math", Cond.code Lib.Math.min.name Lib.Math.min.code 2 (some .int), Cond.fieldLink RX10 44 "BeetHouseModel" "roots" "[I", Cond.fieldLink RX10 47 "BeetHouseModel" "sugar" "[I", Cond.fieldLink RX10 38 "BeetHouseModel" "sweet" "[I", Cond.methodLink RX10 208 yX10_arrives]
def wsX10_hours_r2 : List Cond := [Cond.instanceMethod yX10_arrives, Cond.selects RX10 yX10_arrives yX10_arrives, Cond.code yX10_arrives cX10_arrives 5 none, Cond.fieldLink RX10 87 "BeetHouseModel" "there" "[I", Cond.fieldLink RX10 81 "BeetHouseModel" "does" "[I", Cond.fieldLink RX10 84 "BeetHouseModel" "to" "[I", Cond.fieldLink RX10 78 "BeetHouseModel" "size" "[I", Cond.fieldLink RX10 90 "BeetHouseModel" "has" "[I", Cond.fieldLink RX10 93 "BeetHouseModel" "hasSugar" "[I", Cond.fieldLink RX10 50 "BeetHouseModel" "thawed" "[I", Cond.fieldLink RX10 41 "BeetHouseModel" "way" "[I", Cond.fieldLink RX10 62 "BeetHouseModel" "stony" "[Z", Cond.methodLink RX10 211 yX10_unloads, Cond.instanceMethod yX10_unloads, Cond.selects RX10 yX10_unloads yX10_unloads, Cond.code yX10_unloads cX10_unloads 3 none, Cond.fieldLink RX10 28 "BeetHouseModel" "room" "I", Cond.fieldLink RX10 96 "BeetHouseModel" "drowned" "[I", Cond.methodLink RX10 174 yX10_inYard, Cond.instanceMethod yX10_inYard, Cond.selects RX10 yX10_inYard yX10_inYard, Cond.code yX10_inYard cX10_inYard 3 (some .int), Cond.fieldLink RX10 165 "BeetHouseModel" "loads" "I", Cond.fieldLink RX10 105 "BeetHouseModel" "loadRoots" "[I"]
def wsX10_hours_r3 : List Cond := [Cond.methodLink RX10 177 yX10_brings, Cond.instanceMethod yX10_brings, Cond.selects RX10 yX10_brings yX10_brings, Cond.code yX10_brings cX10_brings 3 none, Cond.fieldLink RX10 102 "BeetHouseModel" "loadField" "[I", Cond.fieldLink RX10 108 "BeetHouseModel" "loadSugar" "[I", Cond.fieldLink RX10 16 "BeetHouseModel" "coins" "[I", Cond.fieldLink RX10 32 "BeetHouseModel" "farmer" "[I", Cond.fieldLink RX10 25 "BeetHouseModel" "prices" "[I", Cond.fieldLink RX10 59 "BeetHouseModel" "came" "[I", Cond.fieldLink RX10 99 "BeetHouseModel" "brought" "[I", Cond.methodLink RX10 214 yX10_eats, Cond.instanceMethod yX10_eats, Cond.selects RX10 yX10_eats yX10_eats, Cond.code yX10_eats cX10_eats 4 (some .int), Cond.fieldLink RX10 158 "BeetHouseModel" "rate" "I", Cond.fieldLink RX10 181 "BeetHouseModel" "won" "I", Cond.fieldLink RX10 184 "BeetHouseModel" "lack" "I", Cond.fieldLink RX10 187 "BeetHouseModel" "stood" "I", Cond.fieldLink RX10 190 "BeetHouseModel" "eaten" "I", Cond.methodLink RX10 217 yX10_ends, Cond.instanceMethod yX10_ends, Cond.selects RX10 yX10_ends yX10_ends, Cond.code yX10_ends cX10_ends 3 none]
def wsX10_hours_r4 : List Cond := [Cond.fieldLink RX10 128 "BeetHouseModel" "fields" "I", Cond.fieldLink RX10 53 "BeetHouseModel" "waste" "[I", Cond.fieldLink RX10 199 "BeetHouseModel" "wasted" "I", Cond.fieldLink RX10 56 "BeetHouseModel" "gone" "[I", Cond.fieldLink RX10 202 "BeetHouseModel" "spoiled" "I", Cond.fieldLink RX10 66 "BeetHouseModel" "covered" "[Z", Cond.methodLink RX10 195 yX10_wasteOf, Cond.instanceMethod yX10_wasteOf, Cond.selects RX10 yX10_wasteOf yX10_wasteOf, Cond.code yX10_wasteOf cX10_wasteOf 5 (some .int), Cond.fieldLink RX10 69 "BeetHouseModel" "frozen" "[Z", Cond.fieldLink RX10 22 "BeetHouseModel" "tables" "[I", Cond.fieldLink RX10 19 "BeetHouseModel" "warmths" "[I", Cond.constantLong RX10 193 (1000)]
def wsX10_hours : List Cond := .code yX10_hours cX10_hours 5 (some .int) :: ((wsX10_hours_r1 ++ (wsX10_hours_r2 ++ (wsX10_hours_r3 ++ wsX10_hours_r4))) ++ wsX100)
def wsX10_owed : List Cond := .code yX10_owed cX10_owed 2 (some .int) :: ([.constant RX10 220 (1000000000), .methodLink RX10 120 yX10_isIn, .static yX10_isIn, .initialized RX10, .code yX10_isIn cX10_isIn 2 (some .boolean), .methodLink RX10 151 yX10_owedOf, .instanceMethod yX10_owedOf, .selects RX10 yX10_owedOf yX10_owedOf, .code yX10_owedOf cX10_owedOf 5 (some .int), .fieldLink RX10 128 "BeetHouseModel" "fields" "I", .fieldLink RX10 59 "BeetHouseModel" "came" "[I", .fieldLink RX10 32 "BeetHouseModel" "farmer" "[I", .fieldLink RX10 13 "BeetHouseModel" "shares" "[I", .methodLink RX10 124 yX10_refuse, .instanceMethod yX10_refuse, .selects RX10 yX10_refuse yX10_refuse, .code yX10_refuse cX10_refuse 2 (some .int), .fieldLink RX10 7 "BeetHouseModel" "refusals" "[I"] ++ wsX100)
def wsX10_next : List Cond := .code yX10_next cX10_next 1 (some .int) :: ([.methodLink RX10 154 yX10_nextOf, .instanceMethod yX10_nextOf, .selects RX10 yX10_nextOf yX10_nextOf, .initialized RX10, .code yX10_nextOf cX10_nextOf 5 (some .int), .fieldLink RX10 128 "BeetHouseModel" "fields" "I", .fieldLink RX10 32 "BeetHouseModel" "farmer" "[I", .methodLink RX10 148 yX10_isLeft, .instanceMethod yX10_isLeft, .selects RX10 yX10_isLeft yX10_isLeft, .code yX10_isLeft cX10_isLeft 4 (some .boolean), .fieldLink RX10 44 "BeetHouseModel" "roots" "[I", .fieldLink RX10 131 "BeetHouseModel" "lorries" "I", .fieldLink RX10 81 "BeetHouseModel" "does" "[I", .fieldLink RX10 84 "BeetHouseModel" "to" "[I", .fieldLink RX10 78 "BeetHouseModel" "size" "[I", .methodLink RX10 151 yX10_owedOf, .instanceMethod yX10_owedOf, .selects RX10 yX10_owedOf yX10_owedOf, .code yX10_owedOf cX10_owedOf 5 (some .int), .fieldLink RX10 59 "BeetHouseModel" "came" "[I", .fieldLink RX10 13 "BeetHouseModel" "shares" "[I"] ++ wsX100)
def wsX10_lies : List Cond := .code yX10_lies cX10_lies 7 (some .int) :: ([.fieldLink RX10 138 "BeetHouseModel" "hour" "I", .fieldLink RX10 221 "BeetHouseModel" "heaps" "I", .fieldLink RX10 114 "BeetHouseModel" "lasts" "[I", .fieldLink RX10 111 "BeetHouseModel" "heap" "[I", .fieldLink RX10 47 "BeetHouseModel" "sugar" "[I", .methodLink RX10 195 yX10_wasteOf, .instanceMethod yX10_wasteOf, .selects RX10 yX10_wasteOf yX10_wasteOf, .initialized RX10, .code yX10_wasteOf cX10_wasteOf 5 (some .int), .fieldLink RX10 69 "BeetHouseModel" "frozen" "[Z", .fieldLink RX10 22 "BeetHouseModel" "tables" "[I", .fieldLink RX10 19 "BeetHouseModel" "warmths" "[I", .fieldLink RX10 50 "BeetHouseModel" "thawed" "[I", .methodLink RX10 168 Lib.Math.min.name, .static Lib.Math.min.name, .initialized "java/lang/Math", .code Lib.Math.min.name Lib.Math.min.code 2 (some .int), .fieldLink RX10 66 "BeetHouseModel" "covered" "[Z", .constantLong RX10 193 (1000)] ++ wsX100)
def wsX10_knows_r1 : List Cond := [Cond.fieldLink RX10 221 "BeetHouseModel" "heaps" "I", Cond.fieldLink RX10 128 "BeetHouseModel" "fields" "I", Cond.fieldLink RX10 44 "BeetHouseModel" "roots" "[I", Cond.fieldLink RX10 111 "BeetHouseModel" "heap" "[I", Cond.fieldLink RX10 158 "BeetHouseModel" "rate" "I", Cond.fieldLink RX10 62 "BeetHouseModel" "stony" "[Z", Cond.fieldLink RX10 114 "BeetHouseModel" "lasts" "[I", Cond.fieldLink RX10 117 "BeetHouseModel" "least" "[I", Cond.methodLink RX10 224 yX10_lies, Cond.instanceMethod yX10_lies, Cond.selects RX10 yX10_lies yX10_lies, Cond.initialized RX10, Cond.code yX10_lies cX10_lies 7 (some .int), Cond.fieldLink RX10 138 "BeetHouseModel" "hour" "I", Cond.fieldLink RX10 47 "BeetHouseModel" "sugar" "[I", Cond.methodLink RX10 195 yX10_wasteOf, Cond.instanceMethod yX10_wasteOf, Cond.selects RX10 yX10_wasteOf yX10_wasteOf, Cond.code yX10_wasteOf cX10_wasteOf 5 (some .int), Cond.fieldLink RX10 69 "BeetHouseModel" "frozen" "[Z", Cond.fieldLink RX10 22 "BeetHouseModel" "tables" "[I", Cond.fieldLink RX10 19 "BeetHouseModel" "warmths" "[I", Cond.fieldLink RX10 50 "BeetHouseModel" "thawed" "[I", Cond.methodLink RX10 168 Lib.Math.min.name]
def wsX10_knows_r2 : List Cond := [Cond.static Lib.Math.min.name, Cond.initialized "java/lang/Math", Cond.code Lib.Math.min.name Lib.Math.min.code 2 (some .int), Cond.fieldLink RX10 66 "BeetHouseModel" "covered" "[Z", Cond.constantLong RX10 193 (1000)]
def wsX10_knows : List Cond := .code yX10_knows cX10_knows 5 (some .boolean) :: ((wsX10_knows_r1 ++ wsX10_knows_r2) ++ wsX100)
def wsX10_best_r1 : List Cond := [Cond.fieldLink RX10 117 "BeetHouseModel" "least" "[I", Cond.methodLink RX10 227 yX10_knows, Cond.instanceMethod yX10_knows, Cond.selects RX10 yX10_knows yX10_knows, Cond.initialized RX10, Cond.code yX10_knows cX10_knows 5 (some .boolean), Cond.fieldLink RX10 221 "BeetHouseModel" "heaps" "I", Cond.fieldLink RX10 128 "BeetHouseModel" "fields" "I", Cond.fieldLink RX10 44 "BeetHouseModel" "roots" "[I", Cond.fieldLink RX10 111 "BeetHouseModel" "heap" "[I", Cond.fieldLink RX10 158 "BeetHouseModel" "rate" "I", Cond.fieldLink RX10 62 "BeetHouseModel" "stony" "[Z", Cond.fieldLink RX10 114 "BeetHouseModel" "lasts" "[I", Cond.methodLink RX10 224 yX10_lies, Cond.instanceMethod yX10_lies, Cond.selects RX10 yX10_lies yX10_lies, Cond.code yX10_lies cX10_lies 7 (some .int), Cond.fieldLink RX10 138 "BeetHouseModel" "hour" "I", Cond.fieldLink RX10 47 "BeetHouseModel" "sugar" "[I", Cond.methodLink RX10 195 yX10_wasteOf, Cond.instanceMethod yX10_wasteOf, Cond.selects RX10 yX10_wasteOf yX10_wasteOf, Cond.code yX10_wasteOf cX10_wasteOf 5 (some .int), Cond.fieldLink RX10 69 "BeetHouseModel" "frozen" "[Z"]
def wsX10_best_r2 : List Cond := [Cond.fieldLink RX10 22 "BeetHouseModel" "tables" "[I", Cond.fieldLink RX10 19 "BeetHouseModel" "warmths" "[I", Cond.fieldLink RX10 50 "BeetHouseModel" "thawed" "[I", Cond.methodLink RX10 168 Lib.Math.min.name, Cond.static Lib.Math.min.name, Cond.initialized "java/lang/Math", Cond.code Lib.Math.min.name Lib.Math.min.code 2 (some .int), Cond.fieldLink RX10 66 "BeetHouseModel" "covered" "[Z", Cond.constantLong RX10 193 (1000), Cond.methodLink RX10 124 yX10_refuse, Cond.instanceMethod yX10_refuse, Cond.selects RX10 yX10_refuse yX10_refuse, Cond.code yX10_refuse cX10_refuse 2 (some .int), Cond.fieldLink RX10 7 "BeetHouseModel" "refusals" "[I"]
def wsX10_best : List Cond := .code yX10_best cX10_best 1 (some .int) :: ((wsX10_best_r1 ++ wsX10_best_r2) ++ wsX100)
def wsX10_order_r1 : List Cond := [Cond.fieldLink RX10 221 "BeetHouseModel" "heaps" "I", Cond.fieldLink RX10 117 "BeetHouseModel" "least" "[I", Cond.fieldLink RX10 111 "BeetHouseModel" "heap" "[I", Cond.methodLink RX10 227 yX10_knows, Cond.instanceMethod yX10_knows, Cond.selects RX10 yX10_knows yX10_knows, Cond.initialized RX10, Cond.code yX10_knows cX10_knows 5 (some .boolean), Cond.fieldLink RX10 128 "BeetHouseModel" "fields" "I", Cond.fieldLink RX10 44 "BeetHouseModel" "roots" "[I", Cond.fieldLink RX10 158 "BeetHouseModel" "rate" "I", Cond.fieldLink RX10 62 "BeetHouseModel" "stony" "[Z", Cond.fieldLink RX10 114 "BeetHouseModel" "lasts" "[I", Cond.methodLink RX10 224 yX10_lies, Cond.instanceMethod yX10_lies, Cond.selects RX10 yX10_lies yX10_lies, Cond.code yX10_lies cX10_lies 7 (some .int), Cond.fieldLink RX10 138 "BeetHouseModel" "hour" "I", Cond.fieldLink RX10 47 "BeetHouseModel" "sugar" "[I", Cond.methodLink RX10 195 yX10_wasteOf, Cond.instanceMethod yX10_wasteOf, Cond.selects RX10 yX10_wasteOf yX10_wasteOf, Cond.code yX10_wasteOf cX10_wasteOf 5 (some .int), Cond.fieldLink RX10 69 "BeetHouseModel" "frozen" "[Z"]
def wsX10_order_r2 : List Cond := [Cond.fieldLink RX10 22 "BeetHouseModel" "tables" "[I", Cond.fieldLink RX10 19 "BeetHouseModel" "warmths" "[I", Cond.fieldLink RX10 50 "BeetHouseModel" "thawed" "[I", Cond.methodLink RX10 168 Lib.Math.min.name, Cond.static Lib.Math.min.name, Cond.initialized "java/lang/Math", Cond.code Lib.Math.min.name Lib.Math.min.code 2 (some .int), Cond.fieldLink RX10 66 "BeetHouseModel" "covered" "[Z", Cond.constantLong RX10 193 (1000), Cond.methodLink RX10 124 yX10_refuse, Cond.instanceMethod yX10_refuse, Cond.selects RX10 yX10_refuse yX10_refuse, Cond.code yX10_refuse cX10_refuse 2 (some .int), Cond.fieldLink RX10 7 "BeetHouseModel" "refusals" "[I", Cond.methodLink RX10 120 yX10_isIn, Cond.static yX10_isIn, Cond.code yX10_isIn cX10_isIn 2 (some .boolean)]
def wsX10_order : List Cond := .code yX10_order cX10_order 6 (some .int) :: ((wsX10_order_r1 ++ wsX10_order_r2) ++ wsX100)
def wsX10_fieldOf_r1 : List Cond := [Cond.fieldLink RX10 35 "BeetHouseModel" "ground" "[I", Cond.fieldLink RX10 44 "BeetHouseModel" "roots" "[I", Cond.fieldLink RX10 47 "BeetHouseModel" "sugar" "[I", Cond.fieldLink RX10 66 "BeetHouseModel" "covered" "[Z", Cond.fieldLink RX10 69 "BeetHouseModel" "frozen" "[Z", Cond.fieldLink RX10 50 "BeetHouseModel" "thawed" "[I", Cond.fieldLink RX10 53 "BeetHouseModel" "waste" "[I", Cond.fieldLink RX10 56 "BeetHouseModel" "gone" "[I", Cond.fieldLink RX10 59 "BeetHouseModel" "came" "[I", Cond.fieldLink RX10 32 "BeetHouseModel" "farmer" "[I", Cond.fieldLink RX10 131 "BeetHouseModel" "lorries" "I", Cond.fieldLink RX10 81 "BeetHouseModel" "does" "[I", Cond.fieldLink RX10 84 "BeetHouseModel" "to" "[I", Cond.methodLink RX10 134 yX10_isField, Cond.instanceMethod yX10_isField, Cond.selects RX10 yX10_isField yX10_isField, Cond.initialized RX10, Cond.code yX10_isField cX10_isField 2 (some .boolean), Cond.fieldLink RX10 128 "BeetHouseModel" "fields" "I", Cond.methodLink RX10 120 yX10_isIn, Cond.static yX10_isIn, Cond.code yX10_isIn cX10_isIn 2 (some .boolean), Cond.methodLink RX10 124 yX10_refuse, Cond.instanceMethod yX10_refuse]
def wsX10_fieldOf_r2 : List Cond := [Cond.selects RX10 yX10_refuse yX10_refuse, Cond.code yX10_refuse cX10_refuse 2 (some .int), Cond.fieldLink RX10 7 "BeetHouseModel" "refusals" "[I"]
def wsX10_fieldOf : List Cond := .code yX10_fieldOf cX10_fieldOf 5 (some .int) :: ((wsX10_fieldOf_r1 ++ wsX10_fieldOf_r2) ++ wsX100)
def wsX10_lorryOf : List Cond := .code yX10_lorryOf cX10_lorryOf 3 (some .int) :: ([.fieldLink RX10 81 "BeetHouseModel" "does" "[I", .fieldLink RX10 84 "BeetHouseModel" "to" "[I", .fieldLink RX10 87 "BeetHouseModel" "there" "[I", .fieldLink RX10 90 "BeetHouseModel" "has" "[I", .fieldLink RX10 93 "BeetHouseModel" "hasSugar" "[I", .fieldLink RX10 96 "BeetHouseModel" "drowned" "[I", .fieldLink RX10 99 "BeetHouseModel" "brought" "[I", .methodLink RX10 141 yX10_isLorry, .instanceMethod yX10_isLorry, .selects RX10 yX10_isLorry yX10_isLorry, .initialized RX10, .code yX10_isLorry cX10_isLorry 2 (some .boolean), .fieldLink RX10 131 "BeetHouseModel" "lorries" "I", .methodLink RX10 120 yX10_isIn, .static yX10_isIn, .code yX10_isIn cX10_isIn 2 (some .boolean), .methodLink RX10 124 yX10_refuse, .instanceMethod yX10_refuse, .selects RX10 yX10_refuse yX10_refuse, .code yX10_refuse cX10_refuse 2 (some .int), .fieldLink RX10 7 "BeetHouseModel" "refusals" "[I"] ++ wsX100)
def wsX10_load : List Cond := .code yX10_load cX10_load 3 (some .int) :: ([.fieldLink RX10 165 "BeetHouseModel" "loads" "I", .fieldLink RX10 102 "BeetHouseModel" "loadField" "[I", .fieldLink RX10 105 "BeetHouseModel" "loadRoots" "[I", .fieldLink RX10 108 "BeetHouseModel" "loadSugar" "[I", .methodLink RX10 120 yX10_isIn, .static yX10_isIn, .initialized RX10, .code yX10_isIn cX10_isIn 2 (some .boolean)] ++ wsX100)
def wsX10_coins : List Cond := .code yX10_coins cX10_coins 2 (some .int) :: ([.fieldLink RX10 16 "BeetHouseModel" "coins" "[I", .methodLink RX10 120 yX10_isIn, .static yX10_isIn, .initialized RX10, .code yX10_isIn cX10_isIn 2 (some .boolean), .methodLink RX10 124 yX10_refuse, .instanceMethod yX10_refuse, .selects RX10 yX10_refuse yX10_refuse, .code yX10_refuse cX10_refuse 2 (some .int), .fieldLink RX10 7 "BeetHouseModel" "refusals" "[I"] ++ wsX100)
def wsX10_count : List Cond := .code yX10_count cX10_count 2 (some .int) :: ([.fieldLink RX10 7 "BeetHouseModel" "refusals" "[I", .fieldLink RX10 138 "BeetHouseModel" "hour" "I", .fieldLink RX10 128 "BeetHouseModel" "fields" "I", .fieldLink RX10 131 "BeetHouseModel" "lorries" "I", .fieldLink RX10 190 "BeetHouseModel" "eaten" "I", .fieldLink RX10 181 "BeetHouseModel" "won" "I", .fieldLink RX10 187 "BeetHouseModel" "stood" "I", .fieldLink RX10 184 "BeetHouseModel" "lack" "I", .fieldLink RX10 199 "BeetHouseModel" "wasted" "I", .fieldLink RX10 202 "BeetHouseModel" "spoiled" "I", .fieldLink RX10 161 "BeetHouseModel" "isFrost" "Z", .methodLink RX10 174 yX10_inYard, .instanceMethod yX10_inYard, .selects RX10 yX10_inYard yX10_inYard, .initialized RX10, .code yX10_inYard cX10_inYard 3 (some .int), .fieldLink RX10 165 "BeetHouseModel" "loads" "I", .fieldLink RX10 105 "BeetHouseModel" "loadRoots" "[I"] ++ wsX100)
def wsJ9_max_7cf53 : List Cond := .code yJ9_max_7cf53 cJ9_max_7cf53 2 (some .int) :: ([])
def wsJ9_min_7cf53 : List Cond := .code yJ9_min_7cf53 cJ9_min_7cf53 2 (some .int) :: ([])
def wsL_law_r1 : List Cond := [Cond.classLink RL 7 RX9, Cond.instantiable RX9 12, Cond.initialized RX9, Cond.classLink RL 10 RX10, Cond.instantiable RX10 49, Cond.initialized RX10, Cond.methodLink RL 9 yX9_init, Cond.instanceMethod yX9_init, Cond.code yX9_init cX9_init 2 none, Cond.methodLink RX9 1 objectInit, Cond.instanceMethod objectInit, Cond.code objectInit ⟨#[0xb1]⟩ 1 none, Cond.classLink RX9 9 RX0, Cond.fieldLink RX9 11 "BeetHouse" "farmers" "[LBeetHouse$Farmer;", Cond.classLink RX9 15 RJx4a65c, Cond.instantiable RJx4a65c 3, Cond.initialized RJx4a65c, Cond.fieldLink RX9 18 "BeetHouse" "plots" "Ljava/util/ArrayList;", Cond.classLink RX9 22 RX1, Cond.fieldLink RX9 24 "BeetHouse" "gangs" "[LBeetHouse$Gang;", Cond.fieldLink RX9 28 "BeetHouse" "lorries" "Ljava/util/ArrayList;", Cond.classLink RX9 31 RX7, Cond.instantiable RX7 2, Cond.initialized RX7]
def wsL_law_r2 : List Cond := [Cond.fieldLink RX9 34 "BeetHouse" "weather" "LBeetHouse$Weather;", Cond.classLink RX9 38 RX8, Cond.instantiable RX8 4, Cond.initialized RX8, Cond.fieldLink RX9 41 "BeetHouse" "yard" "LBeetHouse$Yard;", Cond.classLink RX9 45 RX4, Cond.instantiable RX4 5, Cond.initialized RX4, Cond.fieldLink RX9 48 "BeetHouse" "mill" "LBeetHouse$Mill;", Cond.classLink RX9 52 RX5, Cond.instantiable RX5 7, Cond.initialized RX5, Cond.fieldLink RX9 55 "BeetHouse" "orders" "LBeetHouse$Orders;", Cond.arrayClass .int, Cond.fieldLink RX9 59 "BeetHouse" "prices" "[I", Cond.fieldLink RX9 63 "BeetHouse" "refusals" "[I", Cond.fieldLink RX9 66 "BeetHouse" "freezing" "Z", Cond.fieldLink RX9 70 "BeetHouse" "hour" "I", Cond.instantiable RX0 4, Cond.initialized RX0, Cond.instantiable RX1 2, Cond.initialized RX1, Cond.methodLink RX9 17 yJx4a65c_init_da8c8, Cond.instanceMethod yJx4a65c_init_da8c8]
def wsL_law_r3 : List Cond := [Cond.code yJx4a65c_init_da8c8 cJx4a65c_init_da8c8 1 none, Cond.fieldLink RJx4a65c 39 "java/util/ArrayList" "DEFAULTCAPACITY_EMPTY_ELEMENTDATA" "[Ljava/lang/Object;", Cond.fieldLink RJx4a65c 9 "java/util/ArrayList" "elementData" "[Ljava/lang/Object;", Cond.methodLink RJx4a65c 1 yJxc12de_init_da8c8, Cond.instanceMethod yJxc12de_init_da8c8, Cond.initialized RJxc12de, Cond.code yJxc12de_init_da8c8 cJxc12de_init_da8c8 1 none, Cond.fieldLink RJxc12de 7 "java/util/AbstractList" "modCount" "I", Cond.methodLink RJxc12de 1 yJxa1e45_init_da8c8, Cond.instanceMethod yJxa1e45_init_da8c8, Cond.initialized RJxa1e45, Cond.code yJxa1e45_init_da8c8 cJxa1e45_init_da8c8 1 none, Cond.methodLink RJxa1e45 1 objectInit, Cond.instanceMethod yX7_init, Cond.code yX7_init cX7_init 2 none, Cond.methodLink RX7 3 objectInit, Cond.fieldLink RX7 9 "BeetHouse$Weather" "warmths" "[I", Cond.fieldLink RX7 15 "BeetHouse$Weather" "numbers" "[I", Cond.instanceMethod yX8_init, Cond.code yX8_init cX8_init 1 none, Cond.methodLink RX8 1 objectInit, Cond.classLink RX8 7 RJx4a65c, Cond.fieldLink RX8 10 "BeetHouse$Yard" "loads" "Ljava/util/ArrayList;", Cond.fieldLink RX8 16 "BeetHouse$Yard" "room" "I"]
def wsL_law_r4 : List Cond := [Cond.fieldLink RX8 20 "BeetHouse$Yard" "roots" "I", Cond.fieldLink RX8 23 "BeetHouse$Yard" "came" "I", Cond.methodLink RX8 9 yJx4a65c_init_da8c8, Cond.instanceMethod yX4_init, Cond.code yX4_init cX4_init 1 none, Cond.methodLink RX4 1 objectInit, Cond.fieldLink RX4 7 "BeetHouse$Mill" "rate" "I", Cond.fieldLink RX4 13 "BeetHouse$Mill" "eaten" "I", Cond.fieldLink RX4 16 "BeetHouse$Mill" "sugarWon" "I", Cond.fieldLink RX4 19 "BeetHouse$Mill" "stood" "I", Cond.fieldLink RX4 22 "BeetHouse$Mill" "lack" "I", Cond.instanceMethod yX5_init, Cond.code yX5_init cX5_init 1 none, Cond.methodLink RX5 3 objectInit, Cond.fieldLink RX5 9 "BeetHouse$Orders" "numbers" "[I", Cond.classLink RX5 15 "[[I", Cond.fieldLink RX5 17 "BeetHouse$Orders" "wasteByEnds" "[[I", Cond.fieldLink RX5 20 "BeetHouse$Orders" "begins" "[I", Cond.fieldLink RX5 23 "BeetHouse$Orders" "leastAfter" "[I", Cond.fieldLink RX5 26 "BeetHouse$Orders" "chosenAfter" "[I", Cond.fieldLink RX5 29 "BeetHouse$Orders" "size" "I", Cond.fieldLink RX5 33 "BeetHouse$Orders" "now" "I", Cond.instanceMethod yX0_init, Cond.code yX0_init cX0_init 2 none]
def wsL_law_r5 : List Cond := [Cond.methodLink RX0 1 objectInit, Cond.fieldLink RX0 7 "BeetHouse$Farmer" "share" "I", Cond.fieldLink RX0 13 "BeetHouse$Farmer" "coins" "I", Cond.fieldLink RX0 16 "BeetHouse$Farmer" "came" "I", Cond.fieldLink RX0 19 "BeetHouse$Farmer" "number" "I", Cond.instanceMethod yX1_init, Cond.code yX1_init cX1_init 1 none, Cond.methodLink RX1 1 objectInit, Cond.fieldLink RX1 7 "BeetHouse$Gang" "rate" "I", Cond.fieldLink RX1 13 "BeetHouse$Gang" "plot" "LBeetHouse$Plot;", Cond.methodLink RL 12 yX10_init, Cond.instanceMethod yX10_init, Cond.code yX10_init cX10_init 2 none, Cond.methodLink RX10 1 objectInit, Cond.fieldLink RX10 7 "BeetHouseModel" "refusals" "[I", Cond.fieldLink RX10 13 "BeetHouseModel" "shares" "[I", Cond.fieldLink RX10 16 "BeetHouseModel" "coins" "[I", Cond.fieldLink RX10 19 "BeetHouseModel" "warmths" "[I", Cond.fieldLink RX10 22 "BeetHouseModel" "tables" "[I", Cond.fieldLink RX10 25 "BeetHouseModel" "prices" "[I", Cond.fieldLink RX10 28 "BeetHouseModel" "room" "I", Cond.fieldLink RX10 32 "BeetHouseModel" "farmer" "[I", Cond.fieldLink RX10 35 "BeetHouseModel" "ground" "[I", Cond.fieldLink RX10 38 "BeetHouseModel" "sweet" "[I"]
def wsL_law_r6 : List Cond := [Cond.fieldLink RX10 41 "BeetHouseModel" "way" "[I", Cond.fieldLink RX10 44 "BeetHouseModel" "roots" "[I", Cond.fieldLink RX10 47 "BeetHouseModel" "sugar" "[I", Cond.fieldLink RX10 50 "BeetHouseModel" "thawed" "[I", Cond.fieldLink RX10 53 "BeetHouseModel" "waste" "[I", Cond.fieldLink RX10 56 "BeetHouseModel" "gone" "[I", Cond.fieldLink RX10 59 "BeetHouseModel" "came" "[I", Cond.arrayClass .boolean, Cond.fieldLink RX10 62 "BeetHouseModel" "stony" "[Z", Cond.fieldLink RX10 66 "BeetHouseModel" "covered" "[Z", Cond.fieldLink RX10 69 "BeetHouseModel" "frozen" "[Z", Cond.fieldLink RX10 72 "BeetHouseModel" "gangRate" "[I", Cond.fieldLink RX10 75 "BeetHouseModel" "gangField" "[I", Cond.fieldLink RX10 78 "BeetHouseModel" "size" "[I", Cond.fieldLink RX10 81 "BeetHouseModel" "does" "[I", Cond.fieldLink RX10 84 "BeetHouseModel" "to" "[I", Cond.fieldLink RX10 87 "BeetHouseModel" "there" "[I", Cond.fieldLink RX10 90 "BeetHouseModel" "has" "[I", Cond.fieldLink RX10 93 "BeetHouseModel" "hasSugar" "[I", Cond.fieldLink RX10 96 "BeetHouseModel" "drowned" "[I", Cond.fieldLink RX10 99 "BeetHouseModel" "brought" "[I", Cond.fieldLink RX10 102 "BeetHouseModel" "loadField" "[I", Cond.fieldLink RX10 105 "BeetHouseModel" "loadRoots" "[I", Cond.fieldLink RX10 108 "BeetHouseModel" "loadSugar" "[I"]
def wsL_law_r7 : List Cond := [Cond.fieldLink RX10 111 "BeetHouseModel" "heap" "[I", Cond.fieldLink RX10 114 "BeetHouseModel" "lasts" "[I", Cond.fieldLink RX10 117 "BeetHouseModel" "least" "[I", Cond.methodLink RL 13 yX9_share, Cond.instanceMethod yX9_share, Cond.selects RX9 yX9_share yX9_share, Cond.code yX9_share cX9_share 6 (some .int), Cond.methodLink RX9 78 yX9_farmerAt, Cond.instanceMethod yX9_farmerAt, Cond.selects RX9 yX9_farmerAt yX9_farmerAt, Cond.code yX9_farmerAt cX9_farmerAt 2 (some (.object "BeetHouse$Farmer")), Cond.methodLink RX9 82 yX9_refuse, Cond.instanceMethod yX9_refuse, Cond.selects RX9 yX9_refuse yX9_refuse, Cond.code yX9_refuse cX9_refuse 2 (some .int), Cond.methodLink RX9 86 yX9_outside, Cond.static yX9_outside, Cond.code yX9_outside cX9_outside 3 (some .int), Cond.methodLink RL 17 yX10_share, Cond.instanceMethod yX10_share, Cond.selects RX10 yX10_share yX10_share, Cond.code yX10_share cX10_share 4 (some .int), Cond.methodLink RX10 120 yX10_isIn, Cond.static yX10_isIn]
def wsL_law_r8 : List Cond := [Cond.code yX10_isIn cX10_isIn 2 (some .boolean), Cond.methodLink RX10 124 yX10_refuse, Cond.instanceMethod yX10_refuse, Cond.selects RX10 yX10_refuse yX10_refuse, Cond.code yX10_refuse cX10_refuse 2 (some .int), Cond.methodLink RL 18 yX9_field, Cond.instanceMethod yX9_field, Cond.selects RX9 yX9_field yX9_field, Cond.code yX9_field cX9_field 8 (some .int), Cond.classLink RX9 97 RX6, Cond.instantiable RX6 14, Cond.initialized RX6, Cond.methodLink RX9 93 yJx4a65c_size_8abf5, Cond.instanceMethod yJx4a65c_size_8abf5, Cond.selects RJx4a65c yJx4a65c_size_8abf5 yJx4a65c_size_8abf5, Cond.code yJx4a65c_size_8abf5 cJx4a65c_size_8abf5 1 (some .int), Cond.fieldLink RJx4a65c 48 "java/util/ArrayList" "size" "I", Cond.instanceMethod yX6_init, Cond.code yX6_init cX6_init 7 none, Cond.methodLink RX6 3 objectInit, Cond.fieldLink RX6 9 "BeetHouse$Plot" "roots" "I", Cond.fieldLink RX6 15 "BeetHouse$Plot" "sugar" "I", Cond.fieldLink RX6 18 "BeetHouse$Plot" "covered" "Z", Cond.fieldLink RX6 22 "BeetHouse$Plot" "frozen" "Z"]
def wsL_law_r9 : List Cond := [Cond.fieldLink RX6 25 "BeetHouse$Plot" "thawedSince" "I", Cond.fieldLink RX6 28 "BeetHouse$Plot" "wasted" "I", Cond.fieldLink RX6 31 "BeetHouse$Plot" "spoiled" "I", Cond.fieldLink RX6 34 "BeetHouse$Plot" "came" "I", Cond.fieldLink RX6 37 "BeetHouse$Plot" "number" "I", Cond.fieldLink RX6 40 "BeetHouse$Plot" "farmer" "LBeetHouse$Farmer;", Cond.fieldLink RX6 44 "BeetHouse$Plot" "ground" "I", Cond.fieldLink RX6 47 "BeetHouse$Plot" "sweet" "I", Cond.fieldLink RX6 50 "BeetHouse$Plot" "way" "I", Cond.fieldLink RX6 53 "BeetHouse$Plot" "stony" "Z", Cond.methodLink RX9 102 yJx4a65c_add_9ea2d, Cond.instanceMethod yJx4a65c_add_9ea2d, Cond.selects RJx4a65c yJx4a65c_add_9ea2d yJx4a65c_add_9ea2d, Cond.code yJx4a65c_add_9ea2d cJx4a65c_add_9ea2d 2 (some .boolean), Cond.fieldLink RJx4a65c 63 "java/util/ArrayList" "modCount" "I", Cond.sameField "java/util/ArrayList" "java/util/AbstractList" "modCount" "I", Cond.methodLink RJx4a65c 131 yJx4a65c_add_72be8, Cond.instanceMethod yJx4a65c_add_72be8, Cond.selects RJx4a65c yJx4a65c_add_72be8 yJx4a65c_add_72be8, Cond.code yJx4a65c_add_72be8 cJx4a65c_add_72be8 4 none, Cond.methodLink RJx4a65c 129 yJx4a65c_grow_d5877, Cond.instanceMethod yJx4a65c_grow_d5877, Cond.selects RJx4a65c yJx4a65c_grow_d5877 yJx4a65c_grow_d5877, Cond.code yJx4a65c_grow_d5877 cJx4a65c_grow_d5877 1 (some (.array (.object "java/lang/Object")))]
def wsL_law_r10 : List Cond := [Cond.methodLink RJx4a65c 69 yJx4a65c_grow_92f84, Cond.instanceMethod yJx4a65c_grow_92f84, Cond.selects RJx4a65c yJx4a65c_grow_92f84 yJx4a65c_grow_92f84, Cond.code yJx4a65c_grow_92f84 cJx4a65c_grow_92f84 4 (some (.array (.object "java/lang/Object"))), Cond.methodLink RJx4a65c 79 Lib.Math.max.name, Cond.static Lib.Math.max.name, Cond.initialized "java/lang/Math", Cond.code Lib.Math.max.name Lib.Math.max.code 2 (some .int), Cond.classLink RJx4a65c 7 "java/lang/Object", Cond.methodLink RJx4a65c 73 yJ8_newLength_cabcc, Cond.static yJ8_newLength_cabcc, Cond.initialized RJ8, Cond.code yJ8_newLength_cabcc cJ8_newLength_cabcc 4 (some .int), Cond.methodLink RJ8 194 Lib.Math.max.name, Cond.constant RJ8 200 (2147483639), Cond.methodLink RJ8 201 yJ8_hugeLength_7cf53, Cond.static yJ8_hugeLength_7cf53, Cond.code yJ8_hugeLength_7cf53 cJ8_hugeLength_7cf53 3 (some .int), Cond.methodLink RJx4a65c 66 yJ7_copyOf_1904c, Cond.static yJ7_copyOf_1904c, Cond.initialized RJ7, Cond.code yJ7_copyOf_1904c cJ7_copyOf_1904c 2 (some (.array (.object "java/lang/Object"))), Cond.methodLink RJ7 86 ⟨"java/lang/Object", "getClass", "()Ljava/lang/Class;"⟩, Cond.selects "[Ljava/lang/Object;" ⟨"java/lang/Object", "getClass", "()Ljava/lang/Class;"⟩ ⟨"java/lang/Object", "getClass", "()Ljava/lang/Class;"⟩]
def wsL_law_r11 : List Cond := [Cond.instanceMethod ⟨"java/lang/Object", "getClass", "()Ljava/lang/Class;"⟩, Cond.native ⟨"java/lang/Object", "getClass", "()Ljava/lang/Class;"⟩, Cond.methodLink RJ7 300 yJ7_copyOf_6403c, Cond.static yJ7_copyOf_6403c, Cond.code yJ7_copyOf_6403c cJ7_copyOf_6403c 4 (some (.array (.object "java/lang/Object"))), Cond.classLink RJ7 110 "[Ljava/lang/Object;", Cond.classLink RJ7 2 "java/lang/Object", Cond.methodLink RJ7 304 Lib.Math.min.name, Cond.static Lib.Math.min.name, Cond.code Lib.Math.min.name Lib.Math.min.code 2 (some .int), Cond.methodLink RJ7 150 arraycopyName, Cond.native arraycopyName, Cond.static arraycopyName, Cond.initialized "java/lang/System", Cond.methodLink RL 22 yX10_field, Cond.instanceMethod yX10_field, Cond.selects RX10 yX10_field yX10_field, Cond.code yX10_field cX10_field 7 (some .int), Cond.fieldLink RX10 128 "BeetHouseModel" "fields" "I", Cond.methodLink RL 23 yX9_gang, Cond.instanceMethod yX9_gang, Cond.selects RX9 yX9_gang yX9_gang, Cond.code yX9_gang cX9_gang 6 (some .int), Cond.methodLink RX9 106 yX9_plotAt]
def wsL_law_r12 : List Cond := [Cond.instanceMethod yX9_plotAt, Cond.selects RX9 yX9_plotAt yX9_plotAt, Cond.code yX9_plotAt cX9_plotAt 2 (some (.object "BeetHouse$Plot")), Cond.classLink RX9 97 "BeetHouse$Plot", Cond.methodLink RX9 172 yJx4a65c_get_915e3, Cond.instanceMethod yJx4a65c_get_915e3, Cond.selects RJx4a65c yJx4a65c_get_915e3 yJx4a65c_get_915e3, Cond.code yJx4a65c_get_915e3 cJx4a65c_get_915e3 2 (some (.object "java/lang/Object")), Cond.methodLink RJx4a65c 118 yJ15_checkIndex_7cf53, Cond.static yJ15_checkIndex_7cf53, Cond.initialized RJ15, Cond.code yJ15_checkIndex_7cf53 cJ15_checkIndex_7cf53 2 (some .int), Cond.methodLink RJ15 105 yJ3_checkIndex_8e157, Cond.static yJ3_checkIndex_8e157, Cond.initialized RJ3, Cond.code yJ3_checkIndex_8e157 cJ3_checkIndex_8e157 3 (some .int), Cond.methodLink RJx4a65c 123 yJx4a65c_elementData_915e3, Cond.instanceMethod yJx4a65c_elementData_915e3, Cond.selects RJx4a65c yJx4a65c_elementData_915e3 yJx4a65c_elementData_915e3, Cond.code yJx4a65c_elementData_915e3 cJx4a65c_elementData_915e3 2 (some (.object "java/lang/Object")), Cond.methodLink RL 27 yX10_gang, Cond.instanceMethod yX10_gang, Cond.selects RX10 yX10_gang yX10_gang, Cond.code yX10_gang cX10_gang 4 (some .int)]
def wsL_law_r13 : List Cond := [Cond.methodLink RX10 134 yX10_isField, Cond.instanceMethod yX10_isField, Cond.selects RX10 yX10_isField yX10_isField, Cond.code yX10_isField cX10_isField 2 (some .boolean), Cond.methodLink RL 28 yX9_lorry, Cond.instanceMethod yX9_lorry, Cond.selects RX9 yX9_lorry yX9_lorry, Cond.code yX9_lorry cX9_lorry 2 (some .int), Cond.classLink RX9 117 RX3, Cond.instantiable RX3 8, Cond.initialized RX3, Cond.instanceMethod yX3_init, Cond.code yX3_init cX3_init 2 none, Cond.methodLink RX3 3 objectInit, Cond.fieldLink RX3 9 "BeetHouse$Lorry" "state" "I", Cond.fieldLink RX3 15 "BeetHouse$Lorry" "plot" "LBeetHouse$Plot;", Cond.fieldLink RX3 19 "BeetHouse$Lorry" "there" "I", Cond.fieldLink RX3 22 "BeetHouse$Lorry" "roots" "I", Cond.fieldLink RX3 25 "BeetHouse$Lorry" "sugar" "I", Cond.fieldLink RX3 28 "BeetHouse$Lorry" "drowned" "I", Cond.fieldLink RX3 31 "BeetHouse$Lorry" "brought" "I", Cond.fieldLink RX3 34 "BeetHouse$Lorry" "capacity" "I", Cond.methodLink RL 32 yX10_lorry, Cond.instanceMethod yX10_lorry]
def wsL_law_r14 : List Cond := [Cond.selects RX10 yX10_lorry yX10_lorry, Cond.code yX10_lorry cX10_lorry 2 (some .int), Cond.fieldLink RX10 131 "BeetHouseModel" "lorries" "I", Cond.methodLink RL 33 yX9_send, Cond.instanceMethod yX9_send, Cond.selects RX9 yX9_send yX9_send, Cond.code yX9_send cX9_send 5 (some .int), Cond.methodLink RX9 120 yX9_lorryAt, Cond.instanceMethod yX9_lorryAt, Cond.selects RX9 yX9_lorryAt yX9_lorryAt, Cond.code yX9_lorryAt cX9_lorryAt 2 (some (.object "BeetHouse$Lorry")), Cond.classLink RX9 117 "BeetHouse$Lorry", Cond.instanceMethod yX3_setOut, Cond.selects RX3 yX3_setOut yX3_setOut, Cond.code yX3_setOut cX3_setOut 3 none, Cond.methodLink RL 36 yX10_send, Cond.instanceMethod yX10_send, Cond.selects RX10 yX10_send yX10_send, Cond.code yX10_send cX10_send 3 (some .int), Cond.methodLink RX10 141 yX10_isLorry, Cond.instanceMethod yX10_isLorry, Cond.selects RX10 yX10_isLorry yX10_isLorry, Cond.code yX10_isLorry cX10_isLorry 2 (some .boolean), Cond.methodLink RX10 144 yX10_goes]
def wsL_law_r15 : List Cond := [Cond.instanceMethod yX10_goes, Cond.selects RX10 yX10_goes yX10_goes, Cond.code yX10_goes cX10_goes 3 none, Cond.fieldLink RX10 138 "BeetHouseModel" "hour" "I", Cond.methodLink RL 37 yX9_turn, Cond.instanceMethod yX9_turn, Cond.selects RX9 yX9_turn yX9_turn, Cond.code yX9_turn cX9_turn 3 (some .int), Cond.methodLink RX9 134 yX9_firstHome, Cond.instanceMethod yX9_firstHome, Cond.selects RX9 yX9_firstHome yX9_firstHome, Cond.code yX9_firstHome cX9_firstHome 2 (some (.object "BeetHouse$Lorry")), Cond.methodLink RX9 138 yX9_mostOwed, Cond.instanceMethod yX9_mostOwed, Cond.selects RX9 yX9_mostOwed yX9_mostOwed, Cond.code yX9_mostOwed cX9_mostOwed 4 (some (.object "BeetHouse$Farmer")), Cond.methodLink RX9 274 yX9_hasRootsToSpare, Cond.instanceMethod yX9_hasRootsToSpare, Cond.selects RX9 yX9_hasRootsToSpare yX9_hasRootsToSpare, Cond.code yX9_hasRootsToSpare cX9_hasRootsToSpare 5 (some .boolean), Cond.instanceMethod yX3_isOutTo, Cond.selects RX3 yX3_isOutTo yX3_isOutTo, Cond.code yX3_isOutTo cX3_isOutTo 2 (some .boolean), Cond.instanceMethod yX0_comesBefore]
def wsL_law_r16 : List Cond := [Cond.selects RX0 yX0_comesBefore yX0_comesBefore, Cond.code yX0_comesBefore cX0_comesBefore 5 (some .boolean), Cond.methodLink RX0 22 yX0_claim, Cond.instanceMethod yX0_claim, Cond.selects RX0 yX0_claim yX0_claim, Cond.code yX0_claim cX0_claim 2 (some .int), Cond.methodLink RX9 142 yX9_sweetestOf, Cond.instanceMethod yX9_sweetestOf, Cond.selects RX9 yX9_sweetestOf yX9_sweetestOf, Cond.code yX9_sweetestOf cX9_sweetestOf 5 (some (.object "BeetHouse$Plot")), Cond.methodLink RL 41 yX10_turn, Cond.instanceMethod yX10_turn, Cond.selects RX10 yX10_turn yX10_turn, Cond.code yX10_turn cX10_turn 5 (some .int), Cond.methodLink RX10 154 yX10_nextOf, Cond.instanceMethod yX10_nextOf, Cond.selects RX10 yX10_nextOf yX10_nextOf, Cond.code yX10_nextOf cX10_nextOf 5 (some .int), Cond.methodLink RX10 148 yX10_isLeft, Cond.instanceMethod yX10_isLeft, Cond.selects RX10 yX10_isLeft yX10_isLeft, Cond.code yX10_isLeft cX10_isLeft 4 (some .boolean), Cond.methodLink RX10 151 yX10_owedOf, Cond.instanceMethod yX10_owedOf]
def wsL_law_r17 : List Cond := [Cond.selects RX10 yX10_owedOf yX10_owedOf, Cond.code yX10_owedOf cX10_owedOf 5 (some .int), Cond.methodLink RL 42 yX9_works, Cond.instanceMethod yX9_works, Cond.selects RX9 yX9_works yX9_works, Cond.code yX9_works cX9_works 5 (some .int), Cond.methodLink RL 45 yX10_works, Cond.instanceMethod yX10_works, Cond.selects RX10 yX10_works yX10_works, Cond.code yX10_works cX10_works 4 (some .int), Cond.fieldLink RX10 158 "BeetHouseModel" "rate" "I", Cond.methodLink RL 46 yX9_table, Cond.instanceMethod yX9_table, Cond.selects RX9 yX9_table yX9_table, Cond.code yX9_table cX9_table 3 (some .int), Cond.methodLink RX9 156 yX9_put, Cond.instanceMethod yX9_put, Cond.selects RX9 yX9_put yX9_put, Cond.code yX9_put cX9_put 8 (some .int), Cond.methodLink RL 49 yX10_table, Cond.instanceMethod yX10_table, Cond.selects RX10 yX10_table yX10_table, Cond.code yX10_table cX10_table 4 (some .int), Cond.methodLink RL 50 yX9_warmth]
def wsL_law_r18 : List Cond := [Cond.instanceMethod yX9_warmth, Cond.selects RX9 yX9_warmth yX9_warmth, Cond.code yX9_warmth cX9_warmth 3 (some .int), Cond.methodLink RL 53 yX10_warmth, Cond.instanceMethod yX10_warmth, Cond.selects RX10 yX10_warmth yX10_warmth, Cond.code yX10_warmth cX10_warmth 4 (some .int), Cond.methodLink RL 54 yX9_price, Cond.instanceMethod yX9_price, Cond.selects RX9 yX9_price yX9_price, Cond.code yX9_price cX9_price 3 (some .int), Cond.methodLink RL 57 yX10_price, Cond.instanceMethod yX10_price, Cond.selects RX10 yX10_price yX10_price, Cond.code yX10_price cX10_price 4 (some .int), Cond.methodLink RL 58 yX9_cover, Cond.instanceMethod yX9_cover, Cond.selects RX9 yX9_cover yX9_cover, Cond.code yX9_cover cX9_cover 4 (some .int), Cond.methodLink RL 62 yX10_cover, Cond.instanceMethod yX10_cover, Cond.selects RX10 yX10_cover yX10_cover, Cond.code yX10_cover cX10_cover 3 (some .int), Cond.methodLink RL 63 yX9_frost]
def wsL_law_r19 : List Cond := [Cond.instanceMethod yX9_frost, Cond.selects RX9 yX9_frost yX9_frost, Cond.code yX9_frost cX9_frost 5 (some .int), Cond.instanceMethod yX6_freeze, Cond.selects RX6 yX6_freeze yX6_freeze, Cond.code yX6_freeze cX6_freeze 1 (some .boolean), Cond.instanceMethod yX6_thaw, Cond.selects RX6 yX6_thaw yX6_thaw, Cond.code yX6_thaw cX6_thaw 3 (some .boolean), Cond.methodLink RL 67 yX10_frost, Cond.instanceMethod yX10_frost, Cond.selects RX10 yX10_frost yX10_frost, Cond.code yX10_frost cX10_frost 4 (some .int), Cond.fieldLink RX10 161 "BeetHouseModel" "isFrost" "Z", Cond.methodLink RL 68 yX9_hours, Cond.instanceMethod yX9_hours, Cond.selects RX9 yX9_hours yX9_hours, Cond.code yX9_hours cX9_hours 4 (some .int), Cond.methodLink RX9 187 yX9_passHour, Cond.instanceMethod yX9_passHour, Cond.selects RX9 yX9_passHour yX9_passHour, Cond.code yX9_passHour cX9_passHour 2 none, Cond.methodLink RX9 281 yX9_liftRoots, Cond.instanceMethod yX9_liftRoots]
def wsL_law_r20 : List Cond := [Cond.selects RX9 yX9_liftRoots yX9_liftRoots, Cond.code yX9_liftRoots cX9_liftRoots 3 none, Cond.instanceMethod yX6_lift, Cond.selects RX6 yX6_lift yX6_lift, Cond.code yX6_lift cX6_lift 3 none, Cond.methodLink RX6 56 Lib.Math.min.name, Cond.instanceMethod yX3_arrive, Cond.selects RX3 yX3_arrive yX3_arrive, Cond.code yX3_arrive cX3_arrive 2 none, Cond.methodLink RX3 42 yX3_fill, Cond.instanceMethod yX3_fill, Cond.selects RX3 yX3_fill yX3_fill, Cond.code yX3_fill cX3_fill 3 none, Cond.methodLink RX3 51 Lib.Math.min.name, Cond.instanceMethod yX6_sugarIn, Cond.selects RX6 yX6_sugarIn yX6_sugarIn, Cond.code yX6_sugarIn cX6_sugarIn 2 (some .int), Cond.instanceMethod yX6_lose, Cond.selects RX6 yX6_lose yX6_lose, Cond.code yX6_lose cX6_lose 3 none, Cond.instanceMethod yX6_wayBack, Cond.selects RX6 yX6_wayBack yX6_wayBack, Cond.code yX6_wayBack cX6_wayBack 1 (some .int), Cond.methodLink RX9 287 yX9_unloadLorries]
def wsL_law_r21 : List Cond := [Cond.instanceMethod yX9_unloadLorries, Cond.selects RX9 yX9_unloadLorries yX9_unloadLorries, Cond.code yX9_unloadLorries cX9_unloadLorries 4 none, Cond.instanceMethod yX8_hasRoomFor, Cond.selects RX8 yX8_hasRoomFor yX8_hasRoomFor, Cond.code yX8_hasRoomFor cX8_hasRoomFor 2 (some .boolean), Cond.methodLink RX9 306 yX9_unloadOne, Cond.instanceMethod yX9_unloadOne, Cond.selects RX9 yX9_unloadOne yX9_unloadOne, Cond.code yX9_unloadOne cX9_unloadOne 3 none, Cond.classLink RX9 243 RX2, Cond.instantiable RX2 3, Cond.initialized RX2, Cond.instanceMethod yX2_init, Cond.code yX2_init cX2_init 4 none, Cond.methodLink RX2 1 objectInit, Cond.fieldLink RX2 7 "BeetHouse$Load" "plot" "LBeetHouse$Plot;", Cond.fieldLink RX2 13 "BeetHouse$Load" "roots" "I", Cond.fieldLink RX2 17 "BeetHouse$Load" "sugar" "I", Cond.instanceMethod yX8_take, Cond.selects RX8 yX8_take yX8_take, Cond.code yX8_take cX8_take 2 none, Cond.methodLink RX8 26 yJx4a65c_add_9ea2d, Cond.methodLink RX9 317 yX9_pay]
def wsL_law_r22 : List Cond := [Cond.instanceMethod yX9_pay, Cond.selects RX9 yX9_pay yX9_pay, Cond.code yX9_pay cX9_pay 3 none, Cond.methodLink RX9 323 Lib.Math.min.name, Cond.instanceMethod yX3_comeHome, Cond.selects RX3 yX3_comeHome yX3_comeHome, Cond.code yX3_comeHome cX3_comeHome 1 none, Cond.instanceMethod yX4_grind, Cond.selects RX4 yX4_grind yX4_grind, Cond.code yX4_grind cX4_grind 6 none, Cond.classLink RX4 41 "BeetHouse$Load", Cond.methodLink RX4 56 Lib.Math.min.name, Cond.methodLink RX4 31 yJx4a65c_isEmpty_aae02, Cond.instanceMethod yJx4a65c_isEmpty_aae02, Cond.selects RJx4a65c yJx4a65c_isEmpty_aae02 yJx4a65c_isEmpty_aae02, Cond.code yJx4a65c_isEmpty_aae02 cJx4a65c_isEmpty_aae02 1 (some .boolean), Cond.methodLink RX4 37 yJx4a65c_get_915e3, Cond.instanceMethod yX6_rootsFor, Cond.selects RX6 yX6_rootsFor yX6_rootsFor, Cond.code yX6_rootsFor cX6_rootsFor 2 (some .int), Cond.instanceMethod yX6_unitsFor, Cond.selects RX6 yX6_unitsFor yX6_unitsFor, Cond.code yX6_unitsFor cX6_unitsFor 2 (some .int), Cond.methodLink RX4 69 yJx4a65c_remove_915e3]
def wsL_law_r23 : List Cond := [Cond.instanceMethod yJx4a65c_remove_915e3, Cond.selects RJx4a65c yJx4a65c_remove_915e3 yJx4a65c_remove_915e3, Cond.code yJx4a65c_remove_915e3 cJx4a65c_remove_915e3 4 (some (.object "java/lang/Object")), Cond.methodLink RJx4a65c 144 yJx4a65c_fastRemove_b59b0, Cond.instanceMethod yJx4a65c_fastRemove_b59b0, Cond.selects RJx4a65c yJx4a65c_fastRemove_b59b0 yJx4a65c_fastRemove_b59b0, Cond.code yJx4a65c_fastRemove_b59b0 cJx4a65c_fastRemove_b59b0 4 none, Cond.methodLink RJx4a65c 112 arraycopyName, Cond.methodLink RX9 294 yX9_wasteHeaps, Cond.instanceMethod yX9_wasteHeaps, Cond.selects RX9 yX9_wasteHeaps yX9_wasteHeaps, Cond.code yX9_wasteHeaps cX9_wasteHeaps 3 none, Cond.instanceMethod yX7_numberOf, Cond.selects RX7 yX7_numberOf yX7_numberOf, Cond.code yX7_numberOf cX7_numberOf 3 (some .int), Cond.instanceMethod yX6_waste, Cond.selects RX6 yX6_waste yX6_waste, Cond.code yX6_waste cX6_waste 3 none, Cond.methodLink RX6 64 yX6_wasteOf, Cond.instanceMethod yX6_wasteOf, Cond.selects RX6 yX6_wasteOf yX6_wasteOf, Cond.code yX6_wasteOf cX6_wasteOf 4 (some .int), Cond.constantLong RX6 62 (1000), Cond.instanceMethod yX6_spoil]
def wsL_law_r24 : List Cond := [Cond.selects RX6 yX6_spoil yX6_spoil, Cond.code yX6_spoil cX6_spoil 2 none, Cond.methodLink RX6 67 yX6_lose, Cond.methodLink RL 71 yX10_hours, Cond.instanceMethod yX10_hours, Cond.selects RX10 yX10_hours yX10_hours, Cond.code yX10_hours cX10_hours 5 (some .int), Cond.methodLink RX10 205 yX10_lifts, Cond.instanceMethod yX10_lifts, Cond.selects RX10 yX10_lifts yX10_lifts, Cond.code yX10_lifts cX10_lifts 4 none, Cond.methodLink RX10 168 Lib.Math.min.name, Cond.methodLink RX10 208 yX10_arrives, Cond.instanceMethod yX10_arrives, Cond.selects RX10 yX10_arrives yX10_arrives, Cond.code yX10_arrives cX10_arrives 5 none, Cond.methodLink RX10 211 yX10_unloads, Cond.instanceMethod yX10_unloads, Cond.selects RX10 yX10_unloads yX10_unloads, Cond.code yX10_unloads cX10_unloads 3 none, Cond.methodLink RX10 174 yX10_inYard, Cond.instanceMethod yX10_inYard, Cond.selects RX10 yX10_inYard yX10_inYard, Cond.code yX10_inYard cX10_inYard 3 (some .int)]
def wsL_law_r25 : List Cond := [Cond.fieldLink RX10 165 "BeetHouseModel" "loads" "I", Cond.methodLink RX10 177 yX10_brings, Cond.instanceMethod yX10_brings, Cond.selects RX10 yX10_brings yX10_brings, Cond.code yX10_brings cX10_brings 3 none, Cond.methodLink RX10 214 yX10_eats, Cond.instanceMethod yX10_eats, Cond.selects RX10 yX10_eats yX10_eats, Cond.code yX10_eats cX10_eats 4 (some .int), Cond.fieldLink RX10 181 "BeetHouseModel" "won" "I", Cond.fieldLink RX10 184 "BeetHouseModel" "lack" "I", Cond.fieldLink RX10 187 "BeetHouseModel" "stood" "I", Cond.fieldLink RX10 190 "BeetHouseModel" "eaten" "I", Cond.methodLink RX10 217 yX10_ends, Cond.instanceMethod yX10_ends, Cond.selects RX10 yX10_ends yX10_ends, Cond.code yX10_ends cX10_ends 3 none, Cond.fieldLink RX10 199 "BeetHouseModel" "wasted" "I", Cond.fieldLink RX10 202 "BeetHouseModel" "spoiled" "I", Cond.methodLink RX10 195 yX10_wasteOf, Cond.instanceMethod yX10_wasteOf, Cond.selects RX10 yX10_wasteOf yX10_wasteOf, Cond.code yX10_wasteOf cX10_wasteOf 5 (some .int), Cond.constantLong RX10 193 (1000)]
def wsL_law_r26 : List Cond := [Cond.methodLink RL 72 yX9_owed, Cond.instanceMethod yX9_owed, Cond.selects RX9 yX9_owed yX9_owed, Cond.code yX9_owed cX9_owed 3 (some .int), Cond.constant RX9 190 (1000000000), Cond.methodLink RL 75 yX10_owed, Cond.instanceMethod yX10_owed, Cond.selects RX10 yX10_owed yX10_owed, Cond.code yX10_owed cX10_owed 2 (some .int), Cond.constant RX10 220 (1000000000), Cond.methodLink RL 76 yX9_next, Cond.instanceMethod yX9_next, Cond.selects RX9 yX9_next yX9_next, Cond.code yX9_next cX9_next 2 (some .int), Cond.methodLink RL 79 yX10_next, Cond.instanceMethod yX10_next, Cond.selects RX10 yX10_next yX10_next, Cond.code yX10_next cX10_next 1 (some .int), Cond.methodLink RL 80 yX9_best, Cond.instanceMethod yX9_best, Cond.selects RX9 yX9_best yX9_best, Cond.code yX9_best cX9_best 1 (some .int), Cond.methodLink RX9 198 yX9_findOrder, Cond.instanceMethod yX9_findOrder]
def wsL_law_r27 : List Cond := [Cond.selects RX9 yX9_findOrder yX9_findOrder, Cond.code yX9_findOrder cX9_findOrder 3 (some .boolean), Cond.instanceMethod yX5_clear, Cond.selects RX5 yX5_clear yX5_clear, Cond.code yX5_clear cX5_clear 2 none, Cond.instanceMethod yX5_add, Cond.selects RX5 yX5_add yX5_add, Cond.code yX5_add cX5_add 7 (some .boolean), Cond.methodLink RX5 41 yX5_foresee, Cond.instanceMethod yX5_foresee, Cond.selects RX5 yX5_foresee yX5_foresee, Cond.code yX5_foresee cX5_foresee 7 none, Cond.instanceMethod yX5_search, Cond.selects RX5 yX5_search yX5_search, Cond.code yX5_search cX5_search 3 none, Cond.methodLink RX5 64 yX5_choose, Cond.instanceMethod yX5_choose, Cond.selects RX5 yX5_choose yX5_choose, Cond.code yX5_choose cX5_choose 8 none, Cond.methodLink RX5 68 Lib.Math.min.name, Cond.constant RX5 75 (2147483647), Cond.instanceMethod yX5_leastWaste, Cond.selects RX5 yX5_leastWaste yX5_leastWaste, Cond.code yX5_leastWaste cX5_leastWaste 1 (some .int)]
def wsL_law_r28 : List Cond := [Cond.methodLink RL 83 yX10_best, Cond.instanceMethod yX10_best, Cond.selects RX10 yX10_best yX10_best, Cond.code yX10_best cX10_best 1 (some .int), Cond.methodLink RX10 227 yX10_knows, Cond.instanceMethod yX10_knows, Cond.selects RX10 yX10_knows yX10_knows, Cond.code yX10_knows cX10_knows 5 (some .boolean), Cond.fieldLink RX10 221 "BeetHouseModel" "heaps" "I", Cond.methodLink RX10 224 yX10_lies, Cond.instanceMethod yX10_lies, Cond.selects RX10 yX10_lies yX10_lies, Cond.code yX10_lies cX10_lies 7 (some .int), Cond.methodLink RL 84 yX9_order, Cond.instanceMethod yX9_order, Cond.selects RX9 yX9_order yX9_order, Cond.code yX9_order cX9_order 2 (some .int), Cond.instanceMethod yX5_plotAtPlace, Cond.selects RX5 yX5_plotAtPlace yX5_plotAtPlace, Cond.code yX5_plotAtPlace cX5_plotAtPlace 4 (some .int), Cond.methodLink RL 87 yX10_order, Cond.instanceMethod yX10_order, Cond.selects RX10 yX10_order yX10_order, Cond.code yX10_order cX10_order 6 (some .int)]
def wsL_law_r29 : List Cond := [Cond.methodLink RL 88 yX9_fieldOf, Cond.instanceMethod yX9_fieldOf, Cond.selects RX9 yX9_fieldOf yX9_fieldOf, Cond.code yX9_fieldOf cX9_fieldOf 4 (some .int), Cond.methodLink RX9 227 yX9_lorriesOutTo, Cond.instanceMethod yX9_lorriesOutTo, Cond.selects RX9 yX9_lorriesOutTo yX9_lorriesOutTo, Cond.code yX9_lorriesOutTo cX9_lorriesOutTo 4 (some .int), Cond.methodLink RL 91 yX10_fieldOf, Cond.instanceMethod yX10_fieldOf, Cond.selects RX10 yX10_fieldOf yX10_fieldOf, Cond.code yX10_fieldOf cX10_fieldOf 5 (some .int), Cond.methodLink RL 92 yX9_lorryOf, Cond.instanceMethod yX9_lorryOf, Cond.selects RX9 yX9_lorryOf yX9_lorryOf, Cond.code yX9_lorryOf cX9_lorryOf 4 (some .int), Cond.methodLink RL 95 yX10_lorryOf, Cond.instanceMethod yX10_lorryOf, Cond.selects RX10 yX10_lorryOf yX10_lorryOf, Cond.code yX10_lorryOf cX10_lorryOf 3 (some .int), Cond.methodLink RL 96 yX9_load, Cond.instanceMethod yX9_load, Cond.selects RX9 yX9_load yX9_load, Cond.code yX9_load cX9_load 4 (some .int)]
def wsL_law_r30 : List Cond := [Cond.classLink RX9 243 "BeetHouse$Load", Cond.methodLink RL 99 yX10_load, Cond.instanceMethod yX10_load, Cond.selects RX10 yX10_load yX10_load, Cond.code yX10_load cX10_load 3 (some .int), Cond.methodLink RL 100 yX9_coins, Cond.instanceMethod yX9_coins, Cond.selects RX9 yX9_coins yX9_coins, Cond.code yX9_coins cX9_coins 3 (some .int), Cond.methodLink RL 103 yX10_coins, Cond.instanceMethod yX10_coins, Cond.selects RX10 yX10_coins yX10_coins, Cond.code yX10_coins cX10_coins 2 (some .int), Cond.methodLink RL 104 yX9_count, Cond.instanceMethod yX9_count, Cond.selects RX9 yX9_count yX9_count, Cond.code yX9_count cX9_count 2 (some .int), Cond.methodLink RX9 261 yX9_wasteOfAll, Cond.instanceMethod yX9_wasteOfAll, Cond.selects RX9 yX9_wasteOfAll yX9_wasteOfAll, Cond.code yX9_wasteOfAll cX9_wasteOfAll 3 (some .int), Cond.methodLink RX9 264 yX9_spoiledOfAll, Cond.instanceMethod yX9_spoiledOfAll, Cond.selects RX9 yX9_spoiledOfAll yX9_spoiledOfAll]
def wsL_law_r31 : List Cond := [Cond.code yX9_spoiledOfAll cX9_spoiledOfAll 3 (some .int), Cond.methodLink RL 107 yX10_count, Cond.instanceMethod yX10_count, Cond.selects RX10 yX10_count yX10_count, Cond.code yX10_count cX10_count 2 (some .int)]
def wsL_law : List Cond := (wsL_law_r1 ++ (wsL_law_r2 ++ (wsL_law_r3 ++ (wsL_law_r4 ++ (wsL_law_r5 ++ (wsL_law_r6 ++ (wsL_law_r7 ++ (wsL_law_r8 ++ (wsL_law_r9 ++ (wsL_law_r10 ++ (wsL_law_r11 ++ (wsL_law_r12 ++ (wsL_law_r13 ++ (wsL_law_r14 ++ (wsL_law_r15 ++ (wsL_law_r16 ++ (wsL_law_r17 ++ (wsL_law_r18 ++ (wsL_law_r19 ++ (wsL_law_r20 ++ (wsL_law_r21 ++ (wsL_law_r22 ++ (wsL_law_r23 ++ (wsL_law_r24 ++ (wsL_law_r25 ++ (wsL_law_r26 ++ (wsL_law_r27 ++ (wsL_law_r28 ++ (wsL_law_r29 ++ (wsL_law_r30 ++ wsL_law_r31)))))))))))))))))))))))))))))) ++ wsX90 ++ wsX100 ++ wsJx4a65c0 ++ wsX70 ++ wsX80 ++ wsX40 ++ wsX50 ++ wsX00 ++ wsX10 ++ wsX60 ++ wsX30 ++ wsX20 ++ ([] : List Cond)
theorem inlX0 : ∀ w ∈ wsX00, w ∈ wsL_law := fun _ h => List.mem_append_left _ (List.mem_append_left _ (List.mem_append_left _ (List.mem_append_left _ (List.mem_append_left _ (List.mem_append_right _ h)))))
theorem inlX1 : ∀ w ∈ wsX10, w ∈ wsL_law := fun _ h => List.mem_append_left _ (List.mem_append_left _ (List.mem_append_left _ (List.mem_append_left _ (List.mem_append_right _ h))))
theorem inlX2 : ∀ w ∈ wsX20, w ∈ wsL_law := fun _ h => List.mem_append_left _ (List.mem_append_right _ h)
theorem inlX3 : ∀ w ∈ wsX30, w ∈ wsL_law := fun _ h => List.mem_append_left _ (List.mem_append_left _ (List.mem_append_right _ h))
theorem inlX4 : ∀ w ∈ wsX40, w ∈ wsL_law := fun _ h => List.mem_append_left _ (List.mem_append_left _ (List.mem_append_left _ (List.mem_append_left _ (List.mem_append_left _ (List.mem_append_left _ (List.mem_append_left _ (List.mem_append_right _ h)))))))
theorem inlX5 : ∀ w ∈ wsX50, w ∈ wsL_law := fun _ h => List.mem_append_left _ (List.mem_append_left _ (List.mem_append_left _ (List.mem_append_left _ (List.mem_append_left _ (List.mem_append_left _ (List.mem_append_right _ h))))))
theorem inlX6 : ∀ w ∈ wsX60, w ∈ wsL_law := fun _ h => List.mem_append_left _ (List.mem_append_left _ (List.mem_append_left _ (List.mem_append_right _ h)))
theorem inlX7 : ∀ w ∈ wsX70, w ∈ wsL_law := fun _ h => List.mem_append_left _ (List.mem_append_left _ (List.mem_append_left _ (List.mem_append_left _ (List.mem_append_left _ (List.mem_append_left _ (List.mem_append_left _ (List.mem_append_left _ (List.mem_append_left _ (List.mem_append_right _ h)))))))))
theorem inlX8 : ∀ w ∈ wsX80, w ∈ wsL_law := fun _ h => List.mem_append_left _ (List.mem_append_left _ (List.mem_append_left _ (List.mem_append_left _ (List.mem_append_left _ (List.mem_append_left _ (List.mem_append_left _ (List.mem_append_left _ (List.mem_append_right _ h))))))))
theorem inlX9 : ∀ w ∈ wsX90, w ∈ wsL_law := fun _ h => List.mem_append_left _ (List.mem_append_left _ (List.mem_append_left _ (List.mem_append_left _ (List.mem_append_left _ (List.mem_append_left _ (List.mem_append_left _ (List.mem_append_left _ (List.mem_append_left _ (List.mem_append_left _ (List.mem_append_left _ (List.mem_append_left _ (List.mem_append_right _ h))))))))))))
theorem inlX10 : ∀ w ∈ wsX100, w ∈ wsL_law := fun _ h => List.mem_append_left _ (List.mem_append_left _ (List.mem_append_left _ (List.mem_append_left _ (List.mem_append_left _ (List.mem_append_left _ (List.mem_append_left _ (List.mem_append_left _ (List.mem_append_left _ (List.mem_append_left _ (List.mem_append_left _ (List.mem_append_right _ h)))))))))))
theorem inJx145de : ∀ w ∈ wsJx145de0, w ∈ lw_tbl := by decide +kernel
theorem inJx8e188 : ∀ w ∈ wsJx8e1880, w ∈ lw_tbl := by decide +kernel
theorem inJxab1ab : ∀ w ∈ wsJxab1ab0, w ∈ lw_tbl := by decide +kernel
theorem inJ9 : ∀ w ∈ wsJ90, w ∈ lw_tbl := by decide +kernel
theorem inJ10 : ∀ w ∈ wsJ100, w ∈ lw_tbl := by decide +kernel
theorem inJxa1e45 : ∀ w ∈ wsJxa1e450, w ∈ lw_tbl := by decide +kernel
theorem inJxc12de : ∀ w ∈ wsJxc12de0, w ∈ lw_tbl := by decide +kernel
theorem inlJx4a65c : ∀ w ∈ wsJx4a65c0, w ∈ wsL_law := fun _ h => List.mem_append_left _ (List.mem_append_left _ (List.mem_append_left _ (List.mem_append_left _ (List.mem_append_left _ (List.mem_append_left _ (List.mem_append_left _ (List.mem_append_left _ (List.mem_append_left _ (List.mem_append_left _ (List.mem_append_right _ h))))))))))
theorem inJ7 : ∀ w ∈ wsJ70, w ∈ lw_tbl := by decide +kernel
theorem inJx5ef63 : ∀ w ∈ wsJx5ef630, w ∈ lw_tbl := by decide +kernel
theorem inJxbd725 : ∀ w ∈ wsJxbd7250, w ∈ lw_tbl := by decide +kernel
theorem inJ15 : ∀ w ∈ wsJ150, w ∈ lw_tbl := by decide +kernel
theorem inJxf0a74 : ∀ w ∈ wsJxf0a740, w ∈ lw_tbl := by decide +kernel
theorem inJxa66e6 : ∀ w ∈ wsJxa66e60, w ∈ lw_tbl := by decide +kernel
theorem inJ8 : ∀ w ∈ wsJ80, w ∈ lw_tbl := by decide +kernel
theorem inJ3 : ∀ w ∈ wsJ30, w ∈ lw_tbl := by decide +kernel
abbrev vwCl : List vw_C := [(RJx4a65c, TJx4a65c, 3), (RX0, TX0, 4), (RX1, TX1, 2), (RX2, TX2, 3), (RX3, TX3, 8), (RX4, TX4, 5), (RX5, TX5, 7), (RX6, TX6, 14), (RX7, TX7, 2), (RX8, TX8, 4), (RX9, TX9, 12), (RX10, TX10, 49)]
end
section
theorem dX0_init_0 : decode cX0_init 0 = .ok (.aload_n 0, 1) := by decide +kernel
theorem dX0_init_1 : decode cX0_init 1 = .ok (.invokespecial 1, 3) := by decide +kernel
theorem dX0_init_4 : decode cX0_init 4 = .ok (.aload_n 0, 1) := by decide +kernel
theorem dX0_init_5 : decode cX0_init 5 = .ok (.iconst 0, 1) := by decide +kernel
theorem dX0_init_6 : decode cX0_init 6 = .ok (.putfield 7, 3) := by decide +kernel
theorem dX0_init_9 : decode cX0_init 9 = .ok (.aload_n 0, 1) := by decide +kernel
theorem dX0_init_10 : decode cX0_init 10 = .ok (.iconst 0, 1) := by decide +kernel
theorem dX0_init_11 : decode cX0_init 11 = .ok (.putfield 13, 3) := by decide +kernel
theorem dX0_init_14 : decode cX0_init 14 = .ok (.aload_n 0, 1) := by decide +kernel
theorem dX0_init_15 : decode cX0_init 15 = .ok (.iconst 0, 1) := by decide +kernel
theorem dX0_init_16 : decode cX0_init 16 = .ok (.putfield 16, 3) := by decide +kernel
theorem dX0_init_19 : decode cX0_init 19 = .ok (.aload_n 0, 1) := by decide +kernel
theorem dX0_init_20 : decode cX0_init 20 = .ok (.iload_n 1, 1) := by decide +kernel
theorem dX0_init_21 : decode cX0_init 21 = .ok (.putfield 19, 3) := by decide +kernel
theorem dX0_init_24 : decode cX0_init 24 = .ok (.return_, 1) := by decide +kernel
theorem dX0_claim_0 : decode cX0_claim 0 = .ok (.aload_n 0, 1) := by decide +kernel
theorem dX0_claim_1 : decode cX0_claim 1 = .ok (.getfield 7, 3) := by decide +kernel
theorem dX0_claim_4 : decode cX0_claim 4 = .ok (.iload_n 1, 1) := by decide +kernel
theorem dX0_claim_5 : decode cX0_claim 5 = .ok (.imul, 1) := by decide +kernel
theorem dX0_claim_6 : decode cX0_claim 6 = .ok (.sipush 1000, 3) := by decide +kernel
theorem dX0_claim_9 : decode cX0_claim 9 = .ok (.aload_n 0, 1) := by decide +kernel
theorem dX0_claim_10 : decode cX0_claim 10 = .ok (.getfield 16, 3) := by decide +kernel
theorem dX0_claim_13 : decode cX0_claim 13 = .ok (.imul, 1) := by decide +kernel
theorem dX0_claim_14 : decode cX0_claim 14 = .ok (.isub, 1) := by decide +kernel
theorem dX0_claim_15 : decode cX0_claim 15 = .ok (.ireturn, 1) := by decide +kernel
theorem dX0_comesBefore_0 : decode cX0_comesBefore 0 = .ok (.aload_n 0, 1) := by decide +kernel
theorem dX0_comesBefore_1 : decode cX0_comesBefore 1 = .ok (.iload_n 2, 1) := by decide +kernel
theorem dX0_comesBefore_2 : decode cX0_comesBefore 2 = .ok (.invokevirtual 22, 3) := by decide +kernel
theorem dX0_comesBefore_5 : decode cX0_comesBefore 5 = .ok (.istore_n 3, 1) := by decide +kernel
theorem dX0_comesBefore_6 : decode cX0_comesBefore 6 = .ok (.aload_n 1, 1) := by decide +kernel
theorem dX0_comesBefore_7 : decode cX0_comesBefore 7 = .ok (.iload_n 2, 1) := by decide +kernel
theorem dX0_comesBefore_8 : decode cX0_comesBefore 8 = .ok (.invokevirtual 22, 3) := by decide +kernel
theorem dX0_comesBefore_11 : decode cX0_comesBefore 11 = .ok (.istore 4, 2) := by decide +kernel
theorem dX0_comesBefore_13 : decode cX0_comesBefore 13 = .ok (.iload_n 3, 1) := by decide +kernel
theorem dX0_comesBefore_14 : decode cX0_comesBefore 14 = .ok (.iload 4, 2) := by decide +kernel
theorem dX0_comesBefore_16 : decode cX0_comesBefore 16 = .ok (.if_icmp .gt 20, 3) := by decide +kernel
theorem dX0_comesBefore_19 : decode cX0_comesBefore 19 = .ok (.iload_n 3, 1) := by decide +kernel
theorem dX0_comesBefore_20 : decode cX0_comesBefore 20 = .ok (.iload 4, 2) := by decide +kernel
theorem dX0_comesBefore_22 : decode cX0_comesBefore 22 = .ok (.if_icmp .ne 18, 3) := by decide +kernel
theorem dX0_comesBefore_25 : decode cX0_comesBefore 25 = .ok (.aload_n 0, 1) := by decide +kernel
theorem dX0_comesBefore_26 : decode cX0_comesBefore 26 = .ok (.getfield 19, 3) := by decide +kernel
theorem dX0_comesBefore_29 : decode cX0_comesBefore 29 = .ok (.aload_n 1, 1) := by decide +kernel
theorem dX0_comesBefore_30 : decode cX0_comesBefore 30 = .ok (.getfield 19, 3) := by decide +kernel
theorem dX0_comesBefore_33 : decode cX0_comesBefore 33 = .ok (.if_icmp .ge 7, 3) := by decide +kernel
theorem dX0_comesBefore_36 : decode cX0_comesBefore 36 = .ok (.iconst 1, 1) := by decide +kernel
theorem dX0_comesBefore_37 : decode cX0_comesBefore 37 = .ok (.goto 4, 3) := by decide +kernel
theorem dX0_comesBefore_40 : decode cX0_comesBefore 40 = .ok (.iconst 0, 1) := by decide +kernel
theorem dX0_comesBefore_41 : decode cX0_comesBefore 41 = .ok (.ireturn, 1) := by decide +kernel
theorem dX1_init_0 : decode cX1_init 0 = .ok (.aload_n 0, 1) := by decide +kernel
theorem dX1_init_1 : decode cX1_init 1 = .ok (.invokespecial 1, 3) := by decide +kernel
theorem dX1_init_4 : decode cX1_init 4 = .ok (.aload_n 0, 1) := by decide +kernel
theorem dX1_init_5 : decode cX1_init 5 = .ok (.iconst 0, 1) := by decide +kernel
theorem dX1_init_6 : decode cX1_init 6 = .ok (.putfield 7, 3) := by decide +kernel
theorem dX1_init_9 : decode cX1_init 9 = .ok (.aload_n 0, 1) := by decide +kernel
theorem dX1_init_10 : decode cX1_init 10 = .ok (.aconst_null, 1) := by decide +kernel
theorem dX1_init_11 : decode cX1_init 11 = .ok (.putfield 13, 3) := by decide +kernel
theorem dX1_init_14 : decode cX1_init 14 = .ok (.return_, 1) := by decide +kernel
theorem dX2_init_0 : decode cX2_init 0 = .ok (.aload_n 0, 1) := by decide +kernel
theorem dX2_init_1 : decode cX2_init 1 = .ok (.invokespecial 1, 3) := by decide +kernel
theorem dX2_init_4 : decode cX2_init 4 = .ok (.aload_n 0, 1) := by decide +kernel
theorem dX2_init_5 : decode cX2_init 5 = .ok (.aload_n 1, 1) := by decide +kernel
theorem dX2_init_6 : decode cX2_init 6 = .ok (.putfield 7, 3) := by decide +kernel
theorem dX2_init_9 : decode cX2_init 9 = .ok (.aload_n 0, 1) := by decide +kernel
theorem dX2_init_10 : decode cX2_init 10 = .ok (.iload_n 2, 1) := by decide +kernel
theorem dX2_init_11 : decode cX2_init 11 = .ok (.putfield 13, 3) := by decide +kernel
theorem dX2_init_14 : decode cX2_init 14 = .ok (.aload_n 0, 1) := by decide +kernel
theorem dX2_init_15 : decode cX2_init 15 = .ok (.iload_n 3, 1) := by decide +kernel
theorem dX2_init_16 : decode cX2_init 16 = .ok (.putfield 17, 3) := by decide +kernel
theorem dX2_init_19 : decode cX2_init 19 = .ok (.return_, 1) := by decide +kernel
theorem dX3_init_0 : decode cX3_init 0 = .ok (.aload_n 0, 1) := by decide +kernel
theorem dX3_init_1 : decode cX3_init 1 = .ok (.invokespecial 3, 3) := by decide +kernel
theorem dX3_init_4 : decode cX3_init 4 = .ok (.aload_n 0, 1) := by decide +kernel
theorem dX3_init_5 : decode cX3_init 5 = .ok (.iconst 0, 1) := by decide +kernel
theorem dX3_init_6 : decode cX3_init 6 = .ok (.putfield 9, 3) := by decide +kernel
theorem dX3_init_9 : decode cX3_init 9 = .ok (.aload_n 0, 1) := by decide +kernel
theorem dX3_init_10 : decode cX3_init 10 = .ok (.aconst_null, 1) := by decide +kernel
theorem dX3_init_11 : decode cX3_init 11 = .ok (.putfield 15, 3) := by decide +kernel
theorem dX3_init_14 : decode cX3_init 14 = .ok (.aload_n 0, 1) := by decide +kernel
theorem dX3_init_15 : decode cX3_init 15 = .ok (.bipush (-9), 2) := by decide +kernel
theorem dX3_init_17 : decode cX3_init 17 = .ok (.putfield 19, 3) := by decide +kernel
theorem dX3_init_20 : decode cX3_init 20 = .ok (.aload_n 0, 1) := by decide +kernel
theorem dX3_init_21 : decode cX3_init 21 = .ok (.iconst 0, 1) := by decide +kernel
theorem dX3_init_22 : decode cX3_init 22 = .ok (.putfield 22, 3) := by decide +kernel
theorem dX3_init_25 : decode cX3_init 25 = .ok (.aload_n 0, 1) := by decide +kernel
theorem dX3_init_26 : decode cX3_init 26 = .ok (.iconst 0, 1) := by decide +kernel
theorem dX3_init_27 : decode cX3_init 27 = .ok (.putfield 25, 3) := by decide +kernel
theorem dX3_init_30 : decode cX3_init 30 = .ok (.aload_n 0, 1) := by decide +kernel
theorem dX3_init_31 : decode cX3_init 31 = .ok (.iconst 0, 1) := by decide +kernel
theorem dX3_init_32 : decode cX3_init 32 = .ok (.putfield 28, 3) := by decide +kernel
theorem dX3_init_35 : decode cX3_init 35 = .ok (.aload_n 0, 1) := by decide +kernel
theorem dX3_init_36 : decode cX3_init 36 = .ok (.iconst 0, 1) := by decide +kernel
theorem dX3_init_37 : decode cX3_init 37 = .ok (.putfield 31, 3) := by decide +kernel
theorem dX3_init_40 : decode cX3_init 40 = .ok (.aload_n 0, 1) := by decide +kernel
theorem dX3_init_41 : decode cX3_init 41 = .ok (.iload_n 1, 1) := by decide +kernel
theorem dX3_init_42 : decode cX3_init 42 = .ok (.putfield 34, 3) := by decide +kernel
theorem dX3_init_45 : decode cX3_init 45 = .ok (.return_, 1) := by decide +kernel
theorem dX3_isOutTo_0 : decode cX3_isOutTo 0 = .ok (.aload_n 0, 1) := by decide +kernel
theorem dX3_isOutTo_1 : decode cX3_isOutTo 1 = .ok (.getfield 9, 3) := by decide +kernel
theorem dX3_isOutTo_4 : decode cX3_isOutTo 4 = .ok (.iconst 1, 1) := by decide +kernel
theorem dX3_isOutTo_5 : decode cX3_isOutTo 5 = .ok (.if_icmp .ne 15, 3) := by decide +kernel
theorem dX3_isOutTo_8 : decode cX3_isOutTo 8 = .ok (.aload_n 0, 1) := by decide +kernel
theorem dX3_isOutTo_9 : decode cX3_isOutTo 9 = .ok (.getfield 15, 3) := by decide +kernel
theorem dX3_isOutTo_12 : decode cX3_isOutTo 12 = .ok (.aload_n 1, 1) := by decide +kernel
theorem dX3_isOutTo_13 : decode cX3_isOutTo 13 = .ok (.if_acmp .ne 7, 3) := by decide +kernel
theorem dX3_isOutTo_16 : decode cX3_isOutTo 16 = .ok (.iconst 1, 1) := by decide +kernel
theorem dX3_isOutTo_17 : decode cX3_isOutTo 17 = .ok (.goto 4, 3) := by decide +kernel
theorem dX3_isOutTo_20 : decode cX3_isOutTo 20 = .ok (.iconst 0, 1) := by decide +kernel
theorem dX3_isOutTo_21 : decode cX3_isOutTo 21 = .ok (.ireturn, 1) := by decide +kernel
theorem dX3_setOut_0 : decode cX3_setOut 0 = .ok (.aload_n 0, 1) := by decide +kernel
theorem dX3_setOut_1 : decode cX3_setOut 1 = .ok (.iconst 1, 1) := by decide +kernel
theorem dX3_setOut_2 : decode cX3_setOut 2 = .ok (.putfield 9, 3) := by decide +kernel
theorem dX3_setOut_5 : decode cX3_setOut 5 = .ok (.aload_n 0, 1) := by decide +kernel
theorem dX3_setOut_6 : decode cX3_setOut 6 = .ok (.aload_n 1, 1) := by decide +kernel
theorem dX3_setOut_7 : decode cX3_setOut 7 = .ok (.putfield 15, 3) := by decide +kernel
theorem dX3_setOut_10 : decode cX3_setOut 10 = .ok (.aload_n 0, 1) := by decide +kernel
theorem dX3_setOut_11 : decode cX3_setOut 11 = .ok (.iload_n 2, 1) := by decide +kernel
theorem dX3_setOut_12 : decode cX3_setOut 12 = .ok (.aload_n 1, 1) := by decide +kernel
theorem dX3_setOut_13 : decode cX3_setOut 13 = .ok (.getfield 37, 3) := by decide +kernel
theorem dX3_setOut_16 : decode cX3_setOut 16 = .ok (.iadd, 1) := by decide +kernel
theorem dX3_setOut_17 : decode cX3_setOut 17 = .ok (.putfield 19, 3) := by decide +kernel
theorem dX3_setOut_20 : decode cX3_setOut 20 = .ok (.return_, 1) := by decide +kernel
theorem dX3_arrive_0 : decode cX3_arrive 0 = .ok (.aload_n 0, 1) := by decide +kernel
theorem dX3_arrive_1 : decode cX3_arrive 1 = .ok (.getfield 19, 3) := by decide +kernel
theorem dX3_arrive_4 : decode cX3_arrive 4 = .ok (.iload_n 1, 1) := by decide +kernel
theorem dX3_arrive_5 : decode cX3_arrive 5 = .ok (.if_icmp .ne 10, 3) := by decide +kernel
theorem dX3_arrive_8 : decode cX3_arrive 8 = .ok (.aload_n 0, 1) := by decide +kernel
theorem dX3_arrive_9 : decode cX3_arrive 9 = .ok (.getfield 15, 3) := by decide +kernel
theorem dX3_arrive_12 : decode cX3_arrive 12 = .ok (.ifnonnull 4, 3) := by decide +kernel
theorem dX3_arrive_15 : decode cX3_arrive 15 = .ok (.return_, 1) := by decide +kernel
theorem dX3_arrive_16 : decode cX3_arrive 16 = .ok (.aload_n 0, 1) := by decide +kernel
theorem dX3_arrive_17 : decode cX3_arrive 17 = .ok (.getfield 9, 3) := by decide +kernel
theorem dX3_arrive_20 : decode cX3_arrive 20 = .ok (.iconst 1, 1) := by decide +kernel
theorem dX3_arrive_21 : decode cX3_arrive 21 = .ok (.if_icmp .ne 32, 3) := by decide +kernel
theorem dX3_arrive_24 : decode cX3_arrive 24 = .ok (.aload_n 0, 1) := by decide +kernel
theorem dX3_arrive_25 : decode cX3_arrive 25 = .ok (.aload_n 0, 1) := by decide +kernel
theorem dX3_arrive_26 : decode cX3_arrive 26 = .ok (.getfield 15, 3) := by decide +kernel
theorem dX3_arrive_29 : decode cX3_arrive 29 = .ok (.invokevirtual 42, 3) := by decide +kernel
theorem dX3_arrive_32 : decode cX3_arrive 32 = .ok (.aload_n 0, 1) := by decide +kernel
theorem dX3_arrive_33 : decode cX3_arrive 33 = .ok (.iconst 2, 1) := by decide +kernel
theorem dX3_arrive_34 : decode cX3_arrive 34 = .ok (.putfield 9, 3) := by decide +kernel
theorem dX3_arrive_37 : decode cX3_arrive 37 = .ok (.aload_n 0, 1) := by decide +kernel
theorem dX3_arrive_38 : decode cX3_arrive 38 = .ok (.iload_n 1, 1) := by decide +kernel
theorem dX3_arrive_39 : decode cX3_arrive 39 = .ok (.aload_n 0, 1) := by decide +kernel
theorem dX3_arrive_40 : decode cX3_arrive 40 = .ok (.getfield 15, 3) := by decide +kernel
theorem dX3_arrive_43 : decode cX3_arrive 43 = .ok (.invokevirtual 46, 3) := by decide +kernel
theorem dX3_arrive_46 : decode cX3_arrive 46 = .ok (.iadd, 1) := by decide +kernel
theorem dX3_arrive_47 : decode cX3_arrive 47 = .ok (.putfield 19, 3) := by decide +kernel
theorem dX3_arrive_50 : decode cX3_arrive 50 = .ok (.goto 22, 3) := by decide +kernel
theorem dX3_arrive_53 : decode cX3_arrive 53 = .ok (.aload_n 0, 1) := by decide +kernel
theorem dX3_arrive_54 : decode cX3_arrive 54 = .ok (.getfield 9, 3) := by decide +kernel
theorem dX3_arrive_57 : decode cX3_arrive 57 = .ok (.iconst 2, 1) := by decide +kernel
theorem dX3_arrive_58 : decode cX3_arrive 58 = .ok (.if_icmp .ne 14, 3) := by decide +kernel
theorem dX3_arrive_61 : decode cX3_arrive 61 = .ok (.aload_n 0, 1) := by decide +kernel
theorem dX3_arrive_62 : decode cX3_arrive 62 = .ok (.iconst 3, 1) := by decide +kernel
theorem dX3_arrive_63 : decode cX3_arrive 63 = .ok (.putfield 9, 3) := by decide +kernel
theorem dX3_arrive_66 : decode cX3_arrive 66 = .ok (.aload_n 0, 1) := by decide +kernel
theorem dX3_arrive_67 : decode cX3_arrive 67 = .ok (.bipush (-9), 2) := by decide +kernel
theorem dX3_arrive_69 : decode cX3_arrive 69 = .ok (.putfield 19, 3) := by decide +kernel
theorem dX3_arrive_72 : decode cX3_arrive 72 = .ok (.return_, 1) := by decide +kernel
theorem dX3_fill_0 : decode cX3_fill 0 = .ok (.aload_n 0, 1) := by decide +kernel
theorem dX3_fill_1 : decode cX3_fill 1 = .ok (.getfield 34, 3) := by decide +kernel
theorem dX3_fill_4 : decode cX3_fill 4 = .ok (.aload_n 1, 1) := by decide +kernel
theorem dX3_fill_5 : decode cX3_fill 5 = .ok (.getfield 50, 3) := by decide +kernel
theorem dX3_fill_8 : decode cX3_fill 8 = .ok (.invokestatic 51, 3) := by decide +kernel
theorem dX3_fill_11 : decode cX3_fill 11 = .ok (.istore_n 2, 1) := by decide +kernel
theorem dX3_fill_12 : decode cX3_fill 12 = .ok (.aload_n 0, 1) := by decide +kernel
theorem dX3_fill_13 : decode cX3_fill 13 = .ok (.iload_n 2, 1) := by decide +kernel
theorem dX3_fill_14 : decode cX3_fill 14 = .ok (.putfield 22, 3) := by decide +kernel
theorem dX3_fill_17 : decode cX3_fill 17 = .ok (.aload_n 0, 1) := by decide +kernel
theorem dX3_fill_18 : decode cX3_fill 18 = .ok (.aload_n 1, 1) := by decide +kernel
theorem dX3_fill_19 : decode cX3_fill 19 = .ok (.iload_n 2, 1) := by decide +kernel
theorem dX3_fill_20 : decode cX3_fill 20 = .ok (.invokevirtual 57, 3) := by decide +kernel
theorem dX3_fill_23 : decode cX3_fill 23 = .ok (.putfield 25, 3) := by decide +kernel
theorem dX3_fill_26 : decode cX3_fill 26 = .ok (.aload_n 1, 1) := by decide +kernel
theorem dX3_fill_27 : decode cX3_fill 27 = .ok (.aload_n 0, 1) := by decide +kernel
theorem dX3_fill_28 : decode cX3_fill 28 = .ok (.getfield 22, 3) := by decide +kernel
theorem dX3_fill_31 : decode cX3_fill 31 = .ok (.aload_n 0, 1) := by decide +kernel
theorem dX3_fill_32 : decode cX3_fill 32 = .ok (.getfield 25, 3) := by decide +kernel
theorem dX3_fill_35 : decode cX3_fill 35 = .ok (.invokevirtual 61, 3) := by decide +kernel
theorem dX3_fill_38 : decode cX3_fill 38 = .ok (.return_, 1) := by decide +kernel
theorem dX3_comeHome_0 : decode cX3_comeHome 0 = .ok (.aload_n 0, 1) := by decide +kernel
theorem dX3_comeHome_1 : decode cX3_comeHome 1 = .ok (.iconst 0, 1) := by decide +kernel
theorem dX3_comeHome_2 : decode cX3_comeHome 2 = .ok (.putfield 9, 3) := by decide +kernel
theorem dX3_comeHome_5 : decode cX3_comeHome 5 = .ok (.aload_n 0, 1) := by decide +kernel
theorem dX3_comeHome_6 : decode cX3_comeHome 6 = .ok (.aconst_null, 1) := by decide +kernel
theorem dX3_comeHome_7 : decode cX3_comeHome 7 = .ok (.putfield 15, 3) := by decide +kernel
theorem dX3_comeHome_10 : decode cX3_comeHome 10 = .ok (.aload_n 0, 1) := by decide +kernel
theorem dX3_comeHome_11 : decode cX3_comeHome 11 = .ok (.iconst 0, 1) := by decide +kernel
theorem dX3_comeHome_12 : decode cX3_comeHome 12 = .ok (.putfield 22, 3) := by decide +kernel
theorem dX3_comeHome_15 : decode cX3_comeHome 15 = .ok (.aload_n 0, 1) := by decide +kernel
theorem dX3_comeHome_16 : decode cX3_comeHome 16 = .ok (.iconst 0, 1) := by decide +kernel
theorem dX3_comeHome_17 : decode cX3_comeHome 17 = .ok (.putfield 25, 3) := by decide +kernel
theorem dX3_comeHome_20 : decode cX3_comeHome 20 = .ok (.return_, 1) := by decide +kernel
theorem dX4_init_0 : decode cX4_init 0 = .ok (.aload_n 0, 1) := by decide +kernel
theorem dX4_init_1 : decode cX4_init 1 = .ok (.invokespecial 1, 3) := by decide +kernel
theorem dX4_init_4 : decode cX4_init 4 = .ok (.aload_n 0, 1) := by decide +kernel
theorem dX4_init_5 : decode cX4_init 5 = .ok (.iconst 0, 1) := by decide +kernel
theorem dX4_init_6 : decode cX4_init 6 = .ok (.putfield 7, 3) := by decide +kernel
theorem dX4_init_9 : decode cX4_init 9 = .ok (.aload_n 0, 1) := by decide +kernel
theorem dX4_init_10 : decode cX4_init 10 = .ok (.iconst 0, 1) := by decide +kernel
theorem dX4_init_11 : decode cX4_init 11 = .ok (.putfield 13, 3) := by decide +kernel
theorem dX4_init_14 : decode cX4_init 14 = .ok (.aload_n 0, 1) := by decide +kernel
theorem dX4_init_15 : decode cX4_init 15 = .ok (.iconst 0, 1) := by decide +kernel
theorem dX4_init_16 : decode cX4_init 16 = .ok (.putfield 16, 3) := by decide +kernel
theorem dX4_init_19 : decode cX4_init 19 = .ok (.aload_n 0, 1) := by decide +kernel
theorem dX4_init_20 : decode cX4_init 20 = .ok (.iconst 0, 1) := by decide +kernel
theorem dX4_init_21 : decode cX4_init 21 = .ok (.putfield 19, 3) := by decide +kernel
theorem dX4_init_24 : decode cX4_init 24 = .ok (.aload_n 0, 1) := by decide +kernel
theorem dX4_init_25 : decode cX4_init 25 = .ok (.iconst 0, 1) := by decide +kernel
theorem dX4_init_26 : decode cX4_init 26 = .ok (.putfield 22, 3) := by decide +kernel
theorem dX4_init_29 : decode cX4_init 29 = .ok (.return_, 1) := by decide +kernel
theorem dX4_grind_0 : decode cX4_grind 0 = .ok (.aload_n 0, 1) := by decide +kernel
theorem dX4_grind_1 : decode cX4_grind 1 = .ok (.getfield 7, 3) := by decide +kernel
theorem dX4_grind_4 : decode cX4_grind 4 = .ok (.istore_n 2, 1) := by decide +kernel
theorem dX4_grind_5 : decode cX4_grind 5 = .ok (.iconst 0, 1) := by decide +kernel
theorem dX4_grind_6 : decode cX4_grind 6 = .ok (.istore_n 3, 1) := by decide +kernel
theorem dX4_grind_7 : decode cX4_grind 7 = .ok (.iload_n 3, 1) := by decide +kernel
theorem dX4_grind_8 : decode cX4_grind 8 = .ok (.aload_n 0, 1) := by decide +kernel
theorem dX4_grind_9 : decode cX4_grind 9 = .ok (.getfield 7, 3) := by decide +kernel
theorem dX4_grind_12 : decode cX4_grind 12 = .ok (.if_icmp .ge 132, 3) := by decide +kernel
theorem dX4_grind_15 : decode cX4_grind 15 = .ok (.aload_n 1, 1) := by decide +kernel
theorem dX4_grind_16 : decode cX4_grind 16 = .ok (.getfield 25, 3) := by decide +kernel
theorem dX4_grind_19 : decode cX4_grind 19 = .ok (.invokevirtual 31, 3) := by decide +kernel
theorem dX4_grind_22 : decode cX4_grind 22 = .ok (.ifCond .ne 122, 3) := by decide +kernel
theorem dX4_grind_25 : decode cX4_grind 25 = .ok (.aload_n 1, 1) := by decide +kernel
theorem dX4_grind_26 : decode cX4_grind 26 = .ok (.getfield 25, 3) := by decide +kernel
theorem dX4_grind_29 : decode cX4_grind 29 = .ok (.iconst 0, 1) := by decide +kernel
theorem dX4_grind_30 : decode cX4_grind 30 = .ok (.invokevirtual 37, 3) := by decide +kernel
theorem dX4_grind_33 : decode cX4_grind 33 = .ok (.checkcast 41, 3) := by decide +kernel
theorem dX4_grind_36 : decode cX4_grind 36 = .ok (.astore 4, 2) := by decide +kernel
theorem dX4_grind_38 : decode cX4_grind 38 = .ok (.aload 4, 2) := by decide +kernel
theorem dX4_grind_40 : decode cX4_grind 40 = .ok (.getfield 43, 3) := by decide +kernel
theorem dX4_grind_43 : decode cX4_grind 43 = .ok (.aload 4, 2) := by decide +kernel
theorem dX4_grind_45 : decode cX4_grind 45 = .ok (.getfield 46, 3) := by decide +kernel
theorem dX4_grind_48 : decode cX4_grind 48 = .ok (.iload_n 2, 1) := by decide +kernel
theorem dX4_grind_49 : decode cX4_grind 49 = .ok (.invokevirtual 50, 3) := by decide +kernel
theorem dX4_grind_52 : decode cX4_grind 52 = .ok (.invokestatic 56, 3) := by decide +kernel
theorem dX4_grind_55 : decode cX4_grind 55 = .ok (.istore 5, 2) := by decide +kernel
theorem dX4_grind_57 : decode cX4_grind 57 = .ok (.iload_n 2, 1) := by decide +kernel
theorem dX4_grind_58 : decode cX4_grind 58 = .ok (.aload 4, 2) := by decide +kernel
theorem dX4_grind_60 : decode cX4_grind 60 = .ok (.getfield 46, 3) := by decide +kernel
theorem dX4_grind_63 : decode cX4_grind 63 = .ok (.iload 5, 2) := by decide +kernel
theorem dX4_grind_65 : decode cX4_grind 65 = .ok (.invokevirtual 62, 3) := by decide +kernel
theorem dX4_grind_68 : decode cX4_grind 68 = .ok (.isub, 1) := by decide +kernel
theorem dX4_grind_69 : decode cX4_grind 69 = .ok (.istore_n 2, 1) := by decide +kernel
theorem dX4_grind_70 : decode cX4_grind 70 = .ok (.aload 4, 2) := by decide +kernel
theorem dX4_grind_72 : decode cX4_grind 72 = .ok (.dup, 1) := by decide +kernel
theorem dX4_grind_73 : decode cX4_grind 73 = .ok (.getfield 43, 3) := by decide +kernel
theorem dX4_grind_76 : decode cX4_grind 76 = .ok (.iload 5, 2) := by decide +kernel
theorem dX4_grind_78 : decode cX4_grind 78 = .ok (.isub, 1) := by decide +kernel
theorem dX4_grind_79 : decode cX4_grind 79 = .ok (.putfield 43, 3) := by decide +kernel
theorem dX4_grind_82 : decode cX4_grind 82 = .ok (.aload_n 1, 1) := by decide +kernel
theorem dX4_grind_83 : decode cX4_grind 83 = .ok (.dup, 1) := by decide +kernel
theorem dX4_grind_84 : decode cX4_grind 84 = .ok (.getfield 65, 3) := by decide +kernel
theorem dX4_grind_87 : decode cX4_grind 87 = .ok (.iload 5, 2) := by decide +kernel
theorem dX4_grind_89 : decode cX4_grind 89 = .ok (.isub, 1) := by decide +kernel
theorem dX4_grind_90 : decode cX4_grind 90 = .ok (.putfield 65, 3) := by decide +kernel
theorem dX4_grind_93 : decode cX4_grind 93 = .ok (.aload_n 0, 1) := by decide +kernel
theorem dX4_grind_94 : decode cX4_grind 94 = .ok (.dup, 1) := by decide +kernel
theorem dX4_grind_95 : decode cX4_grind 95 = .ok (.getfield 13, 3) := by decide +kernel
theorem dX4_grind_98 : decode cX4_grind 98 = .ok (.iload 5, 2) := by decide +kernel
theorem dX4_grind_100 : decode cX4_grind 100 = .ok (.iadd, 1) := by decide +kernel
theorem dX4_grind_101 : decode cX4_grind 101 = .ok (.putfield 13, 3) := by decide +kernel
theorem dX4_grind_104 : decode cX4_grind 104 = .ok (.aload 4, 2) := by decide +kernel
theorem dX4_grind_106 : decode cX4_grind 106 = .ok (.getfield 43, 3) := by decide +kernel
theorem dX4_grind_109 : decode cX4_grind 109 = .ok (.ifCond .le 6, 3) := by decide +kernel
theorem dX4_grind_112 : decode cX4_grind 112 = .ok (.goto 32, 3) := by decide +kernel
theorem dX4_grind_115 : decode cX4_grind 115 = .ok (.aload_n 0, 1) := by decide +kernel
theorem dX4_grind_116 : decode cX4_grind 116 = .ok (.dup, 1) := by decide +kernel
theorem dX4_grind_117 : decode cX4_grind 117 = .ok (.getfield 16, 3) := by decide +kernel
theorem dX4_grind_120 : decode cX4_grind 120 = .ok (.aload 4, 2) := by decide +kernel
theorem dX4_grind_122 : decode cX4_grind 122 = .ok (.getfield 66, 3) := by decide +kernel
theorem dX4_grind_125 : decode cX4_grind 125 = .ok (.iadd, 1) := by decide +kernel
theorem dX4_grind_126 : decode cX4_grind 126 = .ok (.putfield 16, 3) := by decide +kernel
theorem dX4_grind_129 : decode cX4_grind 129 = .ok (.aload_n 1, 1) := by decide +kernel
theorem dX4_grind_130 : decode cX4_grind 130 = .ok (.getfield 25, 3) := by decide +kernel
theorem dX4_grind_133 : decode cX4_grind 133 = .ok (.iconst 0, 1) := by decide +kernel
theorem dX4_grind_134 : decode cX4_grind 134 = .ok (.invokevirtual 69, 3) := by decide +kernel
theorem dX4_grind_137 : decode cX4_grind 137 = .ok (.pop, 1) := by decide +kernel
theorem dX4_grind_138 : decode cX4_grind 138 = .ok (.iinc 3 1, 3) := by decide +kernel
theorem dX4_grind_141 : decode cX4_grind 141 = .ok (.goto (-134), 3) := by decide +kernel
theorem dX4_grind_144 : decode cX4_grind 144 = .ok (.aload_n 1, 1) := by decide +kernel
theorem dX4_grind_145 : decode cX4_grind 145 = .ok (.getfield 65, 3) := by decide +kernel
theorem dX4_grind_148 : decode cX4_grind 148 = .ok (.ifCond .ne 27, 3) := by decide +kernel
theorem dX4_grind_151 : decode cX4_grind 151 = .ok (.iload_n 2, 1) := by decide +kernel
theorem dX4_grind_152 : decode cX4_grind 152 = .ok (.ifCond .le 23, 3) := by decide +kernel
theorem dX4_grind_155 : decode cX4_grind 155 = .ok (.aload_n 0, 1) := by decide +kernel
theorem dX4_grind_156 : decode cX4_grind 156 = .ok (.dup, 1) := by decide +kernel
theorem dX4_grind_157 : decode cX4_grind 157 = .ok (.getfield 22, 3) := by decide +kernel
theorem dX4_grind_160 : decode cX4_grind 160 = .ok (.iload_n 2, 1) := by decide +kernel
theorem dX4_grind_161 : decode cX4_grind 161 = .ok (.iadd, 1) := by decide +kernel
theorem dX4_grind_162 : decode cX4_grind 162 = .ok (.putfield 22, 3) := by decide +kernel
theorem dX4_grind_165 : decode cX4_grind 165 = .ok (.aload_n 0, 1) := by decide +kernel
theorem dX4_grind_166 : decode cX4_grind 166 = .ok (.dup, 1) := by decide +kernel
theorem dX4_grind_167 : decode cX4_grind 167 = .ok (.getfield 19, 3) := by decide +kernel
theorem dX4_grind_170 : decode cX4_grind 170 = .ok (.iconst 1, 1) := by decide +kernel
theorem dX4_grind_171 : decode cX4_grind 171 = .ok (.iadd, 1) := by decide +kernel
theorem dX4_grind_172 : decode cX4_grind 172 = .ok (.putfield 19, 3) := by decide +kernel
theorem dX4_grind_175 : decode cX4_grind 175 = .ok (.return_, 1) := by decide +kernel
theorem dX5_init_0 : decode cX5_init 0 = .ok (.aload_n 0, 1) := by decide +kernel
theorem dX5_init_1 : decode cX5_init 1 = .ok (.invokespecial 3, 3) := by decide +kernel
theorem dX5_init_4 : decode cX5_init 4 = .ok (.aload_n 0, 1) := by decide +kernel
theorem dX5_init_5 : decode cX5_init 5 = .ok (.bipush 8, 2) := by decide +kernel
theorem dX5_init_7 : decode cX5_init 7 = .ok (.newarray .int, 2) := by decide +kernel
theorem dX5_init_9 : decode cX5_init 9 = .ok (.putfield 9, 3) := by decide +kernel
theorem dX5_init_12 : decode cX5_init 12 = .ok (.aload_n 0, 1) := by decide +kernel
theorem dX5_init_13 : decode cX5_init 13 = .ok (.bipush 8, 2) := by decide +kernel
theorem dX5_init_15 : decode cX5_init 15 = .ok (.bipush 101, 2) := by decide +kernel
theorem dX5_init_17 : decode cX5_init 17 = .ok (.multianewarray 15 2, 4) := by decide +kernel
theorem dX5_init_21 : decode cX5_init 21 = .ok (.putfield 17, 3) := by decide +kernel
theorem dX5_init_24 : decode cX5_init 24 = .ok (.aload_n 0, 1) := by decide +kernel
theorem dX5_init_25 : decode cX5_init 25 = .ok (.sipush 256, 3) := by decide +kernel
theorem dX5_init_28 : decode cX5_init 28 = .ok (.newarray .int, 2) := by decide +kernel
theorem dX5_init_30 : decode cX5_init 30 = .ok (.putfield 20, 3) := by decide +kernel
theorem dX5_init_33 : decode cX5_init 33 = .ok (.aload_n 0, 1) := by decide +kernel
theorem dX5_init_34 : decode cX5_init 34 = .ok (.sipush 256, 3) := by decide +kernel
theorem dX5_init_37 : decode cX5_init 37 = .ok (.newarray .int, 2) := by decide +kernel
theorem dX5_init_39 : decode cX5_init 39 = .ok (.putfield 23, 3) := by decide +kernel
theorem dX5_init_42 : decode cX5_init 42 = .ok (.aload_n 0, 1) := by decide +kernel
theorem dX5_init_43 : decode cX5_init 43 = .ok (.sipush 256, 3) := by decide +kernel
theorem dX5_init_46 : decode cX5_init 46 = .ok (.newarray .int, 2) := by decide +kernel
theorem dX5_init_48 : decode cX5_init 48 = .ok (.putfield 26, 3) := by decide +kernel
theorem dX5_init_51 : decode cX5_init 51 = .ok (.aload_n 0, 1) := by decide +kernel
theorem dX5_init_52 : decode cX5_init 52 = .ok (.iconst 0, 1) := by decide +kernel
theorem dX5_init_53 : decode cX5_init 53 = .ok (.putfield 29, 3) := by decide +kernel
theorem dX5_init_56 : decode cX5_init 56 = .ok (.aload_n 0, 1) := by decide +kernel
theorem dX5_init_57 : decode cX5_init 57 = .ok (.iconst 0, 1) := by decide +kernel
theorem dX5_init_58 : decode cX5_init 58 = .ok (.putfield 33, 3) := by decide +kernel
theorem dX5_init_61 : decode cX5_init 61 = .ok (.return_, 1) := by decide +kernel
theorem dX5_clear_0 : decode cX5_clear 0 = .ok (.aload_n 0, 1) := by decide +kernel
theorem dX5_clear_1 : decode cX5_clear 1 = .ok (.iconst 0, 1) := by decide +kernel
theorem dX5_clear_2 : decode cX5_clear 2 = .ok (.putfield 29, 3) := by decide +kernel
theorem dX5_clear_5 : decode cX5_clear 5 = .ok (.aload_n 0, 1) := by decide +kernel
theorem dX5_clear_6 : decode cX5_clear 6 = .ok (.iload_n 1, 1) := by decide +kernel
theorem dX5_clear_7 : decode cX5_clear 7 = .ok (.putfield 33, 3) := by decide +kernel
theorem dX5_clear_10 : decode cX5_clear 10 = .ok (.aload_n 0, 1) := by decide +kernel
theorem dX5_clear_11 : decode cX5_clear 11 = .ok (.getfield 20, 3) := by decide +kernel
theorem dX5_clear_14 : decode cX5_clear 14 = .ok (.iconst 0, 1) := by decide +kernel
theorem dX5_clear_15 : decode cX5_clear 15 = .ok (.iload_n 1, 1) := by decide +kernel
theorem dX5_clear_16 : decode cX5_clear 16 = .ok (.iastore, 1) := by decide +kernel
theorem dX5_clear_17 : decode cX5_clear 17 = .ok (.return_, 1) := by decide +kernel
theorem dX5_add_0 : decode cX5_add 0 = .ok (.aload_n 0, 1) := by decide +kernel
theorem dX5_add_1 : decode cX5_add 1 = .ok (.getfield 29, 3) := by decide +kernel
theorem dX5_add_4 : decode cX5_add 4 = .ok (.bipush 8, 2) := by decide +kernel
theorem dX5_add_6 : decode cX5_add 6 = .ok (.if_icmp .ge 8, 3) := by decide +kernel
theorem dX5_add_9 : decode cX5_add 9 = .ok (.iload_n 2, 1) := by decide +kernel
theorem dX5_add_10 : decode cX5_add 10 = .ok (.iconst 1, 1) := by decide +kernel
theorem dX5_add_11 : decode cX5_add 11 = .ok (.if_icmp .ge 5, 3) := by decide +kernel
theorem dX5_add_14 : decode cX5_add 14 = .ok (.iconst 0, 1) := by decide +kernel
theorem dX5_add_15 : decode cX5_add 15 = .ok (.ireturn, 1) := by decide +kernel
theorem dX5_add_16 : decode cX5_add 16 = .ok (.aload_n 0, 1) := by decide +kernel
theorem dX5_add_17 : decode cX5_add 17 = .ok (.getfield 9, 3) := by decide +kernel
theorem dX5_add_20 : decode cX5_add 20 = .ok (.aload_n 0, 1) := by decide +kernel
theorem dX5_add_21 : decode cX5_add 21 = .ok (.getfield 29, 3) := by decide +kernel
theorem dX5_add_24 : decode cX5_add 24 = .ok (.aload_n 1, 1) := by decide +kernel
theorem dX5_add_25 : decode cX5_add 25 = .ok (.getfield 36, 3) := by decide +kernel
theorem dX5_add_28 : decode cX5_add 28 = .ok (.iastore, 1) := by decide +kernel
theorem dX5_add_29 : decode cX5_add 29 = .ok (.aload_n 0, 1) := by decide +kernel
theorem dX5_add_30 : decode cX5_add 30 = .ok (.aload_n 0, 1) := by decide +kernel
theorem dX5_add_31 : decode cX5_add 31 = .ok (.getfield 17, 3) := by decide +kernel
theorem dX5_add_34 : decode cX5_add 34 = .ok (.aload_n 0, 1) := by decide +kernel
theorem dX5_add_35 : decode cX5_add 35 = .ok (.getfield 29, 3) := by decide +kernel
theorem dX5_add_38 : decode cX5_add 38 = .ok (.aaload, 1) := by decide +kernel
theorem dX5_add_39 : decode cX5_add 39 = .ok (.aload_n 1, 1) := by decide +kernel
theorem dX5_add_40 : decode cX5_add 40 = .ok (.aload_n 3, 1) := by decide +kernel
theorem dX5_add_41 : decode cX5_add 41 = .ok (.invokevirtual 41, 3) := by decide +kernel
theorem dX5_add_44 : decode cX5_add 44 = .ok (.aload_n 1, 1) := by decide +kernel
theorem dX5_add_45 : decode cX5_add 45 = .ok (.aload_n 1, 1) := by decide +kernel
theorem dX5_add_46 : decode cX5_add 46 = .ok (.getfield 45, 3) := by decide +kernel
theorem dX5_add_49 : decode cX5_add 49 = .ok (.invokevirtual 48, 3) := by decide +kernel
theorem dX5_add_52 : decode cX5_add 52 = .ok (.iload_n 2, 1) := by decide +kernel
theorem dX5_add_53 : decode cX5_add 53 = .ok (.iadd, 1) := by decide +kernel
theorem dX5_add_54 : decode cX5_add 54 = .ok (.iconst 1, 1) := by decide +kernel
theorem dX5_add_55 : decode cX5_add 55 = .ok (.isub, 1) := by decide +kernel
theorem dX5_add_56 : decode cX5_add 56 = .ok (.iload_n 2, 1) := by decide +kernel
theorem dX5_add_57 : decode cX5_add 57 = .ok (.idiv, 1) := by decide +kernel
theorem dX5_add_58 : decode cX5_add 58 = .ok (.istore 4, 2) := by decide +kernel
theorem dX5_add_60 : decode cX5_add 60 = .ok (.iconst 1, 1) := by decide +kernel
theorem dX5_add_61 : decode cX5_add 61 = .ok (.aload_n 0, 1) := by decide +kernel
theorem dX5_add_62 : decode cX5_add 62 = .ok (.getfield 29, 3) := by decide +kernel
theorem dX5_add_65 : decode cX5_add 65 = .ok (.ishl, 1) := by decide +kernel
theorem dX5_add_66 : decode cX5_add 66 = .ok (.istore 5, 2) := by decide +kernel
theorem dX5_add_68 : decode cX5_add 68 = .ok (.iconst 0, 1) := by decide +kernel
theorem dX5_add_69 : decode cX5_add 69 = .ok (.istore 6, 2) := by decide +kernel
theorem dX5_add_71 : decode cX5_add 71 = .ok (.iload 6, 2) := by decide +kernel
theorem dX5_add_73 : decode cX5_add 73 = .ok (.iload 5, 2) := by decide +kernel
theorem dX5_add_75 : decode cX5_add 75 = .ok (.if_icmp .ge 29, 3) := by decide +kernel
theorem dX5_add_78 : decode cX5_add 78 = .ok (.aload_n 0, 1) := by decide +kernel
theorem dX5_add_79 : decode cX5_add 79 = .ok (.getfield 20, 3) := by decide +kernel
theorem dX5_add_82 : decode cX5_add 82 = .ok (.iload 6, 2) := by decide +kernel
theorem dX5_add_84 : decode cX5_add 84 = .ok (.iload 5, 2) := by decide +kernel
theorem dX5_add_86 : decode cX5_add 86 = .ok (.iadd, 1) := by decide +kernel
theorem dX5_add_87 : decode cX5_add 87 = .ok (.aload_n 0, 1) := by decide +kernel
theorem dX5_add_88 : decode cX5_add 88 = .ok (.getfield 20, 3) := by decide +kernel
theorem dX5_add_91 : decode cX5_add 91 = .ok (.iload 6, 2) := by decide +kernel
theorem dX5_add_93 : decode cX5_add 93 = .ok (.iaload, 1) := by decide +kernel
theorem dX5_add_94 : decode cX5_add 94 = .ok (.iload 4, 2) := by decide +kernel
theorem dX5_add_96 : decode cX5_add 96 = .ok (.iadd, 1) := by decide +kernel
theorem dX5_add_97 : decode cX5_add 97 = .ok (.iastore, 1) := by decide +kernel
theorem dX5_add_98 : decode cX5_add 98 = .ok (.iinc 6 1, 3) := by decide +kernel
theorem dX5_add_101 : decode cX5_add 101 = .ok (.goto (-30), 3) := by decide +kernel
theorem dX5_add_104 : decode cX5_add 104 = .ok (.aload_n 0, 1) := by decide +kernel
theorem dX5_add_105 : decode cX5_add 105 = .ok (.dup, 1) := by decide +kernel
theorem dX5_add_106 : decode cX5_add 106 = .ok (.getfield 29, 3) := by decide +kernel
theorem dX5_add_109 : decode cX5_add 109 = .ok (.iconst 1, 1) := by decide +kernel
theorem dX5_add_110 : decode cX5_add 110 = .ok (.iadd, 1) := by decide +kernel
theorem dX5_add_111 : decode cX5_add 111 = .ok (.putfield 29, 3) := by decide +kernel
theorem dX5_add_114 : decode cX5_add 114 = .ok (.iconst 1, 1) := by decide +kernel
theorem dX5_add_115 : decode cX5_add 115 = .ok (.ireturn, 1) := by decide +kernel
theorem dX5_foresee_0 : decode cX5_foresee 0 = .ok (.aload_n 0, 1) := by decide +kernel
theorem dX5_foresee_1 : decode cX5_foresee 1 = .ok (.getfield 33, 3) := by decide +kernel
theorem dX5_foresee_4 : decode cX5_foresee 4 = .ok (.bipush 24, 2) := by decide +kernel
theorem dX5_foresee_6 : decode cX5_foresee 6 = .ok (.idiv, 1) := by decide +kernel
theorem dX5_foresee_7 : decode cX5_foresee 7 = .ok (.istore 4, 2) := by decide +kernel
theorem dX5_foresee_9 : decode cX5_foresee 9 = .ok (.iconst 0, 1) := by decide +kernel
theorem dX5_foresee_10 : decode cX5_foresee 10 = .ok (.istore 5, 2) := by decide +kernel
theorem dX5_foresee_12 : decode cX5_foresee 12 = .ok (.aload_n 1, 1) := by decide +kernel
theorem dX5_foresee_13 : decode cX5_foresee 13 = .ok (.iconst 0, 1) := by decide +kernel
theorem dX5_foresee_14 : decode cX5_foresee 14 = .ok (.iconst 0, 1) := by decide +kernel
theorem dX5_foresee_15 : decode cX5_foresee 15 = .ok (.iastore, 1) := by decide +kernel
theorem dX5_foresee_16 : decode cX5_foresee 16 = .ok (.iconst 1, 1) := by decide +kernel
theorem dX5_foresee_17 : decode cX5_foresee 17 = .ok (.istore 6, 2) := by decide +kernel
theorem dX5_foresee_19 : decode cX5_foresee 19 = .ok (.iload 4, 2) := by decide +kernel
theorem dX5_foresee_21 : decode cX5_foresee 21 = .ok (.iload 6, 2) := by decide +kernel
theorem dX5_foresee_23 : decode cX5_foresee 23 = .ok (.iadd, 1) := by decide +kernel
theorem dX5_foresee_24 : decode cX5_foresee 24 = .ok (.bipush 100, 2) := by decide +kernel
theorem dX5_foresee_26 : decode cX5_foresee 26 = .ok (.if_icmp .gt 49, 3) := by decide +kernel
theorem dX5_foresee_29 : decode cX5_foresee 29 = .ok (.iload 6, 2) := by decide +kernel
theorem dX5_foresee_31 : decode cX5_foresee 31 = .ok (.aload_n 1, 1) := by decide +kernel
theorem dX5_foresee_32 : decode cX5_foresee 32 = .ok (.arraylength, 1) := by decide +kernel
theorem dX5_foresee_33 : decode cX5_foresee 33 = .ok (.if_icmp .ge 42, 3) := by decide +kernel
theorem dX5_foresee_36 : decode cX5_foresee 36 = .ok (.iload 5, 2) := by decide +kernel
theorem dX5_foresee_38 : decode cX5_foresee 38 = .ok (.aload_n 2, 1) := by decide +kernel
theorem dX5_foresee_39 : decode cX5_foresee 39 = .ok (.aload_n 2, 1) := by decide +kernel
theorem dX5_foresee_40 : decode cX5_foresee 40 = .ok (.getfield 52, 3) := by decide +kernel
theorem dX5_foresee_43 : decode cX5_foresee 43 = .ok (.iload 5, 2) := by decide +kernel
theorem dX5_foresee_45 : decode cX5_foresee 45 = .ok (.isub, 1) := by decide +kernel
theorem dX5_foresee_46 : decode cX5_foresee 46 = .ok (.aload_n 3, 1) := by decide +kernel
theorem dX5_foresee_47 : decode cX5_foresee 47 = .ok (.iload 4, 2) := by decide +kernel
theorem dX5_foresee_49 : decode cX5_foresee 49 = .ok (.iload 6, 2) := by decide +kernel
theorem dX5_foresee_51 : decode cX5_foresee 51 = .ok (.iadd, 1) := by decide +kernel
theorem dX5_foresee_52 : decode cX5_foresee 52 = .ok (.iconst 1, 1) := by decide +kernel
theorem dX5_foresee_53 : decode cX5_foresee 53 = .ok (.isub, 1) := by decide +kernel
theorem dX5_foresee_54 : decode cX5_foresee 54 = .ok (.invokevirtual 55, 3) := by decide +kernel
theorem dX5_foresee_57 : decode cX5_foresee 57 = .ok (.invokevirtual 60, 3) := by decide +kernel
theorem dX5_foresee_60 : decode cX5_foresee 60 = .ok (.iadd, 1) := by decide +kernel
theorem dX5_foresee_61 : decode cX5_foresee 61 = .ok (.istore 5, 2) := by decide +kernel
theorem dX5_foresee_63 : decode cX5_foresee 63 = .ok (.aload_n 1, 1) := by decide +kernel
theorem dX5_foresee_64 : decode cX5_foresee 64 = .ok (.iload 6, 2) := by decide +kernel
theorem dX5_foresee_66 : decode cX5_foresee 66 = .ok (.iload 5, 2) := by decide +kernel
theorem dX5_foresee_68 : decode cX5_foresee 68 = .ok (.iastore, 1) := by decide +kernel
theorem dX5_foresee_69 : decode cX5_foresee 69 = .ok (.iinc 6 1, 3) := by decide +kernel
theorem dX5_foresee_72 : decode cX5_foresee 72 = .ok (.goto (-53), 3) := by decide +kernel
theorem dX5_foresee_75 : decode cX5_foresee 75 = .ok (.return_, 1) := by decide +kernel
theorem dX5_search_0 : decode cX5_search 0 = .ok (.iconst 1, 1) := by decide +kernel
theorem dX5_search_1 : decode cX5_search 1 = .ok (.aload_n 0, 1) := by decide +kernel
theorem dX5_search_2 : decode cX5_search 2 = .ok (.getfield 29, 3) := by decide +kernel
theorem dX5_search_5 : decode cX5_search 5 = .ok (.ishl, 1) := by decide +kernel
theorem dX5_search_6 : decode cX5_search 6 = .ok (.iconst 1, 1) := by decide +kernel
theorem dX5_search_7 : decode cX5_search 7 = .ok (.isub, 1) := by decide +kernel
theorem dX5_search_8 : decode cX5_search 8 = .ok (.istore_n 1, 1) := by decide +kernel
theorem dX5_search_9 : decode cX5_search 9 = .ok (.aload_n 0, 1) := by decide +kernel
theorem dX5_search_10 : decode cX5_search 10 = .ok (.getfield 23, 3) := by decide +kernel
theorem dX5_search_13 : decode cX5_search 13 = .ok (.iload_n 1, 1) := by decide +kernel
theorem dX5_search_14 : decode cX5_search 14 = .ok (.iconst 0, 1) := by decide +kernel
theorem dX5_search_15 : decode cX5_search 15 = .ok (.iastore, 1) := by decide +kernel
theorem dX5_search_16 : decode cX5_search 16 = .ok (.iload_n 1, 1) := by decide +kernel
theorem dX5_search_17 : decode cX5_search 17 = .ok (.iconst 1, 1) := by decide +kernel
theorem dX5_search_18 : decode cX5_search 18 = .ok (.isub, 1) := by decide +kernel
theorem dX5_search_19 : decode cX5_search 19 = .ok (.istore_n 2, 1) := by decide +kernel
theorem dX5_search_20 : decode cX5_search 20 = .ok (.iload_n 2, 1) := by decide +kernel
theorem dX5_search_21 : decode cX5_search 21 = .ok (.ifCond .lt 14, 3) := by decide +kernel
theorem dX5_search_24 : decode cX5_search 24 = .ok (.aload_n 0, 1) := by decide +kernel
theorem dX5_search_25 : decode cX5_search 25 = .ok (.iload_n 2, 1) := by decide +kernel
theorem dX5_search_26 : decode cX5_search 26 = .ok (.invokevirtual 64, 3) := by decide +kernel
theorem dX5_search_29 : decode cX5_search 29 = .ok (.iinc 2 (-1), 3) := by decide +kernel
theorem dX5_search_32 : decode cX5_search 32 = .ok (.goto (-12), 3) := by decide +kernel
theorem dX5_search_35 : decode cX5_search 35 = .ok (.return_, 1) := by decide +kernel
theorem dX5_choose_0 : decode cX5_choose 0 = .ok (.aload_n 0, 1) := by decide +kernel
theorem dX5_choose_1 : decode cX5_choose 1 = .ok (.getfield 20, 3) := by decide +kernel
theorem dX5_choose_4 : decode cX5_choose 4 = .ok (.iload_n 1, 1) := by decide +kernel
theorem dX5_choose_5 : decode cX5_choose 5 = .ok (.iaload, 1) := by decide +kernel
theorem dX5_choose_6 : decode cX5_choose 6 = .ok (.sipush 2400, 3) := by decide +kernel
theorem dX5_choose_9 : decode cX5_choose 9 = .ok (.invokestatic 68, 3) := by decide +kernel
theorem dX5_choose_12 : decode cX5_choose 12 = .ok (.bipush 24, 2) := by decide +kernel
theorem dX5_choose_14 : decode cX5_choose 14 = .ok (.idiv, 1) := by decide +kernel
theorem dX5_choose_15 : decode cX5_choose 15 = .ok (.aload_n 0, 1) := by decide +kernel
theorem dX5_choose_16 : decode cX5_choose 16 = .ok (.getfield 33, 3) := by decide +kernel
theorem dX5_choose_19 : decode cX5_choose 19 = .ok (.bipush 24, 2) := by decide +kernel
theorem dX5_choose_21 : decode cX5_choose 21 = .ok (.idiv, 1) := by decide +kernel
theorem dX5_choose_22 : decode cX5_choose 22 = .ok (.isub, 1) := by decide +kernel
theorem dX5_choose_23 : decode cX5_choose 23 = .ok (.istore_n 2, 1) := by decide +kernel
theorem dX5_choose_24 : decode cX5_choose 24 = .ok (.iconst 0, 1) := by decide +kernel
theorem dX5_choose_25 : decode cX5_choose 25 = .ok (.istore_n 3, 1) := by decide +kernel
theorem dX5_choose_26 : decode cX5_choose 26 = .ok (.ldc 75, 2) := by decide +kernel
theorem dX5_choose_28 : decode cX5_choose 28 = .ok (.istore 4, 2) := by decide +kernel
theorem dX5_choose_30 : decode cX5_choose 30 = .ok (.iconst 0, 1) := by decide +kernel
theorem dX5_choose_31 : decode cX5_choose 31 = .ok (.istore 5, 2) := by decide +kernel
theorem dX5_choose_33 : decode cX5_choose 33 = .ok (.iload 5, 2) := by decide +kernel
theorem dX5_choose_35 : decode cX5_choose 35 = .ok (.aload_n 0, 1) := by decide +kernel
theorem dX5_choose_36 : decode cX5_choose 36 = .ok (.getfield 29, 3) := by decide +kernel
theorem dX5_choose_39 : decode cX5_choose 39 = .ok (.if_icmp .ge 60, 3) := by decide +kernel
theorem dX5_choose_42 : decode cX5_choose 42 = .ok (.iconst 1, 1) := by decide +kernel
theorem dX5_choose_43 : decode cX5_choose 43 = .ok (.iload 5, 2) := by decide +kernel
theorem dX5_choose_45 : decode cX5_choose 45 = .ok (.ishl, 1) := by decide +kernel
theorem dX5_choose_46 : decode cX5_choose 46 = .ok (.istore 6, 2) := by decide +kernel
theorem dX5_choose_48 : decode cX5_choose 48 = .ok (.iload_n 1, 1) := by decide +kernel
theorem dX5_choose_49 : decode cX5_choose 49 = .ok (.iload 6, 2) := by decide +kernel
theorem dX5_choose_51 : decode cX5_choose 51 = .ok (.iand, 1) := by decide +kernel
theorem dX5_choose_52 : decode cX5_choose 52 = .ok (.ifCond .eq 6, 3) := by decide +kernel
theorem dX5_choose_55 : decode cX5_choose 55 = .ok (.goto 38, 3) := by decide +kernel
theorem dX5_choose_58 : decode cX5_choose 58 = .ok (.aload_n 0, 1) := by decide +kernel
theorem dX5_choose_59 : decode cX5_choose 59 = .ok (.getfield 17, 3) := by decide +kernel
theorem dX5_choose_62 : decode cX5_choose 62 = .ok (.iload 5, 2) := by decide +kernel
theorem dX5_choose_64 : decode cX5_choose 64 = .ok (.aaload, 1) := by decide +kernel
theorem dX5_choose_65 : decode cX5_choose 65 = .ok (.iload_n 2, 1) := by decide +kernel
theorem dX5_choose_66 : decode cX5_choose 66 = .ok (.iaload, 1) := by decide +kernel
theorem dX5_choose_67 : decode cX5_choose 67 = .ok (.aload_n 0, 1) := by decide +kernel
theorem dX5_choose_68 : decode cX5_choose 68 = .ok (.getfield 23, 3) := by decide +kernel
theorem dX5_choose_71 : decode cX5_choose 71 = .ok (.iload_n 1, 1) := by decide +kernel
theorem dX5_choose_72 : decode cX5_choose 72 = .ok (.iload 6, 2) := by decide +kernel
theorem dX5_choose_74 : decode cX5_choose 74 = .ok (.iadd, 1) := by decide +kernel
theorem dX5_choose_75 : decode cX5_choose 75 = .ok (.iaload, 1) := by decide +kernel
theorem dX5_choose_76 : decode cX5_choose 76 = .ok (.iadd, 1) := by decide +kernel
theorem dX5_choose_77 : decode cX5_choose 77 = .ok (.istore 7, 2) := by decide +kernel
theorem dX5_choose_79 : decode cX5_choose 79 = .ok (.iload 7, 2) := by decide +kernel
theorem dX5_choose_81 : decode cX5_choose 81 = .ok (.iload 4, 2) := by decide +kernel
theorem dX5_choose_83 : decode cX5_choose 83 = .ok (.if_icmp .ge 10, 3) := by decide +kernel
theorem dX5_choose_86 : decode cX5_choose 86 = .ok (.iload 5, 2) := by decide +kernel
theorem dX5_choose_88 : decode cX5_choose 88 = .ok (.istore_n 3, 1) := by decide +kernel
theorem dX5_choose_89 : decode cX5_choose 89 = .ok (.iload 7, 2) := by decide +kernel
theorem dX5_choose_91 : decode cX5_choose 91 = .ok (.istore 4, 2) := by decide +kernel
theorem dX5_choose_93 : decode cX5_choose 93 = .ok (.iinc 5 1, 3) := by decide +kernel
theorem dX5_choose_96 : decode cX5_choose 96 = .ok (.goto (-63), 3) := by decide +kernel
theorem dX5_choose_99 : decode cX5_choose 99 = .ok (.aload_n 0, 1) := by decide +kernel
theorem dX5_choose_100 : decode cX5_choose 100 = .ok (.getfield 26, 3) := by decide +kernel
theorem dX5_choose_103 : decode cX5_choose 103 = .ok (.iload_n 1, 1) := by decide +kernel
theorem dX5_choose_104 : decode cX5_choose 104 = .ok (.iload_n 3, 1) := by decide +kernel
theorem dX5_choose_105 : decode cX5_choose 105 = .ok (.iastore, 1) := by decide +kernel
theorem dX5_choose_106 : decode cX5_choose 106 = .ok (.aload_n 0, 1) := by decide +kernel
theorem dX5_choose_107 : decode cX5_choose 107 = .ok (.getfield 23, 3) := by decide +kernel
theorem dX5_choose_110 : decode cX5_choose 110 = .ok (.iload_n 1, 1) := by decide +kernel
theorem dX5_choose_111 : decode cX5_choose 111 = .ok (.iload 4, 2) := by decide +kernel
theorem dX5_choose_113 : decode cX5_choose 113 = .ok (.iastore, 1) := by decide +kernel
theorem dX5_choose_114 : decode cX5_choose 114 = .ok (.return_, 1) := by decide +kernel
theorem dX5_leastWaste_0 : decode cX5_leastWaste 0 = .ok (.aload_n 0, 1) := by decide +kernel
theorem dX5_leastWaste_1 : decode cX5_leastWaste 1 = .ok (.getfield 23, 3) := by decide +kernel
theorem dX5_leastWaste_4 : decode cX5_leastWaste 4 = .ok (.iconst 0, 1) := by decide +kernel
theorem dX5_leastWaste_5 : decode cX5_leastWaste 5 = .ok (.iaload, 1) := by decide +kernel
theorem dX5_leastWaste_6 : decode cX5_leastWaste 6 = .ok (.ireturn, 1) := by decide +kernel
theorem dX5_plotAtPlace_0 : decode cX5_plotAtPlace 0 = .ok (.iload_n 1, 1) := by decide +kernel
theorem dX5_plotAtPlace_1 : decode cX5_plotAtPlace 1 = .ok (.ifCond .lt 11, 3) := by decide +kernel
theorem dX5_plotAtPlace_4 : decode cX5_plotAtPlace 4 = .ok (.iload_n 1, 1) := by decide +kernel
theorem dX5_plotAtPlace_5 : decode cX5_plotAtPlace 5 = .ok (.aload_n 0, 1) := by decide +kernel
theorem dX5_plotAtPlace_6 : decode cX5_plotAtPlace 6 = .ok (.getfield 29, 3) := by decide +kernel
theorem dX5_plotAtPlace_9 : decode cX5_plotAtPlace 9 = .ok (.if_icmp .lt 6, 3) := by decide +kernel
theorem dX5_plotAtPlace_12 : decode cX5_plotAtPlace 12 = .ok (.bipush (-9), 2) := by decide +kernel
theorem dX5_plotAtPlace_14 : decode cX5_plotAtPlace 14 = .ok (.ireturn, 1) := by decide +kernel
theorem dX5_plotAtPlace_15 : decode cX5_plotAtPlace 15 = .ok (.iconst 0, 1) := by decide +kernel
theorem dX5_plotAtPlace_16 : decode cX5_plotAtPlace 16 = .ok (.istore_n 2, 1) := by decide +kernel
theorem dX5_plotAtPlace_17 : decode cX5_plotAtPlace 17 = .ok (.iconst 0, 1) := by decide +kernel
theorem dX5_plotAtPlace_18 : decode cX5_plotAtPlace 18 = .ok (.istore_n 3, 1) := by decide +kernel
theorem dX5_plotAtPlace_19 : decode cX5_plotAtPlace 19 = .ok (.iload_n 3, 1) := by decide +kernel
theorem dX5_plotAtPlace_20 : decode cX5_plotAtPlace 20 = .ok (.iload_n 1, 1) := by decide +kernel
theorem dX5_plotAtPlace_21 : decode cX5_plotAtPlace 21 = .ok (.if_icmp .ge 20, 3) := by decide +kernel
theorem dX5_plotAtPlace_24 : decode cX5_plotAtPlace 24 = .ok (.iload_n 2, 1) := by decide +kernel
theorem dX5_plotAtPlace_25 : decode cX5_plotAtPlace 25 = .ok (.iconst 1, 1) := by decide +kernel
theorem dX5_plotAtPlace_26 : decode cX5_plotAtPlace 26 = .ok (.aload_n 0, 1) := by decide +kernel
theorem dX5_plotAtPlace_27 : decode cX5_plotAtPlace 27 = .ok (.getfield 26, 3) := by decide +kernel
theorem dX5_plotAtPlace_30 : decode cX5_plotAtPlace 30 = .ok (.iload_n 2, 1) := by decide +kernel
theorem dX5_plotAtPlace_31 : decode cX5_plotAtPlace 31 = .ok (.iaload, 1) := by decide +kernel
theorem dX5_plotAtPlace_32 : decode cX5_plotAtPlace 32 = .ok (.ishl, 1) := by decide +kernel
theorem dX5_plotAtPlace_33 : decode cX5_plotAtPlace 33 = .ok (.ior, 1) := by decide +kernel
theorem dX5_plotAtPlace_34 : decode cX5_plotAtPlace 34 = .ok (.istore_n 2, 1) := by decide +kernel
theorem dX5_plotAtPlace_35 : decode cX5_plotAtPlace 35 = .ok (.iinc 3 1, 3) := by decide +kernel
theorem dX5_plotAtPlace_38 : decode cX5_plotAtPlace 38 = .ok (.goto (-19), 3) := by decide +kernel
theorem dX5_plotAtPlace_41 : decode cX5_plotAtPlace 41 = .ok (.aload_n 0, 1) := by decide +kernel
theorem dX5_plotAtPlace_42 : decode cX5_plotAtPlace 42 = .ok (.getfield 9, 3) := by decide +kernel
theorem dX5_plotAtPlace_45 : decode cX5_plotAtPlace 45 = .ok (.aload_n 0, 1) := by decide +kernel
theorem dX5_plotAtPlace_46 : decode cX5_plotAtPlace 46 = .ok (.getfield 26, 3) := by decide +kernel
theorem dX5_plotAtPlace_49 : decode cX5_plotAtPlace 49 = .ok (.iload_n 2, 1) := by decide +kernel
theorem dX5_plotAtPlace_50 : decode cX5_plotAtPlace 50 = .ok (.iaload, 1) := by decide +kernel
theorem dX5_plotAtPlace_51 : decode cX5_plotAtPlace 51 = .ok (.iaload, 1) := by decide +kernel
theorem dX5_plotAtPlace_52 : decode cX5_plotAtPlace 52 = .ok (.ireturn, 1) := by decide +kernel
theorem dX6_init_0 : decode cX6_init 0 = .ok (.aload_n 0, 1) := by decide +kernel
theorem dX6_init_1 : decode cX6_init 1 = .ok (.invokespecial 3, 3) := by decide +kernel
theorem dX6_init_4 : decode cX6_init 4 = .ok (.aload_n 0, 1) := by decide +kernel
theorem dX6_init_5 : decode cX6_init 5 = .ok (.iconst 0, 1) := by decide +kernel
theorem dX6_init_6 : decode cX6_init 6 = .ok (.putfield 9, 3) := by decide +kernel
theorem dX6_init_9 : decode cX6_init 9 = .ok (.aload_n 0, 1) := by decide +kernel
theorem dX6_init_10 : decode cX6_init 10 = .ok (.iconst 0, 1) := by decide +kernel
theorem dX6_init_11 : decode cX6_init 11 = .ok (.putfield 15, 3) := by decide +kernel
theorem dX6_init_14 : decode cX6_init 14 = .ok (.aload_n 0, 1) := by decide +kernel
theorem dX6_init_15 : decode cX6_init 15 = .ok (.iconst 0, 1) := by decide +kernel
theorem dX6_init_16 : decode cX6_init 16 = .ok (.putfield 18, 3) := by decide +kernel
theorem dX6_init_19 : decode cX6_init 19 = .ok (.aload_n 0, 1) := by decide +kernel
theorem dX6_init_20 : decode cX6_init 20 = .ok (.iconst 0, 1) := by decide +kernel
theorem dX6_init_21 : decode cX6_init 21 = .ok (.putfield 22, 3) := by decide +kernel
theorem dX6_init_24 : decode cX6_init 24 = .ok (.aload_n 0, 1) := by decide +kernel
theorem dX6_init_25 : decode cX6_init 25 = .ok (.bipush (-9), 2) := by decide +kernel
theorem dX6_init_27 : decode cX6_init 27 = .ok (.putfield 25, 3) := by decide +kernel
theorem dX6_init_30 : decode cX6_init 30 = .ok (.aload_n 0, 1) := by decide +kernel
theorem dX6_init_31 : decode cX6_init 31 = .ok (.iconst 0, 1) := by decide +kernel
theorem dX6_init_32 : decode cX6_init 32 = .ok (.putfield 28, 3) := by decide +kernel
theorem dX6_init_35 : decode cX6_init 35 = .ok (.aload_n 0, 1) := by decide +kernel
theorem dX6_init_36 : decode cX6_init 36 = .ok (.iconst 0, 1) := by decide +kernel
theorem dX6_init_37 : decode cX6_init 37 = .ok (.putfield 31, 3) := by decide +kernel
theorem dX6_init_40 : decode cX6_init 40 = .ok (.aload_n 0, 1) := by decide +kernel
theorem dX6_init_41 : decode cX6_init 41 = .ok (.iconst 0, 1) := by decide +kernel
theorem dX6_init_42 : decode cX6_init 42 = .ok (.putfield 34, 3) := by decide +kernel
theorem dX6_init_45 : decode cX6_init 45 = .ok (.aload_n 0, 1) := by decide +kernel
theorem dX6_init_46 : decode cX6_init 46 = .ok (.iload_n 1, 1) := by decide +kernel
theorem dX6_init_47 : decode cX6_init 47 = .ok (.putfield 37, 3) := by decide +kernel
theorem dX6_init_50 : decode cX6_init 50 = .ok (.aload_n 0, 1) := by decide +kernel
theorem dX6_init_51 : decode cX6_init 51 = .ok (.aload_n 2, 1) := by decide +kernel
theorem dX6_init_52 : decode cX6_init 52 = .ok (.putfield 40, 3) := by decide +kernel
theorem dX6_init_55 : decode cX6_init 55 = .ok (.aload_n 0, 1) := by decide +kernel
theorem dX6_init_56 : decode cX6_init 56 = .ok (.iload_n 3, 1) := by decide +kernel
theorem dX6_init_57 : decode cX6_init 57 = .ok (.putfield 44, 3) := by decide +kernel
theorem dX6_init_60 : decode cX6_init 60 = .ok (.aload_n 0, 1) := by decide +kernel
theorem dX6_init_61 : decode cX6_init 61 = .ok (.iload 4, 2) := by decide +kernel
theorem dX6_init_63 : decode cX6_init 63 = .ok (.putfield 47, 3) := by decide +kernel
theorem dX6_init_66 : decode cX6_init 66 = .ok (.aload_n 0, 1) := by decide +kernel
theorem dX6_init_67 : decode cX6_init 67 = .ok (.iload 5, 2) := by decide +kernel
theorem dX6_init_69 : decode cX6_init 69 = .ok (.putfield 50, 3) := by decide +kernel
theorem dX6_init_72 : decode cX6_init 72 = .ok (.aload_n 0, 1) := by decide +kernel
theorem dX6_init_73 : decode cX6_init 73 = .ok (.iload 6, 2) := by decide +kernel
theorem dX6_init_75 : decode cX6_init 75 = .ok (.putfield 53, 3) := by decide +kernel
theorem dX6_init_78 : decode cX6_init 78 = .ok (.return_, 1) := by decide +kernel
theorem dX6_unitsFor_0 : decode cX6_unitsFor 0 = .ok (.aload_n 0, 1) := by decide +kernel
theorem dX6_unitsFor_1 : decode cX6_unitsFor 1 = .ok (.getfield 53, 3) := by decide +kernel
theorem dX6_unitsFor_4 : decode cX6_unitsFor 4 = .ok (.ifCond .eq 9, 3) := by decide +kernel
theorem dX6_unitsFor_7 : decode cX6_unitsFor 7 = .ok (.iconst 2, 1) := by decide +kernel
theorem dX6_unitsFor_8 : decode cX6_unitsFor 8 = .ok (.iload_n 1, 1) := by decide +kernel
theorem dX6_unitsFor_9 : decode cX6_unitsFor 9 = .ok (.imul, 1) := by decide +kernel
theorem dX6_unitsFor_10 : decode cX6_unitsFor 10 = .ok (.goto 4, 3) := by decide +kernel
theorem dX6_unitsFor_13 : decode cX6_unitsFor 13 = .ok (.iload_n 1, 1) := by decide +kernel
theorem dX6_unitsFor_14 : decode cX6_unitsFor 14 = .ok (.ireturn, 1) := by decide +kernel
theorem dX6_rootsFor_0 : decode cX6_rootsFor 0 = .ok (.aload_n 0, 1) := by decide +kernel
theorem dX6_rootsFor_1 : decode cX6_rootsFor 1 = .ok (.getfield 53, 3) := by decide +kernel
theorem dX6_rootsFor_4 : decode cX6_rootsFor 4 = .ok (.ifCond .eq 9, 3) := by decide +kernel
theorem dX6_rootsFor_7 : decode cX6_rootsFor 7 = .ok (.iload_n 1, 1) := by decide +kernel
theorem dX6_rootsFor_8 : decode cX6_rootsFor 8 = .ok (.iconst 2, 1) := by decide +kernel
theorem dX6_rootsFor_9 : decode cX6_rootsFor 9 = .ok (.idiv, 1) := by decide +kernel
theorem dX6_rootsFor_10 : decode cX6_rootsFor 10 = .ok (.goto 4, 3) := by decide +kernel
theorem dX6_rootsFor_13 : decode cX6_rootsFor 13 = .ok (.iload_n 1, 1) := by decide +kernel
theorem dX6_rootsFor_14 : decode cX6_rootsFor 14 = .ok (.ireturn, 1) := by decide +kernel
theorem dX6_wayBack_0 : decode cX6_wayBack 0 = .ok (.aload_n 0, 1) := by decide +kernel
theorem dX6_wayBack_1 : decode cX6_wayBack 1 = .ok (.getfield 53, 3) := by decide +kernel
theorem dX6_wayBack_4 : decode cX6_wayBack 4 = .ok (.ifCond .eq 12, 3) := by decide +kernel
theorem dX6_wayBack_7 : decode cX6_wayBack 7 = .ok (.aload_n 0, 1) := by decide +kernel
theorem dX6_wayBack_8 : decode cX6_wayBack 8 = .ok (.getfield 50, 3) := by decide +kernel
theorem dX6_wayBack_11 : decode cX6_wayBack 11 = .ok (.iconst 1, 1) := by decide +kernel
theorem dX6_wayBack_12 : decode cX6_wayBack 12 = .ok (.iadd, 1) := by decide +kernel
theorem dX6_wayBack_13 : decode cX6_wayBack 13 = .ok (.goto 7, 3) := by decide +kernel
theorem dX6_wayBack_16 : decode cX6_wayBack 16 = .ok (.aload_n 0, 1) := by decide +kernel
theorem dX6_wayBack_17 : decode cX6_wayBack 17 = .ok (.getfield 50, 3) := by decide +kernel
theorem dX6_wayBack_20 : decode cX6_wayBack 20 = .ok (.ireturn, 1) := by decide +kernel
theorem dX6_lift_0 : decode cX6_lift 0 = .ok (.iload_n 1, 1) := by decide +kernel
theorem dX6_lift_1 : decode cX6_lift 1 = .ok (.aload_n 0, 1) := by decide +kernel
theorem dX6_lift_2 : decode cX6_lift 2 = .ok (.getfield 44, 3) := by decide +kernel
theorem dX6_lift_5 : decode cX6_lift 5 = .ok (.invokestatic 56, 3) := by decide +kernel
theorem dX6_lift_8 : decode cX6_lift 8 = .ok (.istore_n 2, 1) := by decide +kernel
theorem dX6_lift_9 : decode cX6_lift 9 = .ok (.aload_n 0, 1) := by decide +kernel
theorem dX6_lift_10 : decode cX6_lift 10 = .ok (.dup, 1) := by decide +kernel
theorem dX6_lift_11 : decode cX6_lift 11 = .ok (.getfield 44, 3) := by decide +kernel
theorem dX6_lift_14 : decode cX6_lift 14 = .ok (.iload_n 2, 1) := by decide +kernel
theorem dX6_lift_15 : decode cX6_lift 15 = .ok (.isub, 1) := by decide +kernel
theorem dX6_lift_16 : decode cX6_lift 16 = .ok (.putfield 44, 3) := by decide +kernel
theorem dX6_lift_19 : decode cX6_lift 19 = .ok (.aload_n 0, 1) := by decide +kernel
theorem dX6_lift_20 : decode cX6_lift 20 = .ok (.dup, 1) := by decide +kernel
theorem dX6_lift_21 : decode cX6_lift 21 = .ok (.getfield 9, 3) := by decide +kernel
theorem dX6_lift_24 : decode cX6_lift 24 = .ok (.iload_n 2, 1) := by decide +kernel
theorem dX6_lift_25 : decode cX6_lift 25 = .ok (.iadd, 1) := by decide +kernel
theorem dX6_lift_26 : decode cX6_lift 26 = .ok (.putfield 9, 3) := by decide +kernel
theorem dX6_lift_29 : decode cX6_lift 29 = .ok (.aload_n 0, 1) := by decide +kernel
theorem dX6_lift_30 : decode cX6_lift 30 = .ok (.dup, 1) := by decide +kernel
theorem dX6_lift_31 : decode cX6_lift 31 = .ok (.getfield 15, 3) := by decide +kernel
theorem dX6_lift_34 : decode cX6_lift 34 = .ok (.iload_n 2, 1) := by decide +kernel
theorem dX6_lift_35 : decode cX6_lift 35 = .ok (.aload_n 0, 1) := by decide +kernel
theorem dX6_lift_36 : decode cX6_lift 36 = .ok (.getfield 47, 3) := by decide +kernel
theorem dX6_lift_39 : decode cX6_lift 39 = .ok (.imul, 1) := by decide +kernel
theorem dX6_lift_40 : decode cX6_lift 40 = .ok (.iadd, 1) := by decide +kernel
theorem dX6_lift_41 : decode cX6_lift 41 = .ok (.putfield 15, 3) := by decide +kernel
theorem dX6_lift_44 : decode cX6_lift 44 = .ok (.return_, 1) := by decide +kernel
theorem dX6_sugarIn_0 : decode cX6_sugarIn 0 = .ok (.aload_n 0, 1) := by decide +kernel
theorem dX6_sugarIn_1 : decode cX6_sugarIn 1 = .ok (.getfield 9, 3) := by decide +kernel
theorem dX6_sugarIn_4 : decode cX6_sugarIn 4 = .ok (.ifCond .le 21, 3) := by decide +kernel
theorem dX6_sugarIn_7 : decode cX6_sugarIn 7 = .ok (.aload_n 0, 1) := by decide +kernel
theorem dX6_sugarIn_8 : decode cX6_sugarIn 8 = .ok (.getfield 15, 3) := by decide +kernel
theorem dX6_sugarIn_11 : decode cX6_sugarIn 11 = .ok (.i2l, 1) := by decide +kernel
theorem dX6_sugarIn_12 : decode cX6_sugarIn 12 = .ok (.iload_n 1, 1) := by decide +kernel
theorem dX6_sugarIn_13 : decode cX6_sugarIn 13 = .ok (.i2l, 1) := by decide +kernel
theorem dX6_sugarIn_14 : decode cX6_sugarIn 14 = .ok (.lmul, 1) := by decide +kernel
theorem dX6_sugarIn_15 : decode cX6_sugarIn 15 = .ok (.aload_n 0, 1) := by decide +kernel
theorem dX6_sugarIn_16 : decode cX6_sugarIn 16 = .ok (.getfield 9, 3) := by decide +kernel
theorem dX6_sugarIn_19 : decode cX6_sugarIn 19 = .ok (.i2l, 1) := by decide +kernel
theorem dX6_sugarIn_20 : decode cX6_sugarIn 20 = .ok (.ldiv, 1) := by decide +kernel
theorem dX6_sugarIn_21 : decode cX6_sugarIn 21 = .ok (.l2i, 1) := by decide +kernel
theorem dX6_sugarIn_22 : decode cX6_sugarIn 22 = .ok (.goto 4, 3) := by decide +kernel
theorem dX6_sugarIn_25 : decode cX6_sugarIn 25 = .ok (.iconst 0, 1) := by decide +kernel
theorem dX6_sugarIn_26 : decode cX6_sugarIn 26 = .ok (.ireturn, 1) := by decide +kernel
theorem dX6_lose_0 : decode cX6_lose 0 = .ok (.aload_n 0, 1) := by decide +kernel
theorem dX6_lose_1 : decode cX6_lose 1 = .ok (.dup, 1) := by decide +kernel
theorem dX6_lose_2 : decode cX6_lose 2 = .ok (.getfield 9, 3) := by decide +kernel
theorem dX6_lose_5 : decode cX6_lose 5 = .ok (.iload_n 1, 1) := by decide +kernel
theorem dX6_lose_6 : decode cX6_lose 6 = .ok (.isub, 1) := by decide +kernel
theorem dX6_lose_7 : decode cX6_lose 7 = .ok (.putfield 9, 3) := by decide +kernel
theorem dX6_lose_10 : decode cX6_lose 10 = .ok (.aload_n 0, 1) := by decide +kernel
theorem dX6_lose_11 : decode cX6_lose 11 = .ok (.dup, 1) := by decide +kernel
theorem dX6_lose_12 : decode cX6_lose 12 = .ok (.getfield 15, 3) := by decide +kernel
theorem dX6_lose_15 : decode cX6_lose 15 = .ok (.iload_n 2, 1) := by decide +kernel
theorem dX6_lose_16 : decode cX6_lose 16 = .ok (.isub, 1) := by decide +kernel
theorem dX6_lose_17 : decode cX6_lose 17 = .ok (.putfield 15, 3) := by decide +kernel
theorem dX6_lose_20 : decode cX6_lose 20 = .ok (.aload_n 0, 1) := by decide +kernel
theorem dX6_lose_21 : decode cX6_lose 21 = .ok (.getfield 9, 3) := by decide +kernel
theorem dX6_lose_24 : decode cX6_lose 24 = .ok (.ifCond .ne 9, 3) := by decide +kernel
theorem dX6_lose_27 : decode cX6_lose 27 = .ok (.aload_n 0, 1) := by decide +kernel
theorem dX6_lose_28 : decode cX6_lose 28 = .ok (.bipush (-9), 2) := by decide +kernel
theorem dX6_lose_30 : decode cX6_lose 30 = .ok (.putfield 25, 3) := by decide +kernel
theorem dX6_lose_33 : decode cX6_lose 33 = .ok (.return_, 1) := by decide +kernel
theorem dX6_freeze_0 : decode cX6_freeze 0 = .ok (.aload_n 0, 1) := by decide +kernel
theorem dX6_freeze_1 : decode cX6_freeze 1 = .ok (.getfield 9, 3) := by decide +kernel
theorem dX6_freeze_4 : decode cX6_freeze 4 = .ok (.ifCond .eq 10, 3) := by decide +kernel
theorem dX6_freeze_7 : decode cX6_freeze 7 = .ok (.aload_n 0, 1) := by decide +kernel
theorem dX6_freeze_8 : decode cX6_freeze 8 = .ok (.getfield 18, 3) := by decide +kernel
theorem dX6_freeze_11 : decode cX6_freeze 11 = .ok (.ifCond .eq 5, 3) := by decide +kernel
theorem dX6_freeze_14 : decode cX6_freeze 14 = .ok (.iconst 0, 1) := by decide +kernel
theorem dX6_freeze_15 : decode cX6_freeze 15 = .ok (.ireturn, 1) := by decide +kernel
theorem dX6_freeze_16 : decode cX6_freeze 16 = .ok (.aload_n 0, 1) := by decide +kernel
theorem dX6_freeze_17 : decode cX6_freeze 17 = .ok (.iconst 1, 1) := by decide +kernel
theorem dX6_freeze_18 : decode cX6_freeze 18 = .ok (.putfield 22, 3) := by decide +kernel
theorem dX6_freeze_21 : decode cX6_freeze 21 = .ok (.aload_n 0, 1) := by decide +kernel
theorem dX6_freeze_22 : decode cX6_freeze 22 = .ok (.bipush (-9), 2) := by decide +kernel
theorem dX6_freeze_24 : decode cX6_freeze 24 = .ok (.putfield 25, 3) := by decide +kernel
theorem dX6_freeze_27 : decode cX6_freeze 27 = .ok (.iconst 1, 1) := by decide +kernel
theorem dX6_freeze_28 : decode cX6_freeze 28 = .ok (.ireturn, 1) := by decide +kernel
theorem dX6_thaw_0 : decode cX6_thaw 0 = .ok (.aload_n 0, 1) := by decide +kernel
theorem dX6_thaw_1 : decode cX6_thaw 1 = .ok (.getfield 22, 3) := by decide +kernel
theorem dX6_thaw_4 : decode cX6_thaw 4 = .ok (.ifCond .eq 14, 3) := by decide +kernel
theorem dX6_thaw_7 : decode cX6_thaw 7 = .ok (.aload_n 0, 1) := by decide +kernel
theorem dX6_thaw_8 : decode cX6_thaw 8 = .ok (.getfield 9, 3) := by decide +kernel
theorem dX6_thaw_11 : decode cX6_thaw 11 = .ok (.ifCond .le 7, 3) := by decide +kernel
theorem dX6_thaw_14 : decode cX6_thaw 14 = .ok (.iconst 1, 1) := by decide +kernel
theorem dX6_thaw_15 : decode cX6_thaw 15 = .ok (.goto 4, 3) := by decide +kernel
theorem dX6_thaw_18 : decode cX6_thaw 18 = .ok (.iconst 0, 1) := by decide +kernel
theorem dX6_thaw_19 : decode cX6_thaw 19 = .ok (.istore_n 2, 1) := by decide +kernel
theorem dX6_thaw_20 : decode cX6_thaw 20 = .ok (.aload_n 0, 1) := by decide +kernel
theorem dX6_thaw_21 : decode cX6_thaw 21 = .ok (.iconst 0, 1) := by decide +kernel
theorem dX6_thaw_22 : decode cX6_thaw 22 = .ok (.putfield 22, 3) := by decide +kernel
theorem dX6_thaw_25 : decode cX6_thaw 25 = .ok (.iload_n 2, 1) := by decide +kernel
theorem dX6_thaw_26 : decode cX6_thaw 26 = .ok (.ifCond .eq 8, 3) := by decide +kernel
theorem dX6_thaw_29 : decode cX6_thaw 29 = .ok (.aload_n 0, 1) := by decide +kernel
theorem dX6_thaw_30 : decode cX6_thaw 30 = .ok (.iload_n 1, 1) := by decide +kernel
theorem dX6_thaw_31 : decode cX6_thaw 31 = .ok (.putfield 25, 3) := by decide +kernel
theorem dX6_thaw_34 : decode cX6_thaw 34 = .ok (.iload_n 2, 1) := by decide +kernel
theorem dX6_thaw_35 : decode cX6_thaw 35 = .ok (.ireturn, 1) := by decide +kernel
theorem dX6_wasteOf_0 : decode cX6_wasteOf 0 = .ok (.iload_n 2, 1) := by decide +kernel
theorem dX6_wasteOf_1 : decode cX6_wasteOf 1 = .ok (.istore_n 3, 1) := by decide +kernel
theorem dX6_wasteOf_2 : decode cX6_wasteOf 2 = .ok (.aload_n 0, 1) := by decide +kernel
theorem dX6_wasteOf_3 : decode cX6_wasteOf 3 = .ok (.getfield 22, 3) := by decide +kernel
theorem dX6_wasteOf_6 : decode cX6_wasteOf 6 = .ok (.ifCond .eq 8, 3) := by decide +kernel
theorem dX6_wasteOf_9 : decode cX6_wasteOf 9 = .ok (.iconst 0, 1) := by decide +kernel
theorem dX6_wasteOf_10 : decode cX6_wasteOf 10 = .ok (.istore_n 3, 1) := by decide +kernel
theorem dX6_wasteOf_11 : decode cX6_wasteOf 11 = .ok (.goto 36, 3) := by decide +kernel
theorem dX6_wasteOf_14 : decode cX6_wasteOf 14 = .ok (.aload_n 0, 1) := by decide +kernel
theorem dX6_wasteOf_15 : decode cX6_wasteOf 15 = .ok (.getfield 25, 3) := by decide +kernel
theorem dX6_wasteOf_18 : decode cX6_wasteOf 18 = .ok (.bipush (-9), 2) := by decide +kernel
theorem dX6_wasteOf_20 : decode cX6_wasteOf 20 = .ok (.if_icmp .eq 16, 3) := by decide +kernel
theorem dX6_wasteOf_23 : decode cX6_wasteOf 23 = .ok (.iconst 3, 1) := by decide +kernel
theorem dX6_wasteOf_24 : decode cX6_wasteOf 24 = .ok (.iload_n 2, 1) := by decide +kernel
theorem dX6_wasteOf_25 : decode cX6_wasteOf 25 = .ok (.imul, 1) := by decide +kernel
theorem dX6_wasteOf_26 : decode cX6_wasteOf 26 = .ok (.sipush 1000, 3) := by decide +kernel
theorem dX6_wasteOf_29 : decode cX6_wasteOf 29 = .ok (.invokestatic 56, 3) := by decide +kernel
theorem dX6_wasteOf_32 : decode cX6_wasteOf 32 = .ok (.istore_n 3, 1) := by decide +kernel
theorem dX6_wasteOf_33 : decode cX6_wasteOf 33 = .ok (.goto 14, 3) := by decide +kernel
theorem dX6_wasteOf_36 : decode cX6_wasteOf 36 = .ok (.aload_n 0, 1) := by decide +kernel
theorem dX6_wasteOf_37 : decode cX6_wasteOf 37 = .ok (.getfield 18, 3) := by decide +kernel
theorem dX6_wasteOf_40 : decode cX6_wasteOf 40 = .ok (.ifCond .eq 7, 3) := by decide +kernel
theorem dX6_wasteOf_43 : decode cX6_wasteOf 43 = .ok (.iload_n 2, 1) := by decide +kernel
theorem dX6_wasteOf_44 : decode cX6_wasteOf 44 = .ok (.iconst 2, 1) := by decide +kernel
theorem dX6_wasteOf_45 : decode cX6_wasteOf 45 = .ok (.idiv, 1) := by decide +kernel
theorem dX6_wasteOf_46 : decode cX6_wasteOf 46 = .ok (.istore_n 3, 1) := by decide +kernel
theorem dX6_wasteOf_47 : decode cX6_wasteOf 47 = .ok (.iload_n 1, 1) := by decide +kernel
theorem dX6_wasteOf_48 : decode cX6_wasteOf 48 = .ok (.i2l, 1) := by decide +kernel
theorem dX6_wasteOf_49 : decode cX6_wasteOf 49 = .ok (.iload_n 3, 1) := by decide +kernel
theorem dX6_wasteOf_50 : decode cX6_wasteOf 50 = .ok (.i2l, 1) := by decide +kernel
theorem dX6_wasteOf_51 : decode cX6_wasteOf 51 = .ok (.lmul, 1) := by decide +kernel
theorem dX6_wasteOf_52 : decode cX6_wasteOf 52 = .ok (.ldc2_w 62, 3) := by decide +kernel
theorem dX6_wasteOf_55 : decode cX6_wasteOf 55 = .ok (.ldiv, 1) := by decide +kernel
theorem dX6_wasteOf_56 : decode cX6_wasteOf 56 = .ok (.l2i, 1) := by decide +kernel
theorem dX6_wasteOf_57 : decode cX6_wasteOf 57 = .ok (.ireturn, 1) := by decide +kernel
theorem dX6_waste_0 : decode cX6_waste 0 = .ok (.aload_n 0, 1) := by decide +kernel
theorem dX6_waste_1 : decode cX6_waste 1 = .ok (.aload_n 0, 1) := by decide +kernel
theorem dX6_waste_2 : decode cX6_waste 2 = .ok (.getfield 15, 3) := by decide +kernel
theorem dX6_waste_5 : decode cX6_waste 5 = .ok (.iload_n 1, 1) := by decide +kernel
theorem dX6_waste_6 : decode cX6_waste 6 = .ok (.invokevirtual 64, 3) := by decide +kernel
theorem dX6_waste_9 : decode cX6_waste 9 = .ok (.istore_n 2, 1) := by decide +kernel
theorem dX6_waste_10 : decode cX6_waste 10 = .ok (.aload_n 0, 1) := by decide +kernel
theorem dX6_waste_11 : decode cX6_waste 11 = .ok (.dup, 1) := by decide +kernel
theorem dX6_waste_12 : decode cX6_waste 12 = .ok (.getfield 15, 3) := by decide +kernel
theorem dX6_waste_15 : decode cX6_waste 15 = .ok (.iload_n 2, 1) := by decide +kernel
theorem dX6_waste_16 : decode cX6_waste 16 = .ok (.isub, 1) := by decide +kernel
theorem dX6_waste_17 : decode cX6_waste 17 = .ok (.putfield 15, 3) := by decide +kernel
theorem dX6_waste_20 : decode cX6_waste 20 = .ok (.aload_n 0, 1) := by decide +kernel
theorem dX6_waste_21 : decode cX6_waste 21 = .ok (.dup, 1) := by decide +kernel
theorem dX6_waste_22 : decode cX6_waste 22 = .ok (.getfield 28, 3) := by decide +kernel
theorem dX6_waste_25 : decode cX6_waste 25 = .ok (.iload_n 2, 1) := by decide +kernel
theorem dX6_waste_26 : decode cX6_waste 26 = .ok (.iadd, 1) := by decide +kernel
theorem dX6_waste_27 : decode cX6_waste 27 = .ok (.putfield 28, 3) := by decide +kernel
theorem dX6_waste_30 : decode cX6_waste 30 = .ok (.return_, 1) := by decide +kernel
theorem dX6_spoil_0 : decode cX6_spoil 0 = .ok (.aload_n 0, 1) := by decide +kernel
theorem dX6_spoil_1 : decode cX6_spoil 1 = .ok (.getfield 25, 3) := by decide +kernel
theorem dX6_spoil_4 : decode cX6_spoil 4 = .ok (.bipush (-9), 2) := by decide +kernel
theorem dX6_spoil_6 : decode cX6_spoil 6 = .ok (.if_icmp .eq 14, 3) := by decide +kernel
theorem dX6_spoil_9 : decode cX6_spoil 9 = .ok (.iload_n 1, 1) := by decide +kernel
theorem dX6_spoil_10 : decode cX6_spoil 10 = .ok (.aload_n 0, 1) := by decide +kernel
theorem dX6_spoil_11 : decode cX6_spoil 11 = .ok (.getfield 25, 3) := by decide +kernel
theorem dX6_spoil_14 : decode cX6_spoil 14 = .ok (.isub, 1) := by decide +kernel
theorem dX6_spoil_15 : decode cX6_spoil 15 = .ok (.bipush 72, 2) := by decide +kernel
theorem dX6_spoil_17 : decode cX6_spoil 17 = .ok (.if_icmp .ge 4, 3) := by decide +kernel
theorem dX6_spoil_20 : decode cX6_spoil 20 = .ok (.return_, 1) := by decide +kernel
theorem dX6_spoil_21 : decode cX6_spoil 21 = .ok (.aload_n 0, 1) := by decide +kernel
theorem dX6_spoil_22 : decode cX6_spoil 22 = .ok (.dup, 1) := by decide +kernel
theorem dX6_spoil_23 : decode cX6_spoil 23 = .ok (.getfield 31, 3) := by decide +kernel
theorem dX6_spoil_26 : decode cX6_spoil 26 = .ok (.aload_n 0, 1) := by decide +kernel
theorem dX6_spoil_27 : decode cX6_spoil 27 = .ok (.getfield 9, 3) := by decide +kernel
theorem dX6_spoil_30 : decode cX6_spoil 30 = .ok (.iadd, 1) := by decide +kernel
theorem dX6_spoil_31 : decode cX6_spoil 31 = .ok (.putfield 31, 3) := by decide +kernel
theorem dX6_spoil_34 : decode cX6_spoil 34 = .ok (.aload_n 0, 1) := by decide +kernel
theorem dX6_spoil_35 : decode cX6_spoil 35 = .ok (.aload_n 0, 1) := by decide +kernel
theorem dX6_spoil_36 : decode cX6_spoil 36 = .ok (.getfield 9, 3) := by decide +kernel
theorem dX6_spoil_39 : decode cX6_spoil 39 = .ok (.aload_n 0, 1) := by decide +kernel
theorem dX6_spoil_40 : decode cX6_spoil 40 = .ok (.getfield 15, 3) := by decide +kernel
theorem dX6_spoil_43 : decode cX6_spoil 43 = .ok (.invokevirtual 67, 3) := by decide +kernel
theorem dX6_spoil_46 : decode cX6_spoil 46 = .ok (.aload_n 0, 1) := by decide +kernel
theorem dX6_spoil_47 : decode cX6_spoil 47 = .ok (.iconst 0, 1) := by decide +kernel
theorem dX6_spoil_48 : decode cX6_spoil 48 = .ok (.putfield 18, 3) := by decide +kernel
theorem dX6_spoil_51 : decode cX6_spoil 51 = .ok (.return_, 1) := by decide +kernel
theorem dX7_init_0 : decode cX7_init 0 = .ok (.aload_n 0, 1) := by decide +kernel
theorem dX7_init_1 : decode cX7_init 1 = .ok (.invokespecial 3, 3) := by decide +kernel
theorem dX7_init_4 : decode cX7_init 4 = .ok (.aload_n 0, 1) := by decide +kernel
theorem dX7_init_5 : decode cX7_init 5 = .ok (.bipush 100, 2) := by decide +kernel
theorem dX7_init_7 : decode cX7_init 7 = .ok (.newarray .int, 2) := by decide +kernel
theorem dX7_init_9 : decode cX7_init 9 = .ok (.putfield 9, 3) := by decide +kernel
theorem dX7_init_12 : decode cX7_init 12 = .ok (.aload_n 0, 1) := by decide +kernel
theorem dX7_init_13 : decode cX7_init 13 = .ok (.bipush 10, 2) := by decide +kernel
theorem dX7_init_15 : decode cX7_init 15 = .ok (.newarray .int, 2) := by decide +kernel
theorem dX7_init_17 : decode cX7_init 17 = .ok (.putfield 15, 3) := by decide +kernel
theorem dX7_init_20 : decode cX7_init 20 = .ok (.iconst 0, 1) := by decide +kernel
theorem dX7_init_21 : decode cX7_init 21 = .ok (.istore_n 1, 1) := by decide +kernel
theorem dX7_init_22 : decode cX7_init 22 = .ok (.iload_n 1, 1) := by decide +kernel
theorem dX7_init_23 : decode cX7_init 23 = .ok (.bipush 100, 2) := by decide +kernel
theorem dX7_init_25 : decode cX7_init 25 = .ok (.if_icmp .ge 16, 3) := by decide +kernel
theorem dX7_init_28 : decode cX7_init 28 = .ok (.aload_n 0, 1) := by decide +kernel
theorem dX7_init_29 : decode cX7_init 29 = .ok (.getfield 9, 3) := by decide +kernel
theorem dX7_init_32 : decode cX7_init 32 = .ok (.iload_n 1, 1) := by decide +kernel
theorem dX7_init_33 : decode cX7_init 33 = .ok (.iconst 5, 1) := by decide +kernel
theorem dX7_init_34 : decode cX7_init 34 = .ok (.iastore, 1) := by decide +kernel
theorem dX7_init_35 : decode cX7_init 35 = .ok (.iinc 1 1, 3) := by decide +kernel
theorem dX7_init_38 : decode cX7_init 38 = .ok (.goto (-16), 3) := by decide +kernel
theorem dX7_init_41 : decode cX7_init 41 = .ok (.return_, 1) := by decide +kernel
theorem dX7_numberOf_0 : decode cX7_numberOf 0 = .ok (.iload_n 1, 1) := by decide +kernel
theorem dX7_numberOf_1 : decode cX7_numberOf 1 = .ok (.ifCond .lt 9, 3) := by decide +kernel
theorem dX7_numberOf_4 : decode cX7_numberOf 4 = .ok (.iload_n 1, 1) := by decide +kernel
theorem dX7_numberOf_5 : decode cX7_numberOf 5 = .ok (.bipush 100, 2) := by decide +kernel
theorem dX7_numberOf_7 : decode cX7_numberOf 7 = .ok (.if_icmp .lt 5, 3) := by decide +kernel
theorem dX7_numberOf_10 : decode cX7_numberOf 10 = .ok (.iconst 0, 1) := by decide +kernel
theorem dX7_numberOf_11 : decode cX7_numberOf 11 = .ok (.ireturn, 1) := by decide +kernel
theorem dX7_numberOf_12 : decode cX7_numberOf 12 = .ok (.aload_n 0, 1) := by decide +kernel
theorem dX7_numberOf_13 : decode cX7_numberOf 13 = .ok (.getfield 9, 3) := by decide +kernel
theorem dX7_numberOf_16 : decode cX7_numberOf 16 = .ok (.iload_n 1, 1) := by decide +kernel
theorem dX7_numberOf_17 : decode cX7_numberOf 17 = .ok (.iaload, 1) := by decide +kernel
theorem dX7_numberOf_18 : decode cX7_numberOf 18 = .ok (.istore_n 2, 1) := by decide +kernel
theorem dX7_numberOf_19 : decode cX7_numberOf 19 = .ok (.iload_n 2, 1) := by decide +kernel
theorem dX7_numberOf_20 : decode cX7_numberOf 20 = .ok (.ifCond .lt 18, 3) := by decide +kernel
theorem dX7_numberOf_23 : decode cX7_numberOf 23 = .ok (.iload_n 2, 1) := by decide +kernel
theorem dX7_numberOf_24 : decode cX7_numberOf 24 = .ok (.bipush 10, 2) := by decide +kernel
theorem dX7_numberOf_26 : decode cX7_numberOf 26 = .ok (.if_icmp .ge 12, 3) := by decide +kernel
theorem dX7_numberOf_29 : decode cX7_numberOf 29 = .ok (.aload_n 0, 1) := by decide +kernel
theorem dX7_numberOf_30 : decode cX7_numberOf 30 = .ok (.getfield 15, 3) := by decide +kernel
theorem dX7_numberOf_33 : decode cX7_numberOf 33 = .ok (.iload_n 2, 1) := by decide +kernel
theorem dX7_numberOf_34 : decode cX7_numberOf 34 = .ok (.iaload, 1) := by decide +kernel
theorem dX7_numberOf_35 : decode cX7_numberOf 35 = .ok (.goto 4, 3) := by decide +kernel
theorem dX7_numberOf_38 : decode cX7_numberOf 38 = .ok (.iconst 0, 1) := by decide +kernel
theorem dX7_numberOf_39 : decode cX7_numberOf 39 = .ok (.ireturn, 1) := by decide +kernel
theorem dX8_init_0 : decode cX8_init 0 = .ok (.aload_n 0, 1) := by decide +kernel
theorem dX8_init_1 : decode cX8_init 1 = .ok (.invokespecial 1, 3) := by decide +kernel
theorem dX8_init_4 : decode cX8_init 4 = .ok (.aload_n 0, 1) := by decide +kernel
theorem dX8_init_5 : decode cX8_init 5 = .ok (.new 7, 3) := by decide +kernel
theorem dX8_init_8 : decode cX8_init 8 = .ok (.dup, 1) := by decide +kernel
theorem dX8_init_9 : decode cX8_init 9 = .ok (.invokespecial 9, 3) := by decide +kernel
theorem dX8_init_12 : decode cX8_init 12 = .ok (.putfield 10, 3) := by decide +kernel
theorem dX8_init_15 : decode cX8_init 15 = .ok (.aload_n 0, 1) := by decide +kernel
theorem dX8_init_16 : decode cX8_init 16 = .ok (.sipush 500, 3) := by decide +kernel
theorem dX8_init_19 : decode cX8_init 19 = .ok (.putfield 16, 3) := by decide +kernel
theorem dX8_init_22 : decode cX8_init 22 = .ok (.aload_n 0, 1) := by decide +kernel
theorem dX8_init_23 : decode cX8_init 23 = .ok (.iconst 0, 1) := by decide +kernel
theorem dX8_init_24 : decode cX8_init 24 = .ok (.putfield 20, 3) := by decide +kernel
theorem dX8_init_27 : decode cX8_init 27 = .ok (.aload_n 0, 1) := by decide +kernel
end
section
theorem dX8_init_28 : decode cX8_init 28 = .ok (.iconst 0, 1) := by decide +kernel
theorem dX8_init_29 : decode cX8_init 29 = .ok (.putfield 23, 3) := by decide +kernel
theorem dX8_init_32 : decode cX8_init 32 = .ok (.return_, 1) := by decide +kernel
theorem dX8_hasRoomFor_0 : decode cX8_hasRoomFor 0 = .ok (.iload_n 1, 1) := by decide +kernel
theorem dX8_hasRoomFor_1 : decode cX8_hasRoomFor 1 = .ok (.ifCond .eq 16, 3) := by decide +kernel
theorem dX8_hasRoomFor_4 : decode cX8_hasRoomFor 4 = .ok (.aload_n 0, 1) := by decide +kernel
theorem dX8_hasRoomFor_5 : decode cX8_hasRoomFor 5 = .ok (.getfield 20, 3) := by decide +kernel
theorem dX8_hasRoomFor_8 : decode cX8_hasRoomFor 8 = .ok (.iload_n 1, 1) := by decide +kernel
theorem dX8_hasRoomFor_9 : decode cX8_hasRoomFor 9 = .ok (.iadd, 1) := by decide +kernel
theorem dX8_hasRoomFor_10 : decode cX8_hasRoomFor 10 = .ok (.aload_n 0, 1) := by decide +kernel
theorem dX8_hasRoomFor_11 : decode cX8_hasRoomFor 11 = .ok (.getfield 16, 3) := by decide +kernel
theorem dX8_hasRoomFor_14 : decode cX8_hasRoomFor 14 = .ok (.if_icmp .gt 7, 3) := by decide +kernel
theorem dX8_hasRoomFor_17 : decode cX8_hasRoomFor 17 = .ok (.iconst 1, 1) := by decide +kernel
theorem dX8_hasRoomFor_18 : decode cX8_hasRoomFor 18 = .ok (.goto 4, 3) := by decide +kernel
theorem dX8_hasRoomFor_21 : decode cX8_hasRoomFor 21 = .ok (.iconst 0, 1) := by decide +kernel
theorem dX8_hasRoomFor_22 : decode cX8_hasRoomFor 22 = .ok (.ireturn, 1) := by decide +kernel
theorem dX8_take_0 : decode cX8_take 0 = .ok (.aload_n 0, 1) := by decide +kernel
theorem dX8_take_1 : decode cX8_take 1 = .ok (.getfield 10, 3) := by decide +kernel
theorem dX8_take_4 : decode cX8_take 4 = .ok (.aload_n 1, 1) := by decide +kernel
theorem dX8_take_5 : decode cX8_take 5 = .ok (.invokevirtual 26, 3) := by decide +kernel
theorem dX8_take_8 : decode cX8_take 8 = .ok (.pop, 1) := by decide +kernel
theorem dX8_take_9 : decode cX8_take 9 = .ok (.aload_n 0, 1) := by decide +kernel
theorem dX8_take_10 : decode cX8_take 10 = .ok (.dup, 1) := by decide +kernel
theorem dX8_take_11 : decode cX8_take 11 = .ok (.getfield 20, 3) := by decide +kernel
theorem dX8_take_14 : decode cX8_take 14 = .ok (.aload_n 1, 1) := by decide +kernel
theorem dX8_take_15 : decode cX8_take 15 = .ok (.getfield 30, 3) := by decide +kernel
theorem dX8_take_18 : decode cX8_take 18 = .ok (.iadd, 1) := by decide +kernel
theorem dX8_take_19 : decode cX8_take 19 = .ok (.putfield 20, 3) := by decide +kernel
theorem dX8_take_22 : decode cX8_take 22 = .ok (.aload_n 0, 1) := by decide +kernel
theorem dX8_take_23 : decode cX8_take 23 = .ok (.dup, 1) := by decide +kernel
theorem dX8_take_24 : decode cX8_take 24 = .ok (.getfield 23, 3) := by decide +kernel
theorem dX8_take_27 : decode cX8_take 27 = .ok (.aload_n 1, 1) := by decide +kernel
theorem dX8_take_28 : decode cX8_take 28 = .ok (.getfield 30, 3) := by decide +kernel
theorem dX8_take_31 : decode cX8_take 31 = .ok (.iadd, 1) := by decide +kernel
theorem dX8_take_32 : decode cX8_take 32 = .ok (.putfield 23, 3) := by decide +kernel
theorem dX8_take_35 : decode cX8_take 35 = .ok (.aload_n 1, 1) := by decide +kernel
theorem dX8_take_36 : decode cX8_take 36 = .ok (.getfield 33, 3) := by decide +kernel
theorem dX8_take_39 : decode cX8_take 39 = .ok (.dup, 1) := by decide +kernel
theorem dX8_take_40 : decode cX8_take 40 = .ok (.getfield 37, 3) := by decide +kernel
theorem dX8_take_43 : decode cX8_take 43 = .ok (.aload_n 1, 1) := by decide +kernel
theorem dX8_take_44 : decode cX8_take 44 = .ok (.getfield 30, 3) := by decide +kernel
theorem dX8_take_47 : decode cX8_take 47 = .ok (.iadd, 1) := by decide +kernel
theorem dX8_take_48 : decode cX8_take 48 = .ok (.putfield 37, 3) := by decide +kernel
theorem dX8_take_51 : decode cX8_take 51 = .ok (.aload_n 1, 1) := by decide +kernel
theorem dX8_take_52 : decode cX8_take 52 = .ok (.getfield 33, 3) := by decide +kernel
theorem dX8_take_55 : decode cX8_take 55 = .ok (.getfield 40, 3) := by decide +kernel
theorem dX8_take_58 : decode cX8_take 58 = .ok (.dup, 1) := by decide +kernel
theorem dX8_take_59 : decode cX8_take 59 = .ok (.getfield 44, 3) := by decide +kernel
theorem dX8_take_62 : decode cX8_take 62 = .ok (.aload_n 1, 1) := by decide +kernel
theorem dX8_take_63 : decode cX8_take 63 = .ok (.getfield 30, 3) := by decide +kernel
theorem dX8_take_66 : decode cX8_take 66 = .ok (.iadd, 1) := by decide +kernel
theorem dX8_take_67 : decode cX8_take 67 = .ok (.putfield 44, 3) := by decide +kernel
theorem dX8_take_70 : decode cX8_take 70 = .ok (.return_, 1) := by decide +kernel
theorem dX9_init_0 : decode cX9_init 0 = .ok (.aload_n 0, 1) := by decide +kernel
theorem dX9_init_1 : decode cX9_init 1 = .ok (.invokespecial 1, 3) := by decide +kernel
theorem dX9_init_4 : decode cX9_init 4 = .ok (.aload_n 0, 1) := by decide +kernel
theorem dX9_init_5 : decode cX9_init 5 = .ok (.bipush 6, 2) := by decide +kernel
theorem dX9_init_7 : decode cX9_init 7 = .ok (.anewarray 9, 3) := by decide +kernel
theorem dX9_init_10 : decode cX9_init 10 = .ok (.putfield 11, 3) := by decide +kernel
theorem dX9_init_13 : decode cX9_init 13 = .ok (.aload_n 0, 1) := by decide +kernel
theorem dX9_init_14 : decode cX9_init 14 = .ok (.new 15, 3) := by decide +kernel
theorem dX9_init_17 : decode cX9_init 17 = .ok (.dup, 1) := by decide +kernel
theorem dX9_init_18 : decode cX9_init 18 = .ok (.invokespecial 17, 3) := by decide +kernel
theorem dX9_init_21 : decode cX9_init 21 = .ok (.putfield 18, 3) := by decide +kernel
theorem dX9_init_24 : decode cX9_init 24 = .ok (.aload_n 0, 1) := by decide +kernel
theorem dX9_init_25 : decode cX9_init 25 = .ok (.iconst 4, 1) := by decide +kernel
theorem dX9_init_26 : decode cX9_init 26 = .ok (.anewarray 22, 3) := by decide +kernel
theorem dX9_init_29 : decode cX9_init 29 = .ok (.putfield 24, 3) := by decide +kernel
theorem dX9_init_32 : decode cX9_init 32 = .ok (.aload_n 0, 1) := by decide +kernel
theorem dX9_init_33 : decode cX9_init 33 = .ok (.new 15, 3) := by decide +kernel
theorem dX9_init_36 : decode cX9_init 36 = .ok (.dup, 1) := by decide +kernel
theorem dX9_init_37 : decode cX9_init 37 = .ok (.invokespecial 17, 3) := by decide +kernel
theorem dX9_init_40 : decode cX9_init 40 = .ok (.putfield 28, 3) := by decide +kernel
theorem dX9_init_43 : decode cX9_init 43 = .ok (.aload_n 0, 1) := by decide +kernel
theorem dX9_init_44 : decode cX9_init 44 = .ok (.new 31, 3) := by decide +kernel
theorem dX9_init_47 : decode cX9_init 47 = .ok (.dup, 1) := by decide +kernel
theorem dX9_init_48 : decode cX9_init 48 = .ok (.invokespecial 33, 3) := by decide +kernel
theorem dX9_init_51 : decode cX9_init 51 = .ok (.putfield 34, 3) := by decide +kernel
theorem dX9_init_54 : decode cX9_init 54 = .ok (.aload_n 0, 1) := by decide +kernel
theorem dX9_init_55 : decode cX9_init 55 = .ok (.new 38, 3) := by decide +kernel
theorem dX9_init_58 : decode cX9_init 58 = .ok (.dup, 1) := by decide +kernel
theorem dX9_init_59 : decode cX9_init 59 = .ok (.invokespecial 40, 3) := by decide +kernel
theorem dX9_init_62 : decode cX9_init 62 = .ok (.putfield 41, 3) := by decide +kernel
theorem dX9_init_65 : decode cX9_init 65 = .ok (.aload_n 0, 1) := by decide +kernel
theorem dX9_init_66 : decode cX9_init 66 = .ok (.new 45, 3) := by decide +kernel
theorem dX9_init_69 : decode cX9_init 69 = .ok (.dup, 1) := by decide +kernel
theorem dX9_init_70 : decode cX9_init 70 = .ok (.invokespecial 47, 3) := by decide +kernel
theorem dX9_init_73 : decode cX9_init 73 = .ok (.putfield 48, 3) := by decide +kernel
theorem dX9_init_76 : decode cX9_init 76 = .ok (.aload_n 0, 1) := by decide +kernel
theorem dX9_init_77 : decode cX9_init 77 = .ok (.new 52, 3) := by decide +kernel
theorem dX9_init_80 : decode cX9_init 80 = .ok (.dup, 1) := by decide +kernel
theorem dX9_init_81 : decode cX9_init 81 = .ok (.invokespecial 54, 3) := by decide +kernel
theorem dX9_init_84 : decode cX9_init 84 = .ok (.putfield 55, 3) := by decide +kernel
theorem dX9_init_87 : decode cX9_init 87 = .ok (.aload_n 0, 1) := by decide +kernel
theorem dX9_init_88 : decode cX9_init 88 = .ok (.bipush 10, 2) := by decide +kernel
theorem dX9_init_90 : decode cX9_init 90 = .ok (.newarray .int, 2) := by decide +kernel
theorem dX9_init_92 : decode cX9_init 92 = .ok (.putfield 59, 3) := by decide +kernel
theorem dX9_init_95 : decode cX9_init 95 = .ok (.aload_n 0, 1) := by decide +kernel
theorem dX9_init_96 : decode cX9_init 96 = .ok (.bipush 7, 2) := by decide +kernel
theorem dX9_init_98 : decode cX9_init 98 = .ok (.newarray .int, 2) := by decide +kernel
theorem dX9_init_100 : decode cX9_init 100 = .ok (.putfield 63, 3) := by decide +kernel
theorem dX9_init_103 : decode cX9_init 103 = .ok (.aload_n 0, 1) := by decide +kernel
theorem dX9_init_104 : decode cX9_init 104 = .ok (.iconst 0, 1) := by decide +kernel
theorem dX9_init_105 : decode cX9_init 105 = .ok (.putfield 66, 3) := by decide +kernel
theorem dX9_init_108 : decode cX9_init 108 = .ok (.aload_n 0, 1) := by decide +kernel
theorem dX9_init_109 : decode cX9_init 109 = .ok (.iconst 0, 1) := by decide +kernel
theorem dX9_init_110 : decode cX9_init 110 = .ok (.putfield 70, 3) := by decide +kernel
theorem dX9_init_113 : decode cX9_init 113 = .ok (.iconst 0, 1) := by decide +kernel
theorem dX9_init_114 : decode cX9_init 114 = .ok (.istore_n 1, 1) := by decide +kernel
theorem dX9_init_115 : decode cX9_init 115 = .ok (.iload_n 1, 1) := by decide +kernel
theorem dX9_init_116 : decode cX9_init 116 = .ok (.bipush 6, 2) := by decide +kernel
theorem dX9_init_118 : decode cX9_init 118 = .ok (.if_icmp .ge 23, 3) := by decide +kernel
theorem dX9_init_121 : decode cX9_init 121 = .ok (.aload_n 0, 1) := by decide +kernel
theorem dX9_init_122 : decode cX9_init 122 = .ok (.getfield 11, 3) := by decide +kernel
theorem dX9_init_125 : decode cX9_init 125 = .ok (.iload_n 1, 1) := by decide +kernel
theorem dX9_init_126 : decode cX9_init 126 = .ok (.new 9, 3) := by decide +kernel
theorem dX9_init_129 : decode cX9_init 129 = .ok (.dup, 1) := by decide +kernel
theorem dX9_init_130 : decode cX9_init 130 = .ok (.iload_n 1, 1) := by decide +kernel
theorem dX9_init_131 : decode cX9_init 131 = .ok (.invokespecial 74, 3) := by decide +kernel
theorem dX9_init_134 : decode cX9_init 134 = .ok (.aastore, 1) := by decide +kernel
theorem dX9_init_135 : decode cX9_init 135 = .ok (.iinc 1 1, 3) := by decide +kernel
theorem dX9_init_138 : decode cX9_init 138 = .ok (.goto (-23), 3) := by decide +kernel
theorem dX9_init_141 : decode cX9_init 141 = .ok (.iconst 0, 1) := by decide +kernel
theorem dX9_init_142 : decode cX9_init 142 = .ok (.istore_n 1, 1) := by decide +kernel
theorem dX9_init_143 : decode cX9_init 143 = .ok (.iload_n 1, 1) := by decide +kernel
theorem dX9_init_144 : decode cX9_init 144 = .ok (.iconst 4, 1) := by decide +kernel
theorem dX9_init_145 : decode cX9_init 145 = .ok (.if_icmp .ge 22, 3) := by decide +kernel
theorem dX9_init_148 : decode cX9_init 148 = .ok (.aload_n 0, 1) := by decide +kernel
theorem dX9_init_149 : decode cX9_init 149 = .ok (.getfield 24, 3) := by decide +kernel
theorem dX9_init_152 : decode cX9_init 152 = .ok (.iload_n 1, 1) := by decide +kernel
theorem dX9_init_153 : decode cX9_init 153 = .ok (.new 22, 3) := by decide +kernel
theorem dX9_init_156 : decode cX9_init 156 = .ok (.dup, 1) := by decide +kernel
theorem dX9_init_157 : decode cX9_init 157 = .ok (.invokespecial 77, 3) := by decide +kernel
theorem dX9_init_160 : decode cX9_init 160 = .ok (.aastore, 1) := by decide +kernel
theorem dX9_init_161 : decode cX9_init 161 = .ok (.iinc 1 1, 3) := by decide +kernel
theorem dX9_init_164 : decode cX9_init 164 = .ok (.goto (-21), 3) := by decide +kernel
theorem dX9_init_167 : decode cX9_init 167 = .ok (.return_, 1) := by decide +kernel
theorem dX9_share_0 : decode cX9_share 0 = .ok (.aload_n 0, 1) := by decide +kernel
theorem dX9_share_1 : decode cX9_share 1 = .ok (.iload_n 1, 1) := by decide +kernel
theorem dX9_share_2 : decode cX9_share 2 = .ok (.invokevirtual 78, 3) := by decide +kernel
theorem dX9_share_5 : decode cX9_share 5 = .ok (.astore_n 3, 1) := by decide +kernel
theorem dX9_share_6 : decode cX9_share 6 = .ok (.aload_n 3, 1) := by decide +kernel
theorem dX9_share_7 : decode cX9_share 7 = .ok (.ifnonnull 9, 3) := by decide +kernel
theorem dX9_share_10 : decode cX9_share 10 = .ok (.aload_n 0, 1) := by decide +kernel
theorem dX9_share_11 : decode cX9_share 11 = .ok (.iconst (-1), 1) := by decide +kernel
theorem dX9_share_12 : decode cX9_share 12 = .ok (.invokevirtual 82, 3) := by decide +kernel
theorem dX9_share_15 : decode cX9_share 15 = .ok (.ireturn, 1) := by decide +kernel
theorem dX9_share_16 : decode cX9_share 16 = .ok (.iload_n 2, 1) := by decide +kernel
theorem dX9_share_17 : decode cX9_share 17 = .ok (.iconst 0, 1) := by decide +kernel
theorem dX9_share_18 : decode cX9_share 18 = .ok (.sipush 1000, 3) := by decide +kernel
theorem dX9_share_21 : decode cX9_share 21 = .ok (.invokestatic 86, 3) := by decide +kernel
theorem dX9_share_24 : decode cX9_share 24 = .ok (.istore 4, 2) := by decide +kernel
theorem dX9_share_26 : decode cX9_share 26 = .ok (.iload 4, 2) := by decide +kernel
theorem dX9_share_28 : decode cX9_share 28 = .ok (.ifCond .eq 10, 3) := by decide +kernel
theorem dX9_share_31 : decode cX9_share 31 = .ok (.aload_n 0, 1) := by decide +kernel
theorem dX9_share_32 : decode cX9_share 32 = .ok (.iload 4, 2) := by decide +kernel
theorem dX9_share_34 : decode cX9_share 34 = .ok (.invokevirtual 82, 3) := by decide +kernel
theorem dX9_share_37 : decode cX9_share 37 = .ok (.ireturn, 1) := by decide +kernel
theorem dX9_share_38 : decode cX9_share 38 = .ok (.aload_n 3, 1) := by decide +kernel
theorem dX9_share_39 : decode cX9_share 39 = .ok (.getfield 90, 3) := by decide +kernel
theorem dX9_share_42 : decode cX9_share 42 = .ok (.istore 5, 2) := by decide +kernel
theorem dX9_share_44 : decode cX9_share 44 = .ok (.aload_n 3, 1) := by decide +kernel
theorem dX9_share_45 : decode cX9_share 45 = .ok (.iload_n 2, 1) := by decide +kernel
theorem dX9_share_46 : decode cX9_share 46 = .ok (.putfield 90, 3) := by decide +kernel
theorem dX9_share_49 : decode cX9_share 49 = .ok (.iload 5, 2) := by decide +kernel
theorem dX9_share_51 : decode cX9_share 51 = .ok (.ireturn, 1) := by decide +kernel
theorem dX9_field_0 : decode cX9_field 0 = .ok (.aload_n 0, 1) := by decide +kernel
theorem dX9_field_1 : decode cX9_field 1 = .ok (.iload_n 1, 1) := by decide +kernel
theorem dX9_field_2 : decode cX9_field 2 = .ok (.invokevirtual 78, 3) := by decide +kernel
theorem dX9_field_5 : decode cX9_field 5 = .ok (.astore 6, 2) := by decide +kernel
theorem dX9_field_7 : decode cX9_field 7 = .ok (.aload 6, 2) := by decide +kernel
theorem dX9_field_9 : decode cX9_field 9 = .ok (.ifnonnull 9, 3) := by decide +kernel
theorem dX9_field_12 : decode cX9_field 12 = .ok (.aload_n 0, 1) := by decide +kernel
theorem dX9_field_13 : decode cX9_field 13 = .ok (.iconst (-1), 1) := by decide +kernel
theorem dX9_field_14 : decode cX9_field 14 = .ok (.invokevirtual 82, 3) := by decide +kernel
theorem dX9_field_17 : decode cX9_field 17 = .ok (.ireturn, 1) := by decide +kernel
theorem dX9_field_18 : decode cX9_field 18 = .ok (.iload_n 2, 1) := by decide +kernel
theorem dX9_field_19 : decode cX9_field 19 = .ok (.iconst 1, 1) := by decide +kernel
theorem dX9_field_20 : decode cX9_field 20 = .ok (.if_icmp .lt 15, 3) := by decide +kernel
theorem dX9_field_23 : decode cX9_field 23 = .ok (.iload_n 3, 1) := by decide +kernel
theorem dX9_field_24 : decode cX9_field 24 = .ok (.bipush 50, 2) := by decide +kernel
theorem dX9_field_26 : decode cX9_field 26 = .ok (.if_icmp .lt 9, 3) := by decide +kernel
theorem dX9_field_29 : decode cX9_field 29 = .ok (.iload 4, 2) := by decide +kernel
theorem dX9_field_31 : decode cX9_field 31 = .ok (.iconst 1, 1) := by decide +kernel
theorem dX9_field_32 : decode cX9_field 32 = .ok (.if_icmp .ge 10, 3) := by decide +kernel
theorem dX9_field_35 : decode cX9_field 35 = .ok (.aload_n 0, 1) := by decide +kernel
theorem dX9_field_36 : decode cX9_field 36 = .ok (.bipush (-4), 2) := by decide +kernel
theorem dX9_field_38 : decode cX9_field 38 = .ok (.invokevirtual 82, 3) := by decide +kernel
theorem dX9_field_41 : decode cX9_field 41 = .ok (.ireturn, 1) := by decide +kernel
theorem dX9_field_42 : decode cX9_field 42 = .ok (.iload_n 2, 1) := by decide +kernel
theorem dX9_field_43 : decode cX9_field 43 = .ok (.sipush 5000, 3) := by decide +kernel
theorem dX9_field_46 : decode cX9_field 46 = .ok (.if_icmp .gt 29, 3) := by decide +kernel
theorem dX9_field_49 : decode cX9_field 49 = .ok (.iload_n 3, 1) := by decide +kernel
theorem dX9_field_50 : decode cX9_field 50 = .ok (.sipush 250, 3) := by decide +kernel
theorem dX9_field_53 : decode cX9_field 53 = .ok (.if_icmp .gt 22, 3) := by decide +kernel
theorem dX9_field_56 : decode cX9_field 56 = .ok (.iload 4, 2) := by decide +kernel
theorem dX9_field_58 : decode cX9_field 58 = .ok (.bipush 12, 2) := by decide +kernel
theorem dX9_field_60 : decode cX9_field 60 = .ok (.if_icmp .gt 15, 3) := by decide +kernel
theorem dX9_field_63 : decode cX9_field 63 = .ok (.aload_n 0, 1) := by decide +kernel
theorem dX9_field_64 : decode cX9_field 64 = .ok (.getfield 18, 3) := by decide +kernel
theorem dX9_field_67 : decode cX9_field 67 = .ok (.invokevirtual 93, 3) := by decide +kernel
theorem dX9_field_70 : decode cX9_field 70 = .ok (.bipush 16, 2) := by decide +kernel
theorem dX9_field_72 : decode cX9_field 72 = .ok (.if_icmp .lt 10, 3) := by decide +kernel
theorem dX9_field_75 : decode cX9_field 75 = .ok (.aload_n 0, 1) := by decide +kernel
theorem dX9_field_76 : decode cX9_field 76 = .ok (.bipush (-6), 2) := by decide +kernel
theorem dX9_field_78 : decode cX9_field 78 = .ok (.invokevirtual 82, 3) := by decide +kernel
theorem dX9_field_81 : decode cX9_field 81 = .ok (.ireturn, 1) := by decide +kernel
theorem dX9_field_82 : decode cX9_field 82 = .ok (.aload_n 0, 1) := by decide +kernel
theorem dX9_field_83 : decode cX9_field 83 = .ok (.getfield 18, 3) := by decide +kernel
theorem dX9_field_86 : decode cX9_field 86 = .ok (.invokevirtual 93, 3) := by decide +kernel
theorem dX9_field_89 : decode cX9_field 89 = .ok (.istore 7, 2) := by decide +kernel
theorem dX9_field_91 : decode cX9_field 91 = .ok (.aload_n 0, 1) := by decide +kernel
theorem dX9_field_92 : decode cX9_field 92 = .ok (.getfield 18, 3) := by decide +kernel
theorem dX9_field_95 : decode cX9_field 95 = .ok (.new 97, 3) := by decide +kernel
theorem dX9_field_98 : decode cX9_field 98 = .ok (.dup, 1) := by decide +kernel
theorem dX9_field_99 : decode cX9_field 99 = .ok (.iload 7, 2) := by decide +kernel
theorem dX9_field_101 : decode cX9_field 101 = .ok (.aload 6, 2) := by decide +kernel
theorem dX9_field_103 : decode cX9_field 103 = .ok (.iload_n 2, 1) := by decide +kernel
theorem dX9_field_104 : decode cX9_field 104 = .ok (.iload_n 3, 1) := by decide +kernel
theorem dX9_field_105 : decode cX9_field 105 = .ok (.iload 4, 2) := by decide +kernel
theorem dX9_field_107 : decode cX9_field 107 = .ok (.iload 5, 2) := by decide +kernel
theorem dX9_field_109 : decode cX9_field 109 = .ok (.invokespecial 99, 3) := by decide +kernel
theorem dX9_field_112 : decode cX9_field 112 = .ok (.invokevirtual 102, 3) := by decide +kernel
theorem dX9_field_115 : decode cX9_field 115 = .ok (.pop, 1) := by decide +kernel
theorem dX9_field_116 : decode cX9_field 116 = .ok (.iload 7, 2) := by decide +kernel
theorem dX9_field_118 : decode cX9_field 118 = .ok (.ireturn, 1) := by decide +kernel
theorem dX9_gang_0 : decode cX9_gang 0 = .ok (.aload_n 0, 1) := by decide +kernel
theorem dX9_gang_1 : decode cX9_gang 1 = .ok (.iload_n 3, 1) := by decide +kernel
theorem dX9_gang_2 : decode cX9_gang 2 = .ok (.invokevirtual 106, 3) := by decide +kernel
theorem dX9_gang_5 : decode cX9_gang 5 = .ok (.astore 4, 2) := by decide +kernel
theorem dX9_gang_7 : decode cX9_gang 7 = .ok (.iload_n 1, 1) := by decide +kernel
theorem dX9_gang_8 : decode cX9_gang 8 = .ok (.ifCond .lt 18, 3) := by decide +kernel
theorem dX9_gang_11 : decode cX9_gang 11 = .ok (.iload_n 1, 1) := by decide +kernel
theorem dX9_gang_12 : decode cX9_gang 12 = .ok (.iconst 4, 1) := by decide +kernel
theorem dX9_gang_13 : decode cX9_gang 13 = .ok (.if_icmp .ge 13, 3) := by decide +kernel
theorem dX9_gang_16 : decode cX9_gang 16 = .ok (.aload 4, 2) := by decide +kernel
theorem dX9_gang_18 : decode cX9_gang 18 = .ok (.ifnonnull 14, 3) := by decide +kernel
theorem dX9_gang_21 : decode cX9_gang 21 = .ok (.iload_n 3, 1) := by decide +kernel
theorem dX9_gang_22 : decode cX9_gang 22 = .ok (.iconst (-1), 1) := by decide +kernel
theorem dX9_gang_23 : decode cX9_gang 23 = .ok (.if_icmp .eq 9, 3) := by decide +kernel
theorem dX9_gang_26 : decode cX9_gang 26 = .ok (.aload_n 0, 1) := by decide +kernel
theorem dX9_gang_27 : decode cX9_gang 27 = .ok (.iconst (-1), 1) := by decide +kernel
theorem dX9_gang_28 : decode cX9_gang 28 = .ok (.invokevirtual 82, 3) := by decide +kernel
theorem dX9_gang_31 : decode cX9_gang 31 = .ok (.ireturn, 1) := by decide +kernel
theorem dX9_gang_32 : decode cX9_gang 32 = .ok (.iload_n 2, 1) := by decide +kernel
theorem dX9_gang_33 : decode cX9_gang 33 = .ok (.iconst 0, 1) := by decide +kernel
theorem dX9_gang_34 : decode cX9_gang 34 = .ok (.bipush 100, 2) := by decide +kernel
theorem dX9_gang_36 : decode cX9_gang 36 = .ok (.invokestatic 86, 3) := by decide +kernel
theorem dX9_gang_39 : decode cX9_gang 39 = .ok (.istore 5, 2) := by decide +kernel
theorem dX9_gang_41 : decode cX9_gang 41 = .ok (.iload 5, 2) := by decide +kernel
theorem dX9_gang_43 : decode cX9_gang 43 = .ok (.ifCond .eq 10, 3) := by decide +kernel
theorem dX9_gang_46 : decode cX9_gang 46 = .ok (.aload_n 0, 1) := by decide +kernel
theorem dX9_gang_47 : decode cX9_gang 47 = .ok (.iload 5, 2) := by decide +kernel
theorem dX9_gang_49 : decode cX9_gang 49 = .ok (.invokevirtual 82, 3) := by decide +kernel
theorem dX9_gang_52 : decode cX9_gang 52 = .ok (.ireturn, 1) := by decide +kernel
theorem dX9_gang_53 : decode cX9_gang 53 = .ok (.aload_n 0, 1) := by decide +kernel
theorem dX9_gang_54 : decode cX9_gang 54 = .ok (.getfield 24, 3) := by decide +kernel
theorem dX9_gang_57 : decode cX9_gang 57 = .ok (.iload_n 1, 1) := by decide +kernel
theorem dX9_gang_58 : decode cX9_gang 58 = .ok (.aaload, 1) := by decide +kernel
theorem dX9_gang_59 : decode cX9_gang 59 = .ok (.iload_n 2, 1) := by decide +kernel
theorem dX9_gang_60 : decode cX9_gang 60 = .ok (.putfield 110, 3) := by decide +kernel
theorem dX9_gang_63 : decode cX9_gang 63 = .ok (.aload_n 0, 1) := by decide +kernel
theorem dX9_gang_64 : decode cX9_gang 64 = .ok (.getfield 24, 3) := by decide +kernel
theorem dX9_gang_67 : decode cX9_gang 67 = .ok (.iload_n 1, 1) := by decide +kernel
theorem dX9_gang_68 : decode cX9_gang 68 = .ok (.aaload, 1) := by decide +kernel
theorem dX9_gang_69 : decode cX9_gang 69 = .ok (.aload 4, 2) := by decide +kernel
theorem dX9_gang_71 : decode cX9_gang 71 = .ok (.putfield 113, 3) := by decide +kernel
theorem dX9_gang_74 : decode cX9_gang 74 = .ok (.iconst 1, 1) := by decide +kernel
theorem dX9_gang_75 : decode cX9_gang 75 = .ok (.ireturn, 1) := by decide +kernel
theorem dX9_lorry_0 : decode cX9_lorry 0 = .ok (.iload_n 1, 1) := by decide +kernel
theorem dX9_lorry_1 : decode cX9_lorry 1 = .ok (.iconst 1, 1) := by decide +kernel
theorem dX9_lorry_2 : decode cX9_lorry 2 = .ok (.if_icmp .ge 10, 3) := by decide +kernel
theorem dX9_lorry_5 : decode cX9_lorry 5 = .ok (.aload_n 0, 1) := by decide +kernel
theorem dX9_lorry_6 : decode cX9_lorry 6 = .ok (.bipush (-4), 2) := by decide +kernel
theorem dX9_lorry_8 : decode cX9_lorry 8 = .ok (.invokevirtual 82, 3) := by decide +kernel
theorem dX9_lorry_11 : decode cX9_lorry 11 = .ok (.ireturn, 1) := by decide +kernel
theorem dX9_lorry_12 : decode cX9_lorry 12 = .ok (.iload_n 1, 1) := by decide +kernel
theorem dX9_lorry_13 : decode cX9_lorry 13 = .ok (.bipush 100, 2) := by decide +kernel
theorem dX9_lorry_15 : decode cX9_lorry 15 = .ok (.if_icmp .gt 15, 3) := by decide +kernel
theorem dX9_lorry_18 : decode cX9_lorry 18 = .ok (.aload_n 0, 1) := by decide +kernel
theorem dX9_lorry_19 : decode cX9_lorry 19 = .ok (.getfield 28, 3) := by decide +kernel
theorem dX9_lorry_22 : decode cX9_lorry 22 = .ok (.invokevirtual 93, 3) := by decide +kernel
theorem dX9_lorry_25 : decode cX9_lorry 25 = .ok (.bipush 8, 2) := by decide +kernel
theorem dX9_lorry_27 : decode cX9_lorry 27 = .ok (.if_icmp .lt 10, 3) := by decide +kernel
theorem dX9_lorry_30 : decode cX9_lorry 30 = .ok (.aload_n 0, 1) := by decide +kernel
theorem dX9_lorry_31 : decode cX9_lorry 31 = .ok (.bipush (-6), 2) := by decide +kernel
theorem dX9_lorry_33 : decode cX9_lorry 33 = .ok (.invokevirtual 82, 3) := by decide +kernel
theorem dX9_lorry_36 : decode cX9_lorry 36 = .ok (.ireturn, 1) := by decide +kernel
theorem dX9_lorry_37 : decode cX9_lorry 37 = .ok (.aload_n 0, 1) := by decide +kernel
theorem dX9_lorry_38 : decode cX9_lorry 38 = .ok (.getfield 28, 3) := by decide +kernel
theorem dX9_lorry_41 : decode cX9_lorry 41 = .ok (.new 117, 3) := by decide +kernel
theorem dX9_lorry_44 : decode cX9_lorry 44 = .ok (.dup, 1) := by decide +kernel
theorem dX9_lorry_45 : decode cX9_lorry 45 = .ok (.iload_n 1, 1) := by decide +kernel
theorem dX9_lorry_46 : decode cX9_lorry 46 = .ok (.invokespecial 119, 3) := by decide +kernel
theorem dX9_lorry_49 : decode cX9_lorry 49 = .ok (.invokevirtual 102, 3) := by decide +kernel
theorem dX9_lorry_52 : decode cX9_lorry 52 = .ok (.pop, 1) := by decide +kernel
theorem dX9_lorry_53 : decode cX9_lorry 53 = .ok (.aload_n 0, 1) := by decide +kernel
theorem dX9_lorry_54 : decode cX9_lorry 54 = .ok (.getfield 28, 3) := by decide +kernel
theorem dX9_lorry_57 : decode cX9_lorry 57 = .ok (.invokevirtual 93, 3) := by decide +kernel
theorem dX9_lorry_60 : decode cX9_lorry 60 = .ok (.iconst 1, 1) := by decide +kernel
theorem dX9_lorry_61 : decode cX9_lorry 61 = .ok (.isub, 1) := by decide +kernel
theorem dX9_lorry_62 : decode cX9_lorry 62 = .ok (.ireturn, 1) := by decide +kernel
theorem dX9_send_0 : decode cX9_send 0 = .ok (.aload_n 0, 1) := by decide +kernel
theorem dX9_send_1 : decode cX9_send 1 = .ok (.iload_n 1, 1) := by decide +kernel
theorem dX9_send_2 : decode cX9_send 2 = .ok (.invokevirtual 120, 3) := by decide +kernel
theorem dX9_send_5 : decode cX9_send 5 = .ok (.astore_n 3, 1) := by decide +kernel
theorem dX9_send_6 : decode cX9_send 6 = .ok (.aload_n 0, 1) := by decide +kernel
theorem dX9_send_7 : decode cX9_send 7 = .ok (.iload_n 2, 1) := by decide +kernel
theorem dX9_send_8 : decode cX9_send 8 = .ok (.invokevirtual 106, 3) := by decide +kernel
theorem dX9_send_11 : decode cX9_send 11 = .ok (.astore 4, 2) := by decide +kernel
theorem dX9_send_13 : decode cX9_send 13 = .ok (.aload_n 3, 1) := by decide +kernel
theorem dX9_send_14 : decode cX9_send 14 = .ok (.ifnull 8, 3) := by decide +kernel
theorem dX9_send_17 : decode cX9_send 17 = .ok (.aload 4, 2) := by decide +kernel
theorem dX9_send_19 : decode cX9_send 19 = .ok (.ifnonnull 9, 3) := by decide +kernel
theorem dX9_send_22 : decode cX9_send 22 = .ok (.aload_n 0, 1) := by decide +kernel
theorem dX9_send_23 : decode cX9_send 23 = .ok (.iconst (-1), 1) := by decide +kernel
theorem dX9_send_24 : decode cX9_send 24 = .ok (.invokevirtual 82, 3) := by decide +kernel
theorem dX9_send_27 : decode cX9_send 27 = .ok (.ireturn, 1) := by decide +kernel
theorem dX9_send_28 : decode cX9_send 28 = .ok (.aload_n 3, 1) := by decide +kernel
theorem dX9_send_29 : decode cX9_send 29 = .ok (.getfield 124, 3) := by decide +kernel
theorem dX9_send_32 : decode cX9_send 32 = .ok (.ifCond .eq 10, 3) := by decide +kernel
theorem dX9_send_35 : decode cX9_send 35 = .ok (.aload_n 0, 1) := by decide +kernel
theorem dX9_send_36 : decode cX9_send 36 = .ok (.bipush (-3), 2) := by decide +kernel
theorem dX9_send_38 : decode cX9_send 38 = .ok (.invokevirtual 82, 3) := by decide +kernel
theorem dX9_send_41 : decode cX9_send 41 = .ok (.ireturn, 1) := by decide +kernel
theorem dX9_send_42 : decode cX9_send 42 = .ok (.aload_n 3, 1) := by decide +kernel
theorem dX9_send_43 : decode cX9_send 43 = .ok (.aload 4, 2) := by decide +kernel
theorem dX9_send_45 : decode cX9_send 45 = .ok (.aload_n 0, 1) := by decide +kernel
theorem dX9_send_46 : decode cX9_send 46 = .ok (.getfield 70, 3) := by decide +kernel
theorem dX9_send_49 : decode cX9_send 49 = .ok (.invokevirtual 127, 3) := by decide +kernel
theorem dX9_send_52 : decode cX9_send 52 = .ok (.aload_n 3, 1) := by decide +kernel
theorem dX9_send_53 : decode cX9_send 53 = .ok (.getfield 131, 3) := by decide +kernel
theorem dX9_send_56 : decode cX9_send 56 = .ok (.ireturn, 1) := by decide +kernel
theorem dX9_turn_0 : decode cX9_turn 0 = .ok (.aload_n 0, 1) := by decide +kernel
theorem dX9_turn_1 : decode cX9_turn 1 = .ok (.invokevirtual 134, 3) := by decide +kernel
theorem dX9_turn_4 : decode cX9_turn 4 = .ok (.astore_n 1, 1) := by decide +kernel
theorem dX9_turn_5 : decode cX9_turn 5 = .ok (.aload_n 1, 1) := by decide +kernel
theorem dX9_turn_6 : decode cX9_turn 6 = .ok (.ifnonnull 10, 3) := by decide +kernel
theorem dX9_turn_9 : decode cX9_turn 9 = .ok (.aload_n 0, 1) := by decide +kernel
theorem dX9_turn_10 : decode cX9_turn 10 = .ok (.bipush (-3), 2) := by decide +kernel
theorem dX9_turn_12 : decode cX9_turn 12 = .ok (.invokevirtual 82, 3) := by decide +kernel
theorem dX9_turn_15 : decode cX9_turn 15 = .ok (.ireturn, 1) := by decide +kernel
theorem dX9_turn_16 : decode cX9_turn 16 = .ok (.aload_n 0, 1) := by decide +kernel
theorem dX9_turn_17 : decode cX9_turn 17 = .ok (.aload_n 0, 1) := by decide +kernel
theorem dX9_turn_18 : decode cX9_turn 18 = .ok (.invokevirtual 138, 3) := by decide +kernel
theorem dX9_turn_21 : decode cX9_turn 21 = .ok (.invokevirtual 142, 3) := by decide +kernel
theorem dX9_turn_24 : decode cX9_turn 24 = .ok (.astore_n 2, 1) := by decide +kernel
theorem dX9_turn_25 : decode cX9_turn 25 = .ok (.aload_n 2, 1) := by decide +kernel
theorem dX9_turn_26 : decode cX9_turn 26 = .ok (.ifnonnull 6, 3) := by decide +kernel
theorem dX9_turn_29 : decode cX9_turn 29 = .ok (.bipush (-9), 2) := by decide +kernel
theorem dX9_turn_31 : decode cX9_turn 31 = .ok (.ireturn, 1) := by decide +kernel
theorem dX9_turn_32 : decode cX9_turn 32 = .ok (.aload_n 1, 1) := by decide +kernel
theorem dX9_turn_33 : decode cX9_turn 33 = .ok (.aload_n 2, 1) := by decide +kernel
theorem dX9_turn_34 : decode cX9_turn 34 = .ok (.aload_n 0, 1) := by decide +kernel
theorem dX9_turn_35 : decode cX9_turn 35 = .ok (.getfield 70, 3) := by decide +kernel
theorem dX9_turn_38 : decode cX9_turn 38 = .ok (.invokevirtual 127, 3) := by decide +kernel
theorem dX9_turn_41 : decode cX9_turn 41 = .ok (.aload_n 2, 1) := by decide +kernel
theorem dX9_turn_42 : decode cX9_turn 42 = .ok (.getfield 146, 3) := by decide +kernel
theorem dX9_turn_45 : decode cX9_turn 45 = .ok (.ireturn, 1) := by decide +kernel
theorem dX9_works_0 : decode cX9_works 0 = .ok (.iload_n 1, 1) := by decide +kernel
theorem dX9_works_1 : decode cX9_works 1 = .ok (.ifCond .eq 15, 3) := by decide +kernel
theorem dX9_works_4 : decode cX9_works 4 = .ok (.iload_n 1, 1) := by decide +kernel
theorem dX9_works_5 : decode cX9_works 5 = .ok (.iconst 1, 1) := by decide +kernel
theorem dX9_works_6 : decode cX9_works 6 = .ok (.if_icmp .eq 10, 3) := by decide +kernel
theorem dX9_works_9 : decode cX9_works 9 = .ok (.aload_n 0, 1) := by decide +kernel
theorem dX9_works_10 : decode cX9_works 10 = .ok (.bipush (-2), 2) := by decide +kernel
theorem dX9_works_12 : decode cX9_works 12 = .ok (.invokevirtual 82, 3) := by decide +kernel
theorem dX9_works_15 : decode cX9_works 15 = .ok (.ireturn, 1) := by decide +kernel
theorem dX9_works_16 : decode cX9_works 16 = .ok (.iload_n 2, 1) := by decide +kernel
theorem dX9_works_17 : decode cX9_works 17 = .ok (.iconst 0, 1) := by decide +kernel
theorem dX9_works_18 : decode cX9_works 18 = .ok (.iload_n 1, 1) := by decide +kernel
theorem dX9_works_19 : decode cX9_works 19 = .ok (.ifCond .ne 9, 3) := by decide +kernel
theorem dX9_works_22 : decode cX9_works 22 = .ok (.sipush 3000, 3) := by decide +kernel
theorem dX9_works_25 : decode cX9_works 25 = .ok (.goto 6, 3) := by decide +kernel
theorem dX9_works_28 : decode cX9_works 28 = .ok (.sipush 300, 3) := by decide +kernel
theorem dX9_works_31 : decode cX9_works 31 = .ok (.invokestatic 86, 3) := by decide +kernel
theorem dX9_works_34 : decode cX9_works 34 = .ok (.istore_n 3, 1) := by decide +kernel
theorem dX9_works_35 : decode cX9_works 35 = .ok (.iload_n 3, 1) := by decide +kernel
theorem dX9_works_36 : decode cX9_works 36 = .ok (.ifCond .eq 9, 3) := by decide +kernel
theorem dX9_works_39 : decode cX9_works 39 = .ok (.aload_n 0, 1) := by decide +kernel
theorem dX9_works_40 : decode cX9_works 40 = .ok (.iload_n 3, 1) := by decide +kernel
theorem dX9_works_41 : decode cX9_works 41 = .ok (.invokevirtual 82, 3) := by decide +kernel
theorem dX9_works_44 : decode cX9_works 44 = .ok (.ireturn, 1) := by decide +kernel
theorem dX9_works_45 : decode cX9_works 45 = .ok (.iload_n 1, 1) := by decide +kernel
theorem dX9_works_46 : decode cX9_works 46 = .ok (.ifCond .ne 23, 3) := by decide +kernel
theorem dX9_works_49 : decode cX9_works 49 = .ok (.aload_n 0, 1) := by decide +kernel
theorem dX9_works_50 : decode cX9_works 50 = .ok (.getfield 41, 3) := by decide +kernel
theorem dX9_works_53 : decode cX9_works 53 = .ok (.getfield 149, 3) := by decide +kernel
theorem dX9_works_56 : decode cX9_works 56 = .ok (.istore 4, 2) := by decide +kernel
theorem dX9_works_58 : decode cX9_works 58 = .ok (.aload_n 0, 1) := by decide +kernel
theorem dX9_works_59 : decode cX9_works 59 = .ok (.getfield 41, 3) := by decide +kernel
theorem dX9_works_62 : decode cX9_works 62 = .ok (.iload_n 2, 1) := by decide +kernel
theorem dX9_works_63 : decode cX9_works 63 = .ok (.putfield 149, 3) := by decide +kernel
theorem dX9_works_66 : decode cX9_works 66 = .ok (.goto 20, 3) := by decide +kernel
theorem dX9_works_69 : decode cX9_works 69 = .ok (.aload_n 0, 1) := by decide +kernel
theorem dX9_works_70 : decode cX9_works 70 = .ok (.getfield 48, 3) := by decide +kernel
theorem dX9_works_73 : decode cX9_works 73 = .ok (.getfield 152, 3) := by decide +kernel
theorem dX9_works_76 : decode cX9_works 76 = .ok (.istore 4, 2) := by decide +kernel
theorem dX9_works_78 : decode cX9_works 78 = .ok (.aload_n 0, 1) := by decide +kernel
theorem dX9_works_79 : decode cX9_works 79 = .ok (.getfield 48, 3) := by decide +kernel
theorem dX9_works_82 : decode cX9_works 82 = .ok (.iload_n 2, 1) := by decide +kernel
theorem dX9_works_83 : decode cX9_works 83 = .ok (.putfield 152, 3) := by decide +kernel
theorem dX9_works_86 : decode cX9_works 86 = .ok (.iload 4, 2) := by decide +kernel
theorem dX9_works_88 : decode cX9_works 88 = .ok (.ireturn, 1) := by decide +kernel
theorem dX9_table_0 : decode cX9_table 0 = .ok (.aload_n 0, 1) := by decide +kernel
theorem dX9_table_1 : decode cX9_table 1 = .ok (.aload_n 0, 1) := by decide +kernel
theorem dX9_table_2 : decode cX9_table 2 = .ok (.getfield 34, 3) := by decide +kernel
theorem dX9_table_5 : decode cX9_table 5 = .ok (.getfield 153, 3) := by decide +kernel
theorem dX9_table_8 : decode cX9_table 8 = .ok (.iload_n 1, 1) := by decide +kernel
theorem dX9_table_9 : decode cX9_table 9 = .ok (.bipush (-2), 2) := by decide +kernel
theorem dX9_table_11 : decode cX9_table 11 = .ok (.iload_n 2, 1) := by decide +kernel
theorem dX9_table_12 : decode cX9_table 12 = .ok (.bipush 100, 2) := by decide +kernel
theorem dX9_table_14 : decode cX9_table 14 = .ok (.invokevirtual 156, 3) := by decide +kernel
theorem dX9_table_17 : decode cX9_table 17 = .ok (.ireturn, 1) := by decide +kernel
theorem dX9_warmth_0 : decode cX9_warmth 0 = .ok (.aload_n 0, 1) := by decide +kernel
theorem dX9_warmth_1 : decode cX9_warmth 1 = .ok (.aload_n 0, 1) := by decide +kernel
theorem dX9_warmth_2 : decode cX9_warmth 2 = .ok (.getfield 34, 3) := by decide +kernel
theorem dX9_warmth_5 : decode cX9_warmth 5 = .ok (.getfield 160, 3) := by decide +kernel
theorem dX9_warmth_8 : decode cX9_warmth 8 = .ok (.iload_n 1, 1) := by decide +kernel
theorem dX9_warmth_9 : decode cX9_warmth 9 = .ok (.iconst (-1), 1) := by decide +kernel
theorem dX9_warmth_10 : decode cX9_warmth 10 = .ok (.iload_n 2, 1) := by decide +kernel
theorem dX9_warmth_11 : decode cX9_warmth 11 = .ok (.bipush 9, 2) := by decide +kernel
theorem dX9_warmth_13 : decode cX9_warmth 13 = .ok (.invokevirtual 156, 3) := by decide +kernel
theorem dX9_warmth_16 : decode cX9_warmth 16 = .ok (.ireturn, 1) := by decide +kernel
theorem dX9_price_0 : decode cX9_price 0 = .ok (.aload_n 0, 1) := by decide +kernel
theorem dX9_price_1 : decode cX9_price 1 = .ok (.aload_n 0, 1) := by decide +kernel
theorem dX9_price_2 : decode cX9_price 2 = .ok (.getfield 59, 3) := by decide +kernel
theorem dX9_price_5 : decode cX9_price 5 = .ok (.iload_n 1, 1) := by decide +kernel
theorem dX9_price_6 : decode cX9_price 6 = .ok (.bipush (-2), 2) := by decide +kernel
theorem dX9_price_8 : decode cX9_price 8 = .ok (.iload_n 2, 1) := by decide +kernel
theorem dX9_price_9 : decode cX9_price 9 = .ok (.sipush 1000, 3) := by decide +kernel
theorem dX9_price_12 : decode cX9_price 12 = .ok (.invokevirtual 156, 3) := by decide +kernel
theorem dX9_price_15 : decode cX9_price 15 = .ok (.ireturn, 1) := by decide +kernel
theorem dX9_cover_0 : decode cX9_cover 0 = .ok (.aload_n 0, 1) := by decide +kernel
theorem dX9_cover_1 : decode cX9_cover 1 = .ok (.iload_n 1, 1) := by decide +kernel
theorem dX9_cover_2 : decode cX9_cover 2 = .ok (.invokevirtual 106, 3) := by decide +kernel
theorem dX9_cover_5 : decode cX9_cover 5 = .ok (.astore_n 3, 1) := by decide +kernel
theorem dX9_cover_6 : decode cX9_cover 6 = .ok (.aload_n 3, 1) := by decide +kernel
theorem dX9_cover_7 : decode cX9_cover 7 = .ok (.ifnonnull 9, 3) := by decide +kernel
theorem dX9_cover_10 : decode cX9_cover 10 = .ok (.aload_n 0, 1) := by decide +kernel
theorem dX9_cover_11 : decode cX9_cover 11 = .ok (.iconst (-1), 1) := by decide +kernel
theorem dX9_cover_12 : decode cX9_cover 12 = .ok (.invokevirtual 82, 3) := by decide +kernel
theorem dX9_cover_15 : decode cX9_cover 15 = .ok (.ireturn, 1) := by decide +kernel
theorem dX9_cover_16 : decode cX9_cover 16 = .ok (.aload_n 3, 1) := by decide +kernel
theorem dX9_cover_17 : decode cX9_cover 17 = .ok (.getfield 163, 3) := by decide +kernel
theorem dX9_cover_20 : decode cX9_cover 20 = .ok (.ifCond .eq 10, 3) := by decide +kernel
theorem dX9_cover_23 : decode cX9_cover 23 = .ok (.aload_n 3, 1) := by decide +kernel
theorem dX9_cover_24 : decode cX9_cover 24 = .ok (.getfield 166, 3) := by decide +kernel
theorem dX9_cover_27 : decode cX9_cover 27 = .ok (.ifCond .eq 10, 3) := by decide +kernel
theorem dX9_cover_30 : decode cX9_cover 30 = .ok (.aload_n 0, 1) := by decide +kernel
theorem dX9_cover_31 : decode cX9_cover 31 = .ok (.bipush (-3), 2) := by decide +kernel
theorem dX9_cover_33 : decode cX9_cover 33 = .ok (.invokevirtual 82, 3) := by decide +kernel
theorem dX9_cover_36 : decode cX9_cover 36 = .ok (.ireturn, 1) := by decide +kernel
theorem dX9_cover_37 : decode cX9_cover 37 = .ok (.aload_n 3, 1) := by decide +kernel
theorem dX9_cover_38 : decode cX9_cover 38 = .ok (.getfield 169, 3) := by decide +kernel
theorem dX9_cover_41 : decode cX9_cover 41 = .ok (.iload_n 2, 1) := by decide +kernel
theorem dX9_cover_42 : decode cX9_cover 42 = .ok (.if_icmp .ne 5, 3) := by decide +kernel
theorem dX9_cover_45 : decode cX9_cover 45 = .ok (.iconst 0, 1) := by decide +kernel
theorem dX9_cover_46 : decode cX9_cover 46 = .ok (.ireturn, 1) := by decide +kernel
theorem dX9_cover_47 : decode cX9_cover 47 = .ok (.aload_n 3, 1) := by decide +kernel
theorem dX9_cover_48 : decode cX9_cover 48 = .ok (.iload_n 2, 1) := by decide +kernel
theorem dX9_cover_49 : decode cX9_cover 49 = .ok (.putfield 169, 3) := by decide +kernel
theorem dX9_cover_52 : decode cX9_cover 52 = .ok (.iconst 1, 1) := by decide +kernel
theorem dX9_cover_53 : decode cX9_cover 53 = .ok (.ireturn, 1) := by decide +kernel
theorem dX9_frost_0 : decode cX9_frost 0 = .ok (.aload_n 0, 1) := by decide +kernel
theorem dX9_frost_1 : decode cX9_frost 1 = .ok (.getfield 66, 3) := by decide +kernel
theorem dX9_frost_4 : decode cX9_frost 4 = .ok (.iload_n 1, 1) := by decide +kernel
theorem dX9_frost_5 : decode cX9_frost 5 = .ok (.if_icmp .ne 10, 3) := by decide +kernel
theorem dX9_frost_8 : decode cX9_frost 8 = .ok (.aload_n 0, 1) := by decide +kernel
theorem dX9_frost_9 : decode cX9_frost 9 = .ok (.bipush (-3), 2) := by decide +kernel
theorem dX9_frost_11 : decode cX9_frost 11 = .ok (.invokevirtual 82, 3) := by decide +kernel
theorem dX9_frost_14 : decode cX9_frost 14 = .ok (.ireturn, 1) := by decide +kernel
theorem dX9_frost_15 : decode cX9_frost 15 = .ok (.aload_n 0, 1) := by decide +kernel
theorem dX9_frost_16 : decode cX9_frost 16 = .ok (.iload_n 1, 1) := by decide +kernel
theorem dX9_frost_17 : decode cX9_frost 17 = .ok (.putfield 66, 3) := by decide +kernel
theorem dX9_frost_20 : decode cX9_frost 20 = .ok (.iconst 0, 1) := by decide +kernel
theorem dX9_frost_21 : decode cX9_frost 21 = .ok (.istore_n 2, 1) := by decide +kernel
theorem dX9_frost_22 : decode cX9_frost 22 = .ok (.iconst 0, 1) := by decide +kernel
theorem dX9_frost_23 : decode cX9_frost 23 = .ok (.istore_n 3, 1) := by decide +kernel
theorem dX9_frost_24 : decode cX9_frost 24 = .ok (.iload_n 3, 1) := by decide +kernel
theorem dX9_frost_25 : decode cX9_frost 25 = .ok (.aload_n 0, 1) := by decide +kernel
theorem dX9_frost_26 : decode cX9_frost 26 = .ok (.getfield 18, 3) := by decide +kernel
theorem dX9_frost_29 : decode cX9_frost 29 = .ok (.invokevirtual 93, 3) := by decide +kernel
theorem dX9_frost_32 : decode cX9_frost 32 = .ok (.if_icmp .ge 52, 3) := by decide +kernel
theorem dX9_frost_35 : decode cX9_frost 35 = .ok (.aload_n 0, 1) := by decide +kernel
theorem dX9_frost_36 : decode cX9_frost 36 = .ok (.getfield 18, 3) := by decide +kernel
theorem dX9_frost_39 : decode cX9_frost 39 = .ok (.iload_n 3, 1) := by decide +kernel
theorem dX9_frost_40 : decode cX9_frost 40 = .ok (.invokevirtual 172, 3) := by decide +kernel
theorem dX9_frost_43 : decode cX9_frost 43 = .ok (.checkcast 97, 3) := by decide +kernel
theorem dX9_frost_46 : decode cX9_frost 46 = .ok (.astore 4, 2) := by decide +kernel
theorem dX9_frost_48 : decode cX9_frost 48 = .ok (.iload_n 1, 1) := by decide +kernel
theorem dX9_frost_49 : decode cX9_frost 49 = .ok (.ifCond .eq 14, 3) := by decide +kernel
theorem dX9_frost_52 : decode cX9_frost 52 = .ok (.aload 4, 2) := by decide +kernel
theorem dX9_frost_54 : decode cX9_frost 54 = .ok (.invokevirtual 176, 3) := by decide +kernel
theorem dX9_frost_57 : decode cX9_frost 57 = .ok (.ifCond .eq 21, 3) := by decide +kernel
theorem dX9_frost_60 : decode cX9_frost 60 = .ok (.goto 15, 3) := by decide +kernel
theorem dX9_frost_63 : decode cX9_frost 63 = .ok (.aload 4, 2) := by decide +kernel
theorem dX9_frost_65 : decode cX9_frost 65 = .ok (.aload_n 0, 1) := by decide +kernel
theorem dX9_frost_66 : decode cX9_frost 66 = .ok (.getfield 70, 3) := by decide +kernel
theorem dX9_frost_69 : decode cX9_frost 69 = .ok (.invokevirtual 180, 3) := by decide +kernel
theorem dX9_frost_72 : decode cX9_frost 72 = .ok (.ifCond .eq 6, 3) := by decide +kernel
theorem dX9_frost_75 : decode cX9_frost 75 = .ok (.iinc 2 1, 3) := by decide +kernel
theorem dX9_frost_78 : decode cX9_frost 78 = .ok (.iinc 3 1, 3) := by decide +kernel
theorem dX9_frost_81 : decode cX9_frost 81 = .ok (.goto (-57), 3) := by decide +kernel
theorem dX9_frost_84 : decode cX9_frost 84 = .ok (.iload_n 2, 1) := by decide +kernel
theorem dX9_frost_85 : decode cX9_frost 85 = .ok (.ireturn, 1) := by decide +kernel
theorem dX9_hours_0 : decode cX9_hours 0 = .ok (.iload_n 1, 1) := by decide +kernel
theorem dX9_hours_1 : decode cX9_hours 1 = .ok (.iconst 1, 1) := by decide +kernel
theorem dX9_hours_2 : decode cX9_hours 2 = .ok (.if_icmp .ge 10, 3) := by decide +kernel
theorem dX9_hours_5 : decode cX9_hours 5 = .ok (.aload_n 0, 1) := by decide +kernel
theorem dX9_hours_6 : decode cX9_hours 6 = .ok (.bipush (-4), 2) := by decide +kernel
theorem dX9_hours_8 : decode cX9_hours 8 = .ok (.invokevirtual 82, 3) := by decide +kernel
theorem dX9_hours_11 : decode cX9_hours 11 = .ok (.ireturn, 1) := by decide +kernel
theorem dX9_hours_12 : decode cX9_hours 12 = .ok (.iload_n 1, 1) := by decide +kernel
theorem dX9_hours_13 : decode cX9_hours 13 = .ok (.sipush 2400, 3) := by decide +kernel
theorem dX9_hours_16 : decode cX9_hours 16 = .ok (.aload_n 0, 1) := by decide +kernel
theorem dX9_hours_17 : decode cX9_hours 17 = .ok (.getfield 70, 3) := by decide +kernel
theorem dX9_hours_20 : decode cX9_hours 20 = .ok (.isub, 1) := by decide +kernel
theorem dX9_hours_21 : decode cX9_hours 21 = .ok (.if_icmp .le 10, 3) := by decide +kernel
theorem dX9_hours_24 : decode cX9_hours 24 = .ok (.aload_n 0, 1) := by decide +kernel
theorem dX9_hours_25 : decode cX9_hours 25 = .ok (.bipush (-6), 2) := by decide +kernel
theorem dX9_hours_27 : decode cX9_hours 27 = .ok (.invokevirtual 82, 3) := by decide +kernel
theorem dX9_hours_30 : decode cX9_hours 30 = .ok (.ireturn, 1) := by decide +kernel
theorem dX9_hours_31 : decode cX9_hours 31 = .ok (.aload_n 0, 1) := by decide +kernel
theorem dX9_hours_32 : decode cX9_hours 32 = .ok (.getfield 48, 3) := by decide +kernel
theorem dX9_hours_35 : decode cX9_hours 35 = .ok (.getfield 184, 3) := by decide +kernel
theorem dX9_hours_38 : decode cX9_hours 38 = .ok (.istore_n 2, 1) := by decide +kernel
theorem dX9_hours_39 : decode cX9_hours 39 = .ok (.iconst 0, 1) := by decide +kernel
theorem dX9_hours_40 : decode cX9_hours 40 = .ok (.istore_n 3, 1) := by decide +kernel
theorem dX9_hours_41 : decode cX9_hours 41 = .ok (.iload_n 3, 1) := by decide +kernel
theorem dX9_hours_42 : decode cX9_hours 42 = .ok (.iload_n 1, 1) := by decide +kernel
theorem dX9_hours_43 : decode cX9_hours 43 = .ok (.if_icmp .ge 13, 3) := by decide +kernel
theorem dX9_hours_46 : decode cX9_hours 46 = .ok (.aload_n 0, 1) := by decide +kernel
theorem dX9_hours_47 : decode cX9_hours 47 = .ok (.invokevirtual 187, 3) := by decide +kernel
theorem dX9_hours_50 : decode cX9_hours 50 = .ok (.iinc 3 1, 3) := by decide +kernel
theorem dX9_hours_53 : decode cX9_hours 53 = .ok (.goto (-12), 3) := by decide +kernel
theorem dX9_hours_56 : decode cX9_hours 56 = .ok (.aload_n 0, 1) := by decide +kernel
theorem dX9_hours_57 : decode cX9_hours 57 = .ok (.getfield 48, 3) := by decide +kernel
theorem dX9_hours_60 : decode cX9_hours 60 = .ok (.getfield 184, 3) := by decide +kernel
theorem dX9_hours_63 : decode cX9_hours 63 = .ok (.iload_n 2, 1) := by decide +kernel
theorem dX9_hours_64 : decode cX9_hours 64 = .ok (.isub, 1) := by decide +kernel
theorem dX9_hours_65 : decode cX9_hours 65 = .ok (.ireturn, 1) := by decide +kernel
theorem dX9_owed_0 : decode cX9_owed 0 = .ok (.aload_n 0, 1) := by decide +kernel
theorem dX9_owed_1 : decode cX9_owed 1 = .ok (.iload_n 1, 1) := by decide +kernel
theorem dX9_owed_2 : decode cX9_owed 2 = .ok (.invokevirtual 78, 3) := by decide +kernel
theorem dX9_owed_5 : decode cX9_owed 5 = .ok (.astore_n 2, 1) := by decide +kernel
theorem dX9_owed_6 : decode cX9_owed 6 = .ok (.aload_n 2, 1) := by decide +kernel
theorem dX9_owed_7 : decode cX9_owed 7 = .ok (.ifnonnull 11, 3) := by decide +kernel
theorem dX9_owed_10 : decode cX9_owed 10 = .ok (.aload_n 0, 1) := by decide +kernel
theorem dX9_owed_11 : decode cX9_owed 11 = .ok (.iconst (-1), 1) := by decide +kernel
theorem dX9_owed_12 : decode cX9_owed 12 = .ok (.invokevirtual 82, 3) := by decide +kernel
theorem dX9_owed_15 : decode cX9_owed 15 = .ok (.goto 17, 3) := by decide +kernel
theorem dX9_owed_18 : decode cX9_owed 18 = .ok (.ldc 190, 2) := by decide +kernel
theorem dX9_owed_20 : decode cX9_owed 20 = .ok (.aload_n 2, 1) := by decide +kernel
theorem dX9_owed_21 : decode cX9_owed 21 = .ok (.aload_n 0, 1) := by decide +kernel
theorem dX9_owed_22 : decode cX9_owed 22 = .ok (.getfield 41, 3) := by decide +kernel
theorem dX9_owed_25 : decode cX9_owed 25 = .ok (.getfield 191, 3) := by decide +kernel
theorem dX9_owed_28 : decode cX9_owed 28 = .ok (.invokevirtual 194, 3) := by decide +kernel
theorem dX9_owed_31 : decode cX9_owed 31 = .ok (.iadd, 1) := by decide +kernel
theorem dX9_owed_32 : decode cX9_owed 32 = .ok (.ireturn, 1) := by decide +kernel
theorem dX9_next_0 : decode cX9_next 0 = .ok (.aload_n 0, 1) := by decide +kernel
theorem dX9_next_1 : decode cX9_next 1 = .ok (.invokevirtual 138, 3) := by decide +kernel
theorem dX9_next_4 : decode cX9_next 4 = .ok (.astore_n 1, 1) := by decide +kernel
theorem dX9_next_5 : decode cX9_next 5 = .ok (.aload_n 1, 1) := by decide +kernel
theorem dX9_next_6 : decode cX9_next 6 = .ok (.ifnonnull 8, 3) := by decide +kernel
theorem dX9_next_9 : decode cX9_next 9 = .ok (.bipush (-9), 2) := by decide +kernel
theorem dX9_next_11 : decode cX9_next 11 = .ok (.goto 7, 3) := by decide +kernel
theorem dX9_next_14 : decode cX9_next 14 = .ok (.aload_n 1, 1) := by decide +kernel
theorem dX9_next_15 : decode cX9_next 15 = .ok (.getfield 197, 3) := by decide +kernel
theorem dX9_next_18 : decode cX9_next 18 = .ok (.ireturn, 1) := by decide +kernel
theorem dX9_best_0 : decode cX9_best 0 = .ok (.aload_n 0, 1) := by decide +kernel
theorem dX9_best_1 : decode cX9_best 1 = .ok (.invokevirtual 198, 3) := by decide +kernel
theorem dX9_best_4 : decode cX9_best 4 = .ok (.ifCond .ne 10, 3) := by decide +kernel
theorem dX9_best_7 : decode cX9_best 7 = .ok (.aload_n 0, 1) := by decide +kernel
theorem dX9_best_8 : decode cX9_best 8 = .ok (.bipush (-3), 2) := by decide +kernel
theorem dX9_best_10 : decode cX9_best 10 = .ok (.invokevirtual 82, 3) := by decide +kernel
theorem dX9_best_13 : decode cX9_best 13 = .ok (.ireturn, 1) := by decide +kernel
theorem dX9_best_14 : decode cX9_best 14 = .ok (.aload_n 0, 1) := by decide +kernel
theorem dX9_best_15 : decode cX9_best 15 = .ok (.getfield 55, 3) := by decide +kernel
theorem dX9_best_18 : decode cX9_best 18 = .ok (.invokevirtual 201, 3) := by decide +kernel
theorem dX9_best_21 : decode cX9_best 21 = .ok (.ireturn, 1) := by decide +kernel
theorem dX9_order_0 : decode cX9_order 0 = .ok (.aload_n 0, 1) := by decide +kernel
theorem dX9_order_1 : decode cX9_order 1 = .ok (.invokevirtual 198, 3) := by decide +kernel
theorem dX9_order_4 : decode cX9_order 4 = .ok (.ifCond .ne 10, 3) := by decide +kernel
theorem dX9_order_7 : decode cX9_order 7 = .ok (.aload_n 0, 1) := by decide +kernel
theorem dX9_order_8 : decode cX9_order 8 = .ok (.bipush (-3), 2) := by decide +kernel
theorem dX9_order_10 : decode cX9_order 10 = .ok (.invokevirtual 82, 3) := by decide +kernel
theorem dX9_order_13 : decode cX9_order 13 = .ok (.ireturn, 1) := by decide +kernel
theorem dX9_order_14 : decode cX9_order 14 = .ok (.aload_n 0, 1) := by decide +kernel
theorem dX9_order_15 : decode cX9_order 15 = .ok (.getfield 55, 3) := by decide +kernel
theorem dX9_order_18 : decode cX9_order 18 = .ok (.iload_n 1, 1) := by decide +kernel
theorem dX9_order_19 : decode cX9_order 19 = .ok (.invokevirtual 204, 3) := by decide +kernel
theorem dX9_order_22 : decode cX9_order 22 = .ok (.ireturn, 1) := by decide +kernel
theorem dX9_fieldOf_0 : decode cX9_fieldOf 0 = .ok (.aload_n 0, 1) := by decide +kernel
theorem dX9_fieldOf_1 : decode cX9_fieldOf 1 = .ok (.iload_n 1, 1) := by decide +kernel
theorem dX9_fieldOf_2 : decode cX9_fieldOf 2 = .ok (.invokevirtual 106, 3) := by decide +kernel
theorem dX9_fieldOf_5 : decode cX9_fieldOf 5 = .ok (.astore_n 3, 1) := by decide +kernel
theorem dX9_fieldOf_6 : decode cX9_fieldOf 6 = .ok (.aload_n 3, 1) := by decide +kernel
theorem dX9_fieldOf_7 : decode cX9_fieldOf 7 = .ok (.ifnonnull 9, 3) := by decide +kernel
theorem dX9_fieldOf_10 : decode cX9_fieldOf 10 = .ok (.aload_n 0, 1) := by decide +kernel
theorem dX9_fieldOf_11 : decode cX9_fieldOf 11 = .ok (.iconst (-1), 1) := by decide +kernel
theorem dX9_fieldOf_12 : decode cX9_fieldOf 12 = .ok (.invokevirtual 82, 3) := by decide +kernel
theorem dX9_fieldOf_15 : decode cX9_fieldOf 15 = .ok (.ireturn, 1) := by decide +kernel
theorem dX9_fieldOf_16 : decode cX9_fieldOf 16 = .ok (.iload_n 2, 1) := by decide +kernel
theorem dX9_fieldOf_17 : decode cX9_fieldOf 17 = .ok (.tableswitch 134 0 10 #[59, 64, 69, 74, 87, 100, 105, 110, 115, 120, 128], 59) := by decide +kernel
theorem dX9_fieldOf_76 : decode cX9_fieldOf 76 = .ok (.aload_n 3, 1) := by decide +kernel
theorem dX9_fieldOf_77 : decode cX9_fieldOf 77 = .ok (.getfield 207, 3) := by decide +kernel
theorem dX9_fieldOf_80 : decode cX9_fieldOf 80 = .ok (.ireturn, 1) := by decide +kernel
theorem dX9_fieldOf_81 : decode cX9_fieldOf 81 = .ok (.aload_n 3, 1) := by decide +kernel
theorem dX9_fieldOf_82 : decode cX9_fieldOf 82 = .ok (.getfield 163, 3) := by decide +kernel
theorem dX9_fieldOf_85 : decode cX9_fieldOf 85 = .ok (.ireturn, 1) := by decide +kernel
theorem dX9_fieldOf_86 : decode cX9_fieldOf 86 = .ok (.aload_n 3, 1) := by decide +kernel
theorem dX9_fieldOf_87 : decode cX9_fieldOf 87 = .ok (.getfield 210, 3) := by decide +kernel
theorem dX9_fieldOf_90 : decode cX9_fieldOf 90 = .ok (.ireturn, 1) := by decide +kernel
theorem dX9_fieldOf_91 : decode cX9_fieldOf 91 = .ok (.aload_n 3, 1) := by decide +kernel
theorem dX9_fieldOf_92 : decode cX9_fieldOf 92 = .ok (.getfield 169, 3) := by decide +kernel
theorem dX9_fieldOf_95 : decode cX9_fieldOf 95 = .ok (.ifCond .eq 7, 3) := by decide +kernel
theorem dX9_fieldOf_98 : decode cX9_fieldOf 98 = .ok (.iconst 1, 1) := by decide +kernel
theorem dX9_fieldOf_99 : decode cX9_fieldOf 99 = .ok (.goto 4, 3) := by decide +kernel
theorem dX9_fieldOf_102 : decode cX9_fieldOf 102 = .ok (.iconst 0, 1) := by decide +kernel
theorem dX9_fieldOf_103 : decode cX9_fieldOf 103 = .ok (.ireturn, 1) := by decide +kernel
theorem dX9_fieldOf_104 : decode cX9_fieldOf 104 = .ok (.aload_n 3, 1) := by decide +kernel
theorem dX9_fieldOf_105 : decode cX9_fieldOf 105 = .ok (.getfield 166, 3) := by decide +kernel
theorem dX9_fieldOf_108 : decode cX9_fieldOf 108 = .ok (.ifCond .eq 7, 3) := by decide +kernel
theorem dX9_fieldOf_111 : decode cX9_fieldOf 111 = .ok (.iconst 1, 1) := by decide +kernel
theorem dX9_fieldOf_112 : decode cX9_fieldOf 112 = .ok (.goto 4, 3) := by decide +kernel
theorem dX9_fieldOf_115 : decode cX9_fieldOf 115 = .ok (.iconst 0, 1) := by decide +kernel
theorem dX9_fieldOf_116 : decode cX9_fieldOf 116 = .ok (.ireturn, 1) := by decide +kernel
theorem dX9_fieldOf_117 : decode cX9_fieldOf 117 = .ok (.aload_n 3, 1) := by decide +kernel
theorem dX9_fieldOf_118 : decode cX9_fieldOf 118 = .ok (.getfield 213, 3) := by decide +kernel
theorem dX9_fieldOf_121 : decode cX9_fieldOf 121 = .ok (.ireturn, 1) := by decide +kernel
theorem dX9_fieldOf_122 : decode cX9_fieldOf 122 = .ok (.aload_n 3, 1) := by decide +kernel
theorem dX9_fieldOf_123 : decode cX9_fieldOf 123 = .ok (.getfield 216, 3) := by decide +kernel
theorem dX9_fieldOf_126 : decode cX9_fieldOf 126 = .ok (.ireturn, 1) := by decide +kernel
theorem dX9_fieldOf_127 : decode cX9_fieldOf 127 = .ok (.aload_n 3, 1) := by decide +kernel
theorem dX9_fieldOf_128 : decode cX9_fieldOf 128 = .ok (.getfield 219, 3) := by decide +kernel
theorem dX9_fieldOf_131 : decode cX9_fieldOf 131 = .ok (.ireturn, 1) := by decide +kernel
theorem dX9_fieldOf_132 : decode cX9_fieldOf 132 = .ok (.aload_n 3, 1) := by decide +kernel
theorem dX9_fieldOf_133 : decode cX9_fieldOf 133 = .ok (.getfield 222, 3) := by decide +kernel
theorem dX9_fieldOf_136 : decode cX9_fieldOf 136 = .ok (.ireturn, 1) := by decide +kernel
theorem dX9_fieldOf_137 : decode cX9_fieldOf 137 = .ok (.aload_n 3, 1) := by decide +kernel
theorem dX9_fieldOf_138 : decode cX9_fieldOf 138 = .ok (.getfield 223, 3) := by decide +kernel
theorem dX9_fieldOf_141 : decode cX9_fieldOf 141 = .ok (.getfield 197, 3) := by decide +kernel
theorem dX9_fieldOf_144 : decode cX9_fieldOf 144 = .ok (.ireturn, 1) := by decide +kernel
theorem dX9_fieldOf_145 : decode cX9_fieldOf 145 = .ok (.aload_n 0, 1) := by decide +kernel
theorem dX9_fieldOf_146 : decode cX9_fieldOf 146 = .ok (.aload_n 3, 1) := by decide +kernel
theorem dX9_fieldOf_147 : decode cX9_fieldOf 147 = .ok (.invokevirtual 227, 3) := by decide +kernel
theorem dX9_fieldOf_150 : decode cX9_fieldOf 150 = .ok (.ireturn, 1) := by decide +kernel
theorem dX9_fieldOf_151 : decode cX9_fieldOf 151 = .ok (.aload_n 0, 1) := by decide +kernel
theorem dX9_fieldOf_152 : decode cX9_fieldOf 152 = .ok (.bipush (-2), 2) := by decide +kernel
theorem dX9_fieldOf_154 : decode cX9_fieldOf 154 = .ok (.invokevirtual 82, 3) := by decide +kernel
theorem dX9_fieldOf_157 : decode cX9_fieldOf 157 = .ok (.ireturn, 1) := by decide +kernel
theorem dX9_lorryOf_0 : decode cX9_lorryOf 0 = .ok (.aload_n 0, 1) := by decide +kernel
theorem dX9_lorryOf_1 : decode cX9_lorryOf 1 = .ok (.iload_n 1, 1) := by decide +kernel
theorem dX9_lorryOf_2 : decode cX9_lorryOf 2 = .ok (.invokevirtual 120, 3) := by decide +kernel
theorem dX9_lorryOf_5 : decode cX9_lorryOf 5 = .ok (.astore_n 3, 1) := by decide +kernel
theorem dX9_lorryOf_6 : decode cX9_lorryOf 6 = .ok (.aload_n 3, 1) := by decide +kernel
theorem dX9_lorryOf_7 : decode cX9_lorryOf 7 = .ok (.ifnonnull 9, 3) := by decide +kernel
theorem dX9_lorryOf_10 : decode cX9_lorryOf 10 = .ok (.aload_n 0, 1) := by decide +kernel
theorem dX9_lorryOf_11 : decode cX9_lorryOf 11 = .ok (.iconst (-1), 1) := by decide +kernel
theorem dX9_lorryOf_12 : decode cX9_lorryOf 12 = .ok (.invokevirtual 82, 3) := by decide +kernel
theorem dX9_lorryOf_15 : decode cX9_lorryOf 15 = .ok (.ireturn, 1) := by decide +kernel
theorem dX9_lorryOf_16 : decode cX9_lorryOf 16 = .ok (.iload_n 2, 1) := by decide +kernel
theorem dX9_lorryOf_17 : decode cX9_lorryOf 17 = .ok (.tableswitch 93 0 6 #[43, 48, 68, 73, 78, 83, 88], 43) := by decide +kernel
theorem dX9_lorryOf_60 : decode cX9_lorryOf 60 = .ok (.aload_n 3, 1) := by decide +kernel
theorem dX9_lorryOf_61 : decode cX9_lorryOf 61 = .ok (.getfield 124, 3) := by decide +kernel
theorem dX9_lorryOf_64 : decode cX9_lorryOf 64 = .ok (.ireturn, 1) := by decide +kernel
theorem dX9_lorryOf_65 : decode cX9_lorryOf 65 = .ok (.aload_n 3, 1) := by decide +kernel
theorem dX9_lorryOf_66 : decode cX9_lorryOf 66 = .ok (.getfield 231, 3) := by decide +kernel
theorem dX9_lorryOf_69 : decode cX9_lorryOf 69 = .ok (.ifnonnull 8, 3) := by decide +kernel
theorem dX9_lorryOf_72 : decode cX9_lorryOf 72 = .ok (.bipush (-9), 2) := by decide +kernel
theorem dX9_lorryOf_74 : decode cX9_lorryOf 74 = .ok (.goto 10, 3) := by decide +kernel
theorem dX9_lorryOf_77 : decode cX9_lorryOf 77 = .ok (.aload_n 3, 1) := by decide +kernel
theorem dX9_lorryOf_78 : decode cX9_lorryOf 78 = .ok (.getfield 231, 3) := by decide +kernel
theorem dX9_lorryOf_81 : decode cX9_lorryOf 81 = .ok (.getfield 146, 3) := by decide +kernel
theorem dX9_lorryOf_84 : decode cX9_lorryOf 84 = .ok (.ireturn, 1) := by decide +kernel
theorem dX9_lorryOf_85 : decode cX9_lorryOf 85 = .ok (.aload_n 3, 1) := by decide +kernel
theorem dX9_lorryOf_86 : decode cX9_lorryOf 86 = .ok (.getfield 131, 3) := by decide +kernel
theorem dX9_lorryOf_89 : decode cX9_lorryOf 89 = .ok (.ireturn, 1) := by decide +kernel
theorem dX9_lorryOf_90 : decode cX9_lorryOf 90 = .ok (.aload_n 3, 1) := by decide +kernel
theorem dX9_lorryOf_91 : decode cX9_lorryOf 91 = .ok (.getfield 232, 3) := by decide +kernel
theorem dX9_lorryOf_94 : decode cX9_lorryOf 94 = .ok (.ireturn, 1) := by decide +kernel
theorem dX9_lorryOf_95 : decode cX9_lorryOf 95 = .ok (.aload_n 3, 1) := by decide +kernel
theorem dX9_lorryOf_96 : decode cX9_lorryOf 96 = .ok (.getfield 233, 3) := by decide +kernel
theorem dX9_lorryOf_99 : decode cX9_lorryOf 99 = .ok (.ireturn, 1) := by decide +kernel
theorem dX9_lorryOf_100 : decode cX9_lorryOf 100 = .ok (.aload_n 3, 1) := by decide +kernel
theorem dX9_lorryOf_101 : decode cX9_lorryOf 101 = .ok (.getfield 234, 3) := by decide +kernel
theorem dX9_lorryOf_104 : decode cX9_lorryOf 104 = .ok (.ireturn, 1) := by decide +kernel
theorem dX9_lorryOf_105 : decode cX9_lorryOf 105 = .ok (.aload_n 3, 1) := by decide +kernel
theorem dX9_lorryOf_106 : decode cX9_lorryOf 106 = .ok (.getfield 237, 3) := by decide +kernel
theorem dX9_lorryOf_109 : decode cX9_lorryOf 109 = .ok (.ireturn, 1) := by decide +kernel
theorem dX9_lorryOf_110 : decode cX9_lorryOf 110 = .ok (.aload_n 0, 1) := by decide +kernel
theorem dX9_lorryOf_111 : decode cX9_lorryOf 111 = .ok (.bipush (-2), 2) := by decide +kernel
theorem dX9_lorryOf_113 : decode cX9_lorryOf 113 = .ok (.invokevirtual 82, 3) := by decide +kernel
theorem dX9_lorryOf_116 : decode cX9_lorryOf 116 = .ok (.ireturn, 1) := by decide +kernel
theorem dX9_load_0 : decode cX9_load 0 = .ok (.iload_n 1, 1) := by decide +kernel
theorem dX9_load_1 : decode cX9_load 1 = .ok (.ifCond .lt 17, 3) := by decide +kernel
theorem dX9_load_4 : decode cX9_load 4 = .ok (.iload_n 1, 1) := by decide +kernel
theorem dX9_load_5 : decode cX9_load 5 = .ok (.aload_n 0, 1) := by decide +kernel
theorem dX9_load_6 : decode cX9_load 6 = .ok (.getfield 41, 3) := by decide +kernel
theorem dX9_load_9 : decode cX9_load 9 = .ok (.getfield 240, 3) := by decide +kernel
theorem dX9_load_12 : decode cX9_load 12 = .ok (.invokevirtual 93, 3) := by decide +kernel
theorem dX9_load_15 : decode cX9_load 15 = .ok (.if_icmp .lt 6, 3) := by decide +kernel
theorem dX9_load_18 : decode cX9_load 18 = .ok (.bipush (-9), 2) := by decide +kernel
theorem dX9_load_20 : decode cX9_load 20 = .ok (.ireturn, 1) := by decide +kernel
theorem dX9_load_21 : decode cX9_load 21 = .ok (.aload_n 0, 1) := by decide +kernel
theorem dX9_load_22 : decode cX9_load 22 = .ok (.getfield 41, 3) := by decide +kernel
theorem dX9_load_25 : decode cX9_load 25 = .ok (.getfield 240, 3) := by decide +kernel
theorem dX9_load_28 : decode cX9_load 28 = .ok (.iload_n 1, 1) := by decide +kernel
theorem dX9_load_29 : decode cX9_load 29 = .ok (.invokevirtual 172, 3) := by decide +kernel
theorem dX9_load_32 : decode cX9_load 32 = .ok (.checkcast 243, 3) := by decide +kernel
theorem dX9_load_35 : decode cX9_load 35 = .ok (.astore_n 3, 1) := by decide +kernel
theorem dX9_load_36 : decode cX9_load 36 = .ok (.iload_n 2, 1) := by decide +kernel
theorem dX9_load_37 : decode cX9_load 37 = .ok (.tableswitch 45 0 2 #[27, 35, 40], 27) := by decide +kernel
theorem dX9_load_64 : decode cX9_load 64 = .ok (.aload_n 3, 1) := by decide +kernel
theorem dX9_load_65 : decode cX9_load 65 = .ok (.getfield 245, 3) := by decide +kernel
theorem dX9_load_68 : decode cX9_load 68 = .ok (.getfield 146, 3) := by decide +kernel
theorem dX9_load_71 : decode cX9_load 71 = .ok (.ireturn, 1) := by decide +kernel
theorem dX9_load_72 : decode cX9_load 72 = .ok (.aload_n 3, 1) := by decide +kernel
theorem dX9_load_73 : decode cX9_load 73 = .ok (.getfield 246, 3) := by decide +kernel
theorem dX9_load_76 : decode cX9_load 76 = .ok (.ireturn, 1) := by decide +kernel
theorem dX9_load_77 : decode cX9_load 77 = .ok (.aload_n 3, 1) := by decide +kernel
theorem dX9_load_78 : decode cX9_load 78 = .ok (.getfield 247, 3) := by decide +kernel
theorem dX9_load_81 : decode cX9_load 81 = .ok (.ireturn, 1) := by decide +kernel
theorem dX9_load_82 : decode cX9_load 82 = .ok (.bipush (-9), 2) := by decide +kernel
theorem dX9_load_84 : decode cX9_load 84 = .ok (.ireturn, 1) := by decide +kernel
theorem dX9_coins_0 : decode cX9_coins 0 = .ok (.aload_n 0, 1) := by decide +kernel
theorem dX9_coins_1 : decode cX9_coins 1 = .ok (.iload_n 1, 1) := by decide +kernel
theorem dX9_coins_2 : decode cX9_coins 2 = .ok (.invokevirtual 78, 3) := by decide +kernel
theorem dX9_coins_5 : decode cX9_coins 5 = .ok (.astore_n 2, 1) := by decide +kernel
theorem dX9_coins_6 : decode cX9_coins 6 = .ok (.aload_n 2, 1) := by decide +kernel
theorem dX9_coins_7 : decode cX9_coins 7 = .ok (.ifnonnull 11, 3) := by decide +kernel
theorem dX9_coins_10 : decode cX9_coins 10 = .ok (.aload_n 0, 1) := by decide +kernel
theorem dX9_coins_11 : decode cX9_coins 11 = .ok (.iconst (-1), 1) := by decide +kernel
theorem dX9_coins_12 : decode cX9_coins 12 = .ok (.invokevirtual 82, 3) := by decide +kernel
theorem dX9_coins_15 : decode cX9_coins 15 = .ok (.goto 7, 3) := by decide +kernel
theorem dX9_coins_18 : decode cX9_coins 18 = .ok (.aload_n 2, 1) := by decide +kernel
theorem dX9_coins_19 : decode cX9_coins 19 = .ok (.getfield 248, 3) := by decide +kernel
theorem dX9_coins_22 : decode cX9_coins 22 = .ok (.ireturn, 1) := by decide +kernel
theorem dX9_count_0 : decode cX9_count 0 = .ok (.iload_n 1, 1) := by decide +kernel
theorem dX9_count_1 : decode cX9_count 1 = .ok (.bipush 11, 2) := by decide +kernel
theorem dX9_count_3 : decode cX9_count 3 = .ok (.if_icmp .lt 19, 3) := by decide +kernel
theorem dX9_count_6 : decode cX9_count 6 = .ok (.iload_n 1, 1) := by decide +kernel
theorem dX9_count_7 : decode cX9_count 7 = .ok (.bipush 16, 2) := by decide +kernel
theorem dX9_count_9 : decode cX9_count 9 = .ok (.if_icmp .gt 13, 3) := by decide +kernel
theorem dX9_count_12 : decode cX9_count 12 = .ok (.aload_n 0, 1) := by decide +kernel
theorem dX9_count_13 : decode cX9_count 13 = .ok (.getfield 63, 3) := by decide +kernel
theorem dX9_count_16 : decode cX9_count 16 = .ok (.iload_n 1, 1) := by decide +kernel
theorem dX9_count_17 : decode cX9_count 17 = .ok (.bipush 10, 2) := by decide +kernel
theorem dX9_count_19 : decode cX9_count 19 = .ok (.isub, 1) := by decide +kernel
theorem dX9_count_20 : decode cX9_count 20 = .ok (.iaload, 1) := by decide +kernel
theorem dX9_count_21 : decode cX9_count 21 = .ok (.ireturn, 1) := by decide +kernel
theorem dX9_count_22 : decode cX9_count 22 = .ok (.iload_n 1, 1) := by decide +kernel
theorem dX9_count_23 : decode cX9_count 23 = .ok (.tableswitch 169 0 17 #[85, 90, 98, 106, 114, 122, 130, 138, 146, 151, 169, 169, 169, 169, 169, 169, 169, 156], 85) := by decide +kernel
theorem dX9_count_108 : decode cX9_count 108 = .ok (.aload_n 0, 1) := by decide +kernel
theorem dX9_count_109 : decode cX9_count 109 = .ok (.getfield 70, 3) := by decide +kernel
theorem dX9_count_112 : decode cX9_count 112 = .ok (.ireturn, 1) := by decide +kernel
theorem dX9_count_113 : decode cX9_count 113 = .ok (.aload_n 0, 1) := by decide +kernel
theorem dX9_count_114 : decode cX9_count 114 = .ok (.getfield 18, 3) := by decide +kernel
theorem dX9_count_117 : decode cX9_count 117 = .ok (.invokevirtual 93, 3) := by decide +kernel
theorem dX9_count_120 : decode cX9_count 120 = .ok (.ireturn, 1) := by decide +kernel
theorem dX9_count_121 : decode cX9_count 121 = .ok (.aload_n 0, 1) := by decide +kernel
theorem dX9_count_122 : decode cX9_count 122 = .ok (.getfield 28, 3) := by decide +kernel
theorem dX9_count_125 : decode cX9_count 125 = .ok (.invokevirtual 93, 3) := by decide +kernel
theorem dX9_count_128 : decode cX9_count 128 = .ok (.ireturn, 1) := by decide +kernel
theorem dX9_count_129 : decode cX9_count 129 = .ok (.aload_n 0, 1) := by decide +kernel
theorem dX9_count_130 : decode cX9_count 130 = .ok (.getfield 41, 3) := by decide +kernel
theorem dX9_count_133 : decode cX9_count 133 = .ok (.getfield 251, 3) := by decide +kernel
theorem dX9_count_136 : decode cX9_count 136 = .ok (.ireturn, 1) := by decide +kernel
theorem dX9_count_137 : decode cX9_count 137 = .ok (.aload_n 0, 1) := by decide +kernel
theorem dX9_count_138 : decode cX9_count 138 = .ok (.getfield 48, 3) := by decide +kernel
theorem dX9_count_141 : decode cX9_count 141 = .ok (.getfield 184, 3) := by decide +kernel
theorem dX9_count_144 : decode cX9_count 144 = .ok (.ireturn, 1) := by decide +kernel
theorem dX9_count_145 : decode cX9_count 145 = .ok (.aload_n 0, 1) := by decide +kernel
theorem dX9_count_146 : decode cX9_count 146 = .ok (.getfield 48, 3) := by decide +kernel
theorem dX9_count_149 : decode cX9_count 149 = .ok (.getfield 252, 3) := by decide +kernel
theorem dX9_count_152 : decode cX9_count 152 = .ok (.ireturn, 1) := by decide +kernel
theorem dX9_count_153 : decode cX9_count 153 = .ok (.aload_n 0, 1) := by decide +kernel
theorem dX9_count_154 : decode cX9_count 154 = .ok (.getfield 48, 3) := by decide +kernel
theorem dX9_count_157 : decode cX9_count 157 = .ok (.getfield 255, 3) := by decide +kernel
theorem dX9_count_160 : decode cX9_count 160 = .ok (.ireturn, 1) := by decide +kernel
theorem dX9_count_161 : decode cX9_count 161 = .ok (.aload_n 0, 1) := by decide +kernel
theorem dX9_count_162 : decode cX9_count 162 = .ok (.getfield 48, 3) := by decide +kernel
theorem dX9_count_165 : decode cX9_count 165 = .ok (.getfield 258, 3) := by decide +kernel
theorem dX9_count_168 : decode cX9_count 168 = .ok (.ireturn, 1) := by decide +kernel
theorem dX9_count_169 : decode cX9_count 169 = .ok (.aload_n 0, 1) := by decide +kernel
theorem dX9_count_170 : decode cX9_count 170 = .ok (.invokevirtual 261, 3) := by decide +kernel
theorem dX9_count_173 : decode cX9_count 173 = .ok (.ireturn, 1) := by decide +kernel
theorem dX9_count_174 : decode cX9_count 174 = .ok (.aload_n 0, 1) := by decide +kernel
theorem dX9_count_175 : decode cX9_count 175 = .ok (.invokevirtual 264, 3) := by decide +kernel
theorem dX9_count_178 : decode cX9_count 178 = .ok (.ireturn, 1) := by decide +kernel
theorem dX9_count_179 : decode cX9_count 179 = .ok (.aload_n 0, 1) := by decide +kernel
theorem dX9_count_180 : decode cX9_count 180 = .ok (.getfield 66, 3) := by decide +kernel
theorem dX9_count_183 : decode cX9_count 183 = .ok (.ifCond .eq 7, 3) := by decide +kernel
theorem dX9_count_186 : decode cX9_count 186 = .ok (.iconst 1, 1) := by decide +kernel
theorem dX9_count_187 : decode cX9_count 187 = .ok (.goto 4, 3) := by decide +kernel
theorem dX9_count_190 : decode cX9_count 190 = .ok (.iconst 0, 1) := by decide +kernel
theorem dX9_count_191 : decode cX9_count 191 = .ok (.ireturn, 1) := by decide +kernel
theorem dX9_count_192 : decode cX9_count 192 = .ok (.bipush (-9), 2) := by decide +kernel
theorem dX9_count_194 : decode cX9_count 194 = .ok (.ireturn, 1) := by decide +kernel
theorem dX9_refuse_0 : decode cX9_refuse 0 = .ok (.iload_n 1, 1) := by decide +kernel
theorem dX9_refuse_1 : decode cX9_refuse 1 = .ok (.iconst (-1), 1) := by decide +kernel
theorem dX9_refuse_2 : decode cX9_refuse 2 = .ok (.if_icmp .gt 20, 3) := by decide +kernel
theorem dX9_refuse_5 : decode cX9_refuse 5 = .ok (.iload_n 1, 1) := by decide +kernel
theorem dX9_refuse_6 : decode cX9_refuse 6 = .ok (.bipush (-6), 2) := by decide +kernel
theorem dX9_refuse_8 : decode cX9_refuse 8 = .ok (.if_icmp .lt 14, 3) := by decide +kernel
theorem dX9_refuse_11 : decode cX9_refuse 11 = .ok (.aload_n 0, 1) := by decide +kernel
theorem dX9_refuse_12 : decode cX9_refuse 12 = .ok (.getfield 63, 3) := by decide +kernel
theorem dX9_refuse_15 : decode cX9_refuse 15 = .ok (.iload_n 1, 1) := by decide +kernel
theorem dX9_refuse_16 : decode cX9_refuse 16 = .ok (.ineg, 1) := by decide +kernel
theorem dX9_refuse_17 : decode cX9_refuse 17 = .ok (.dup2, 1) := by decide +kernel
theorem dX9_refuse_18 : decode cX9_refuse 18 = .ok (.iaload, 1) := by decide +kernel
theorem dX9_refuse_19 : decode cX9_refuse 19 = .ok (.iconst 1, 1) := by decide +kernel
theorem dX9_refuse_20 : decode cX9_refuse 20 = .ok (.iadd, 1) := by decide +kernel
theorem dX9_refuse_21 : decode cX9_refuse 21 = .ok (.iastore, 1) := by decide +kernel
theorem dX9_refuse_22 : decode cX9_refuse 22 = .ok (.iload_n 1, 1) := by decide +kernel
theorem dX9_refuse_23 : decode cX9_refuse 23 = .ok (.ireturn, 1) := by decide +kernel
theorem dX9_outside_0 : decode cX9_outside 0 = .ok (.iload_n 0, 1) := by decide +kernel
theorem dX9_outside_1 : decode cX9_outside 1 = .ok (.iload_n 1, 1) := by decide +kernel
theorem dX9_outside_2 : decode cX9_outside 2 = .ok (.if_icmp .ge 6, 3) := by decide +kernel
theorem dX9_outside_5 : decode cX9_outside 5 = .ok (.bipush (-4), 2) := by decide +kernel
theorem dX9_outside_7 : decode cX9_outside 7 = .ok (.ireturn, 1) := by decide +kernel
theorem dX9_outside_8 : decode cX9_outside 8 = .ok (.iload_n 0, 1) := by decide +kernel
theorem dX9_outside_9 : decode cX9_outside 9 = .ok (.iload_n 2, 1) := by decide +kernel
theorem dX9_outside_10 : decode cX9_outside 10 = .ok (.if_icmp .le 8, 3) := by decide +kernel
theorem dX9_outside_13 : decode cX9_outside 13 = .ok (.bipush (-6), 2) := by decide +kernel
theorem dX9_outside_15 : decode cX9_outside 15 = .ok (.goto 4, 3) := by decide +kernel
theorem dX9_outside_18 : decode cX9_outside 18 = .ok (.iconst 0, 1) := by decide +kernel
theorem dX9_outside_19 : decode cX9_outside 19 = .ok (.ireturn, 1) := by decide +kernel
theorem dX9_put_0 : decode cX9_put 0 = .ok (.iload_n 2, 1) := by decide +kernel
theorem dX9_put_1 : decode cX9_put 1 = .ok (.ifCond .lt 9, 3) := by decide +kernel
theorem dX9_put_4 : decode cX9_put 4 = .ok (.iload_n 2, 1) := by decide +kernel
theorem dX9_put_5 : decode cX9_put 5 = .ok (.aload_n 1, 1) := by decide +kernel
theorem dX9_put_6 : decode cX9_put 6 = .ok (.arraylength, 1) := by decide +kernel
theorem dX9_put_7 : decode cX9_put 7 = .ok (.if_icmp .lt 9, 3) := by decide +kernel
theorem dX9_put_10 : decode cX9_put 10 = .ok (.aload_n 0, 1) := by decide +kernel
theorem dX9_put_11 : decode cX9_put 11 = .ok (.iload_n 3, 1) := by decide +kernel
theorem dX9_put_12 : decode cX9_put 12 = .ok (.invokevirtual 82, 3) := by decide +kernel
theorem dX9_put_15 : decode cX9_put 15 = .ok (.ireturn, 1) := by decide +kernel
theorem dX9_put_16 : decode cX9_put 16 = .ok (.iload 4, 2) := by decide +kernel
theorem dX9_put_18 : decode cX9_put 18 = .ok (.iconst 0, 1) := by decide +kernel
theorem dX9_put_19 : decode cX9_put 19 = .ok (.iload 5, 2) := by decide +kernel
theorem dX9_put_21 : decode cX9_put 21 = .ok (.invokestatic 86, 3) := by decide +kernel
theorem dX9_put_24 : decode cX9_put 24 = .ok (.istore 6, 2) := by decide +kernel
theorem dX9_put_26 : decode cX9_put 26 = .ok (.iload 6, 2) := by decide +kernel
theorem dX9_put_28 : decode cX9_put 28 = .ok (.ifCond .eq 10, 3) := by decide +kernel
theorem dX9_put_31 : decode cX9_put 31 = .ok (.aload_n 0, 1) := by decide +kernel
theorem dX9_put_32 : decode cX9_put 32 = .ok (.iload 6, 2) := by decide +kernel
theorem dX9_put_34 : decode cX9_put 34 = .ok (.invokevirtual 82, 3) := by decide +kernel
theorem dX9_put_37 : decode cX9_put 37 = .ok (.ireturn, 1) := by decide +kernel
theorem dX9_put_38 : decode cX9_put 38 = .ok (.aload_n 1, 1) := by decide +kernel
theorem dX9_put_39 : decode cX9_put 39 = .ok (.iload_n 2, 1) := by decide +kernel
theorem dX9_put_40 : decode cX9_put 40 = .ok (.iaload, 1) := by decide +kernel
theorem dX9_put_41 : decode cX9_put 41 = .ok (.istore 7, 2) := by decide +kernel
theorem dX9_put_43 : decode cX9_put 43 = .ok (.aload_n 1, 1) := by decide +kernel
theorem dX9_put_44 : decode cX9_put 44 = .ok (.iload_n 2, 1) := by decide +kernel
theorem dX9_put_45 : decode cX9_put 45 = .ok (.iload 4, 2) := by decide +kernel
theorem dX9_put_47 : decode cX9_put 47 = .ok (.iastore, 1) := by decide +kernel
theorem dX9_put_48 : decode cX9_put 48 = .ok (.iload 7, 2) := by decide +kernel
theorem dX9_put_50 : decode cX9_put 50 = .ok (.ireturn, 1) := by decide +kernel
theorem dX9_farmerAt_0 : decode cX9_farmerAt 0 = .ok (.iload_n 1, 1) := by decide +kernel
theorem dX9_farmerAt_1 : decode cX9_farmerAt 1 = .ok (.ifCond .lt 18, 3) := by decide +kernel
theorem dX9_farmerAt_4 : decode cX9_farmerAt 4 = .ok (.iload_n 1, 1) := by decide +kernel
theorem dX9_farmerAt_5 : decode cX9_farmerAt 5 = .ok (.bipush 6, 2) := by decide +kernel
theorem dX9_farmerAt_7 : decode cX9_farmerAt 7 = .ok (.if_icmp .ge 12, 3) := by decide +kernel
theorem dX9_farmerAt_10 : decode cX9_farmerAt 10 = .ok (.aload_n 0, 1) := by decide +kernel
theorem dX9_farmerAt_11 : decode cX9_farmerAt 11 = .ok (.getfield 11, 3) := by decide +kernel
theorem dX9_farmerAt_14 : decode cX9_farmerAt 14 = .ok (.iload_n 1, 1) := by decide +kernel
theorem dX9_farmerAt_15 : decode cX9_farmerAt 15 = .ok (.aaload, 1) := by decide +kernel
theorem dX9_farmerAt_16 : decode cX9_farmerAt 16 = .ok (.goto 4, 3) := by decide +kernel
theorem dX9_farmerAt_19 : decode cX9_farmerAt 19 = .ok (.aconst_null, 1) := by decide +kernel
theorem dX9_farmerAt_20 : decode cX9_farmerAt 20 = .ok (.areturn, 1) := by decide +kernel
theorem dX9_plotAt_0 : decode cX9_plotAt 0 = .ok (.iload_n 1, 1) := by decide +kernel
theorem dX9_plotAt_1 : decode cX9_plotAt 1 = .ok (.ifCond .lt 28, 3) := by decide +kernel
theorem dX9_plotAt_4 : decode cX9_plotAt 4 = .ok (.iload_n 1, 1) := by decide +kernel
theorem dX9_plotAt_5 : decode cX9_plotAt 5 = .ok (.aload_n 0, 1) := by decide +kernel
theorem dX9_plotAt_6 : decode cX9_plotAt 6 = .ok (.getfield 18, 3) := by decide +kernel
theorem dX9_plotAt_9 : decode cX9_plotAt 9 = .ok (.invokevirtual 93, 3) := by decide +kernel
theorem dX9_plotAt_12 : decode cX9_plotAt 12 = .ok (.if_icmp .ge 17, 3) := by decide +kernel
theorem dX9_plotAt_15 : decode cX9_plotAt 15 = .ok (.aload_n 0, 1) := by decide +kernel
theorem dX9_plotAt_16 : decode cX9_plotAt 16 = .ok (.getfield 18, 3) := by decide +kernel
theorem dX9_plotAt_19 : decode cX9_plotAt 19 = .ok (.iload_n 1, 1) := by decide +kernel
theorem dX9_plotAt_20 : decode cX9_plotAt 20 = .ok (.invokevirtual 172, 3) := by decide +kernel
theorem dX9_plotAt_23 : decode cX9_plotAt 23 = .ok (.checkcast 97, 3) := by decide +kernel
theorem dX9_plotAt_26 : decode cX9_plotAt 26 = .ok (.goto 4, 3) := by decide +kernel
theorem dX9_plotAt_29 : decode cX9_plotAt 29 = .ok (.aconst_null, 1) := by decide +kernel
theorem dX9_plotAt_30 : decode cX9_plotAt 30 = .ok (.areturn, 1) := by decide +kernel
theorem dX9_lorryAt_0 : decode cX9_lorryAt 0 = .ok (.iload_n 1, 1) := by decide +kernel
theorem dX9_lorryAt_1 : decode cX9_lorryAt 1 = .ok (.ifCond .lt 28, 3) := by decide +kernel
theorem dX9_lorryAt_4 : decode cX9_lorryAt 4 = .ok (.iload_n 1, 1) := by decide +kernel
theorem dX9_lorryAt_5 : decode cX9_lorryAt 5 = .ok (.aload_n 0, 1) := by decide +kernel
theorem dX9_lorryAt_6 : decode cX9_lorryAt 6 = .ok (.getfield 28, 3) := by decide +kernel
theorem dX9_lorryAt_9 : decode cX9_lorryAt 9 = .ok (.invokevirtual 93, 3) := by decide +kernel
theorem dX9_lorryAt_12 : decode cX9_lorryAt 12 = .ok (.if_icmp .ge 17, 3) := by decide +kernel
theorem dX9_lorryAt_15 : decode cX9_lorryAt 15 = .ok (.aload_n 0, 1) := by decide +kernel
theorem dX9_lorryAt_16 : decode cX9_lorryAt 16 = .ok (.getfield 28, 3) := by decide +kernel
theorem dX9_lorryAt_19 : decode cX9_lorryAt 19 = .ok (.iload_n 1, 1) := by decide +kernel
theorem dX9_lorryAt_20 : decode cX9_lorryAt 20 = .ok (.invokevirtual 172, 3) := by decide +kernel
theorem dX9_lorryAt_23 : decode cX9_lorryAt 23 = .ok (.checkcast 117, 3) := by decide +kernel
theorem dX9_lorryAt_26 : decode cX9_lorryAt 26 = .ok (.goto 4, 3) := by decide +kernel
end
section
theorem dX9_lorryAt_29 : decode cX9_lorryAt 29 = .ok (.aconst_null, 1) := by decide +kernel
theorem dX9_lorryAt_30 : decode cX9_lorryAt 30 = .ok (.areturn, 1) := by decide +kernel
theorem dX9_firstHome_0 : decode cX9_firstHome 0 = .ok (.iconst 0, 1) := by decide +kernel
theorem dX9_firstHome_1 : decode cX9_firstHome 1 = .ok (.istore_n 1, 1) := by decide +kernel
theorem dX9_firstHome_2 : decode cX9_firstHome 2 = .ok (.iload_n 1, 1) := by decide +kernel
theorem dX9_firstHome_3 : decode cX9_firstHome 3 = .ok (.aload_n 0, 1) := by decide +kernel
theorem dX9_firstHome_4 : decode cX9_firstHome 4 = .ok (.getfield 28, 3) := by decide +kernel
theorem dX9_firstHome_7 : decode cX9_firstHome 7 = .ok (.invokevirtual 93, 3) := by decide +kernel
theorem dX9_firstHome_10 : decode cX9_firstHome 10 = .ok (.if_icmp .ge 38, 3) := by decide +kernel
theorem dX9_firstHome_13 : decode cX9_firstHome 13 = .ok (.aload_n 0, 1) := by decide +kernel
theorem dX9_firstHome_14 : decode cX9_firstHome 14 = .ok (.getfield 28, 3) := by decide +kernel
theorem dX9_firstHome_17 : decode cX9_firstHome 17 = .ok (.iload_n 1, 1) := by decide +kernel
theorem dX9_firstHome_18 : decode cX9_firstHome 18 = .ok (.invokevirtual 172, 3) := by decide +kernel
theorem dX9_firstHome_21 : decode cX9_firstHome 21 = .ok (.checkcast 117, 3) := by decide +kernel
theorem dX9_firstHome_24 : decode cX9_firstHome 24 = .ok (.getfield 124, 3) := by decide +kernel
theorem dX9_firstHome_27 : decode cX9_firstHome 27 = .ok (.ifCond .ne 15, 3) := by decide +kernel
theorem dX9_firstHome_30 : decode cX9_firstHome 30 = .ok (.aload_n 0, 1) := by decide +kernel
theorem dX9_firstHome_31 : decode cX9_firstHome 31 = .ok (.getfield 28, 3) := by decide +kernel
theorem dX9_firstHome_34 : decode cX9_firstHome 34 = .ok (.iload_n 1, 1) := by decide +kernel
theorem dX9_firstHome_35 : decode cX9_firstHome 35 = .ok (.invokevirtual 172, 3) := by decide +kernel
theorem dX9_firstHome_38 : decode cX9_firstHome 38 = .ok (.checkcast 117, 3) := by decide +kernel
theorem dX9_firstHome_41 : decode cX9_firstHome 41 = .ok (.areturn, 1) := by decide +kernel
theorem dX9_firstHome_42 : decode cX9_firstHome 42 = .ok (.iinc 1 1, 3) := by decide +kernel
theorem dX9_firstHome_45 : decode cX9_firstHome 45 = .ok (.goto (-43), 3) := by decide +kernel
theorem dX9_firstHome_48 : decode cX9_firstHome 48 = .ok (.aconst_null, 1) := by decide +kernel
theorem dX9_firstHome_49 : decode cX9_firstHome 49 = .ok (.areturn, 1) := by decide +kernel
theorem dX9_lorriesOutTo_0 : decode cX9_lorriesOutTo 0 = .ok (.iconst 0, 1) := by decide +kernel
theorem dX9_lorriesOutTo_1 : decode cX9_lorriesOutTo 1 = .ok (.istore_n 2, 1) := by decide +kernel
theorem dX9_lorriesOutTo_2 : decode cX9_lorriesOutTo 2 = .ok (.iconst 0, 1) := by decide +kernel
theorem dX9_lorriesOutTo_3 : decode cX9_lorriesOutTo 3 = .ok (.istore_n 3, 1) := by decide +kernel
theorem dX9_lorriesOutTo_4 : decode cX9_lorriesOutTo 4 = .ok (.iload_n 3, 1) := by decide +kernel
theorem dX9_lorriesOutTo_5 : decode cX9_lorriesOutTo 5 = .ok (.aload_n 0, 1) := by decide +kernel
theorem dX9_lorriesOutTo_6 : decode cX9_lorriesOutTo 6 = .ok (.getfield 28, 3) := by decide +kernel
theorem dX9_lorriesOutTo_9 : decode cX9_lorriesOutTo 9 = .ok (.invokevirtual 93, 3) := by decide +kernel
theorem dX9_lorriesOutTo_12 : decode cX9_lorriesOutTo 12 = .ok (.if_icmp .ge 30, 3) := by decide +kernel
theorem dX9_lorriesOutTo_15 : decode cX9_lorriesOutTo 15 = .ok (.aload_n 0, 1) := by decide +kernel
theorem dX9_lorriesOutTo_16 : decode cX9_lorriesOutTo 16 = .ok (.getfield 28, 3) := by decide +kernel
theorem dX9_lorriesOutTo_19 : decode cX9_lorriesOutTo 19 = .ok (.iload_n 3, 1) := by decide +kernel
theorem dX9_lorriesOutTo_20 : decode cX9_lorriesOutTo 20 = .ok (.invokevirtual 172, 3) := by decide +kernel
theorem dX9_lorriesOutTo_23 : decode cX9_lorriesOutTo 23 = .ok (.checkcast 117, 3) := by decide +kernel
theorem dX9_lorriesOutTo_26 : decode cX9_lorriesOutTo 26 = .ok (.aload_n 1, 1) := by decide +kernel
theorem dX9_lorriesOutTo_27 : decode cX9_lorriesOutTo 27 = .ok (.invokevirtual 267, 3) := by decide +kernel
theorem dX9_lorriesOutTo_30 : decode cX9_lorriesOutTo 30 = .ok (.ifCond .eq 6, 3) := by decide +kernel
theorem dX9_lorriesOutTo_33 : decode cX9_lorriesOutTo 33 = .ok (.iinc 2 1, 3) := by decide +kernel
theorem dX9_lorriesOutTo_36 : decode cX9_lorriesOutTo 36 = .ok (.iinc 3 1, 3) := by decide +kernel
theorem dX9_lorriesOutTo_39 : decode cX9_lorriesOutTo 39 = .ok (.goto (-35), 3) := by decide +kernel
theorem dX9_lorriesOutTo_42 : decode cX9_lorriesOutTo 42 = .ok (.iload_n 2, 1) := by decide +kernel
theorem dX9_lorriesOutTo_43 : decode cX9_lorriesOutTo 43 = .ok (.ireturn, 1) := by decide +kernel
theorem dX9_hasRootsToSpare_0 : decode cX9_hasRootsToSpare 0 = .ok (.iconst 0, 1) := by decide +kernel
theorem dX9_hasRootsToSpare_1 : decode cX9_hasRootsToSpare 1 = .ok (.istore_n 2, 1) := by decide +kernel
theorem dX9_hasRootsToSpare_2 : decode cX9_hasRootsToSpare 2 = .ok (.iconst 0, 1) := by decide +kernel
theorem dX9_hasRootsToSpare_3 : decode cX9_hasRootsToSpare 3 = .ok (.istore_n 3, 1) := by decide +kernel
theorem dX9_hasRootsToSpare_4 : decode cX9_hasRootsToSpare 4 = .ok (.iload_n 3, 1) := by decide +kernel
theorem dX9_hasRootsToSpare_5 : decode cX9_hasRootsToSpare 5 = .ok (.aload_n 0, 1) := by decide +kernel
theorem dX9_hasRootsToSpare_6 : decode cX9_hasRootsToSpare 6 = .ok (.getfield 28, 3) := by decide +kernel
theorem dX9_hasRootsToSpare_9 : decode cX9_hasRootsToSpare 9 = .ok (.invokevirtual 93, 3) := by decide +kernel
theorem dX9_hasRootsToSpare_12 : decode cX9_hasRootsToSpare 12 = .ok (.if_icmp .ge 39, 3) := by decide +kernel
theorem dX9_hasRootsToSpare_15 : decode cX9_hasRootsToSpare 15 = .ok (.aload_n 0, 1) := by decide +kernel
theorem dX9_hasRootsToSpare_16 : decode cX9_hasRootsToSpare 16 = .ok (.getfield 28, 3) := by decide +kernel
theorem dX9_hasRootsToSpare_19 : decode cX9_hasRootsToSpare 19 = .ok (.iload_n 3, 1) := by decide +kernel
theorem dX9_hasRootsToSpare_20 : decode cX9_hasRootsToSpare 20 = .ok (.invokevirtual 172, 3) := by decide +kernel
theorem dX9_hasRootsToSpare_23 : decode cX9_hasRootsToSpare 23 = .ok (.checkcast 117, 3) := by decide +kernel
theorem dX9_hasRootsToSpare_26 : decode cX9_hasRootsToSpare 26 = .ok (.astore 4, 2) := by decide +kernel
theorem dX9_hasRootsToSpare_28 : decode cX9_hasRootsToSpare 28 = .ok (.aload 4, 2) := by decide +kernel
theorem dX9_hasRootsToSpare_30 : decode cX9_hasRootsToSpare 30 = .ok (.aload_n 1, 1) := by decide +kernel
theorem dX9_hasRootsToSpare_31 : decode cX9_hasRootsToSpare 31 = .ok (.invokevirtual 267, 3) := by decide +kernel
theorem dX9_hasRootsToSpare_34 : decode cX9_hasRootsToSpare 34 = .ok (.ifCond .eq 11, 3) := by decide +kernel
theorem dX9_hasRootsToSpare_37 : decode cX9_hasRootsToSpare 37 = .ok (.iload_n 2, 1) := by decide +kernel
theorem dX9_hasRootsToSpare_38 : decode cX9_hasRootsToSpare 38 = .ok (.aload 4, 2) := by decide +kernel
theorem dX9_hasRootsToSpare_40 : decode cX9_hasRootsToSpare 40 = .ok (.getfield 271, 3) := by decide +kernel
theorem dX9_hasRootsToSpare_43 : decode cX9_hasRootsToSpare 43 = .ok (.iadd, 1) := by decide +kernel
theorem dX9_hasRootsToSpare_44 : decode cX9_hasRootsToSpare 44 = .ok (.istore_n 2, 1) := by decide +kernel
theorem dX9_hasRootsToSpare_45 : decode cX9_hasRootsToSpare 45 = .ok (.iinc 3 1, 3) := by decide +kernel
theorem dX9_hasRootsToSpare_48 : decode cX9_hasRootsToSpare 48 = .ok (.goto (-44), 3) := by decide +kernel
theorem dX9_hasRootsToSpare_51 : decode cX9_hasRootsToSpare 51 = .ok (.aload_n 1, 1) := by decide +kernel
theorem dX9_hasRootsToSpare_52 : decode cX9_hasRootsToSpare 52 = .ok (.getfield 163, 3) := by decide +kernel
theorem dX9_hasRootsToSpare_55 : decode cX9_hasRootsToSpare 55 = .ok (.iload_n 2, 1) := by decide +kernel
theorem dX9_hasRootsToSpare_56 : decode cX9_hasRootsToSpare 56 = .ok (.if_icmp .le 7, 3) := by decide +kernel
theorem dX9_hasRootsToSpare_59 : decode cX9_hasRootsToSpare 59 = .ok (.iconst 1, 1) := by decide +kernel
theorem dX9_hasRootsToSpare_60 : decode cX9_hasRootsToSpare 60 = .ok (.goto 4, 3) := by decide +kernel
theorem dX9_hasRootsToSpare_63 : decode cX9_hasRootsToSpare 63 = .ok (.iconst 0, 1) := by decide +kernel
theorem dX9_hasRootsToSpare_64 : decode cX9_hasRootsToSpare 64 = .ok (.ireturn, 1) := by decide +kernel
theorem dX9_mostOwed_0 : decode cX9_mostOwed 0 = .ok (.aconst_null, 1) := by decide +kernel
theorem dX9_mostOwed_1 : decode cX9_mostOwed 1 = .ok (.astore_n 1, 1) := by decide +kernel
theorem dX9_mostOwed_2 : decode cX9_mostOwed 2 = .ok (.iconst 0, 1) := by decide +kernel
theorem dX9_mostOwed_3 : decode cX9_mostOwed 3 = .ok (.istore_n 2, 1) := by decide +kernel
theorem dX9_mostOwed_4 : decode cX9_mostOwed 4 = .ok (.iload_n 2, 1) := by decide +kernel
theorem dX9_mostOwed_5 : decode cX9_mostOwed 5 = .ok (.aload_n 0, 1) := by decide +kernel
theorem dX9_mostOwed_6 : decode cX9_mostOwed 6 = .ok (.getfield 18, 3) := by decide +kernel
theorem dX9_mostOwed_9 : decode cX9_mostOwed 9 = .ok (.invokevirtual 93, 3) := by decide +kernel
theorem dX9_mostOwed_12 : decode cX9_mostOwed 12 = .ok (.if_icmp .ge 56, 3) := by decide +kernel
theorem dX9_mostOwed_15 : decode cX9_mostOwed 15 = .ok (.aload_n 0, 1) := by decide +kernel
theorem dX9_mostOwed_16 : decode cX9_mostOwed 16 = .ok (.getfield 18, 3) := by decide +kernel
theorem dX9_mostOwed_19 : decode cX9_mostOwed 19 = .ok (.iload_n 2, 1) := by decide +kernel
theorem dX9_mostOwed_20 : decode cX9_mostOwed 20 = .ok (.invokevirtual 172, 3) := by decide +kernel
theorem dX9_mostOwed_23 : decode cX9_mostOwed 23 = .ok (.checkcast 97, 3) := by decide +kernel
theorem dX9_mostOwed_26 : decode cX9_mostOwed 26 = .ok (.astore_n 3, 1) := by decide +kernel
theorem dX9_mostOwed_27 : decode cX9_mostOwed 27 = .ok (.aload_n 0, 1) := by decide +kernel
theorem dX9_mostOwed_28 : decode cX9_mostOwed 28 = .ok (.aload_n 3, 1) := by decide +kernel
theorem dX9_mostOwed_29 : decode cX9_mostOwed 29 = .ok (.invokevirtual 274, 3) := by decide +kernel
theorem dX9_mostOwed_32 : decode cX9_mostOwed 32 = .ok (.ifCond .eq 30, 3) := by decide +kernel
theorem dX9_mostOwed_35 : decode cX9_mostOwed 35 = .ok (.aload_n 1, 1) := by decide +kernel
theorem dX9_mostOwed_36 : decode cX9_mostOwed 36 = .ok (.ifnull 21, 3) := by decide +kernel
theorem dX9_mostOwed_39 : decode cX9_mostOwed 39 = .ok (.aload_n 3, 1) := by decide +kernel
theorem dX9_mostOwed_40 : decode cX9_mostOwed 40 = .ok (.getfield 223, 3) := by decide +kernel
theorem dX9_mostOwed_43 : decode cX9_mostOwed 43 = .ok (.aload_n 1, 1) := by decide +kernel
theorem dX9_mostOwed_44 : decode cX9_mostOwed 44 = .ok (.aload_n 0, 1) := by decide +kernel
theorem dX9_mostOwed_45 : decode cX9_mostOwed 45 = .ok (.getfield 41, 3) := by decide +kernel
theorem dX9_mostOwed_48 : decode cX9_mostOwed 48 = .ok (.getfield 191, 3) := by decide +kernel
theorem dX9_mostOwed_51 : decode cX9_mostOwed 51 = .ok (.invokevirtual 277, 3) := by decide +kernel
theorem dX9_mostOwed_54 : decode cX9_mostOwed 54 = .ok (.ifCond .eq 8, 3) := by decide +kernel
theorem dX9_mostOwed_57 : decode cX9_mostOwed 57 = .ok (.aload_n 3, 1) := by decide +kernel
theorem dX9_mostOwed_58 : decode cX9_mostOwed 58 = .ok (.getfield 223, 3) := by decide +kernel
theorem dX9_mostOwed_61 : decode cX9_mostOwed 61 = .ok (.astore_n 1, 1) := by decide +kernel
theorem dX9_mostOwed_62 : decode cX9_mostOwed 62 = .ok (.iinc 2 1, 3) := by decide +kernel
theorem dX9_mostOwed_65 : decode cX9_mostOwed 65 = .ok (.goto (-61), 3) := by decide +kernel
theorem dX9_mostOwed_68 : decode cX9_mostOwed 68 = .ok (.aload_n 1, 1) := by decide +kernel
theorem dX9_mostOwed_69 : decode cX9_mostOwed 69 = .ok (.areturn, 1) := by decide +kernel
theorem dX9_sweetestOf_0 : decode cX9_sweetestOf 0 = .ok (.aconst_null, 1) := by decide +kernel
theorem dX9_sweetestOf_1 : decode cX9_sweetestOf 1 = .ok (.astore_n 2, 1) := by decide +kernel
theorem dX9_sweetestOf_2 : decode cX9_sweetestOf 2 = .ok (.iconst 0, 1) := by decide +kernel
theorem dX9_sweetestOf_3 : decode cX9_sweetestOf 3 = .ok (.istore_n 3, 1) := by decide +kernel
theorem dX9_sweetestOf_4 : decode cX9_sweetestOf 4 = .ok (.iload_n 3, 1) := by decide +kernel
theorem dX9_sweetestOf_5 : decode cX9_sweetestOf 5 = .ok (.aload_n 0, 1) := by decide +kernel
theorem dX9_sweetestOf_6 : decode cX9_sweetestOf 6 = .ok (.getfield 18, 3) := by decide +kernel
theorem dX9_sweetestOf_9 : decode cX9_sweetestOf 9 = .ok (.invokevirtual 93, 3) := by decide +kernel
theorem dX9_sweetestOf_12 : decode cX9_sweetestOf 12 = .ok (.if_icmp .ge 59, 3) := by decide +kernel
theorem dX9_sweetestOf_15 : decode cX9_sweetestOf 15 = .ok (.aload_n 0, 1) := by decide +kernel
theorem dX9_sweetestOf_16 : decode cX9_sweetestOf 16 = .ok (.getfield 18, 3) := by decide +kernel
theorem dX9_sweetestOf_19 : decode cX9_sweetestOf 19 = .ok (.iload_n 3, 1) := by decide +kernel
theorem dX9_sweetestOf_20 : decode cX9_sweetestOf 20 = .ok (.invokevirtual 172, 3) := by decide +kernel
theorem dX9_sweetestOf_23 : decode cX9_sweetestOf 23 = .ok (.checkcast 97, 3) := by decide +kernel
theorem dX9_sweetestOf_26 : decode cX9_sweetestOf 26 = .ok (.astore 4, 2) := by decide +kernel
theorem dX9_sweetestOf_28 : decode cX9_sweetestOf 28 = .ok (.aload 4, 2) := by decide +kernel
theorem dX9_sweetestOf_30 : decode cX9_sweetestOf 30 = .ok (.getfield 223, 3) := by decide +kernel
theorem dX9_sweetestOf_33 : decode cX9_sweetestOf 33 = .ok (.aload_n 1, 1) := by decide +kernel
theorem dX9_sweetestOf_34 : decode cX9_sweetestOf 34 = .ok (.if_acmp .ne 31, 3) := by decide +kernel
theorem dX9_sweetestOf_37 : decode cX9_sweetestOf 37 = .ok (.aload_n 0, 1) := by decide +kernel
theorem dX9_sweetestOf_38 : decode cX9_sweetestOf 38 = .ok (.aload 4, 2) := by decide +kernel
theorem dX9_sweetestOf_40 : decode cX9_sweetestOf 40 = .ok (.invokevirtual 274, 3) := by decide +kernel
theorem dX9_sweetestOf_43 : decode cX9_sweetestOf 43 = .ok (.ifCond .eq 22, 3) := by decide +kernel
theorem dX9_sweetestOf_46 : decode cX9_sweetestOf 46 = .ok (.aload_n 2, 1) := by decide +kernel
theorem dX9_sweetestOf_47 : decode cX9_sweetestOf 47 = .ok (.ifnull 15, 3) := by decide +kernel
theorem dX9_sweetestOf_50 : decode cX9_sweetestOf 50 = .ok (.aload 4, 2) := by decide +kernel
theorem dX9_sweetestOf_52 : decode cX9_sweetestOf 52 = .ok (.getfield 210, 3) := by decide +kernel
theorem dX9_sweetestOf_55 : decode cX9_sweetestOf 55 = .ok (.aload_n 2, 1) := by decide +kernel
theorem dX9_sweetestOf_56 : decode cX9_sweetestOf 56 = .ok (.getfield 210, 3) := by decide +kernel
theorem dX9_sweetestOf_59 : decode cX9_sweetestOf 59 = .ok (.if_icmp .le 6, 3) := by decide +kernel
theorem dX9_sweetestOf_62 : decode cX9_sweetestOf 62 = .ok (.aload 4, 2) := by decide +kernel
theorem dX9_sweetestOf_64 : decode cX9_sweetestOf 64 = .ok (.astore_n 2, 1) := by decide +kernel
theorem dX9_sweetestOf_65 : decode cX9_sweetestOf 65 = .ok (.iinc 3 1, 3) := by decide +kernel
theorem dX9_sweetestOf_68 : decode cX9_sweetestOf 68 = .ok (.goto (-64), 3) := by decide +kernel
theorem dX9_sweetestOf_71 : decode cX9_sweetestOf 71 = .ok (.aload_n 2, 1) := by decide +kernel
theorem dX9_sweetestOf_72 : decode cX9_sweetestOf 72 = .ok (.areturn, 1) := by decide +kernel
theorem dX9_wasteOfAll_0 : decode cX9_wasteOfAll 0 = .ok (.iconst 0, 1) := by decide +kernel
theorem dX9_wasteOfAll_1 : decode cX9_wasteOfAll 1 = .ok (.istore_n 1, 1) := by decide +kernel
theorem dX9_wasteOfAll_2 : decode cX9_wasteOfAll 2 = .ok (.iconst 0, 1) := by decide +kernel
theorem dX9_wasteOfAll_3 : decode cX9_wasteOfAll 3 = .ok (.istore_n 2, 1) := by decide +kernel
theorem dX9_wasteOfAll_4 : decode cX9_wasteOfAll 4 = .ok (.iload_n 2, 1) := by decide +kernel
theorem dX9_wasteOfAll_5 : decode cX9_wasteOfAll 5 = .ok (.aload_n 0, 1) := by decide +kernel
theorem dX9_wasteOfAll_6 : decode cX9_wasteOfAll 6 = .ok (.getfield 18, 3) := by decide +kernel
theorem dX9_wasteOfAll_9 : decode cX9_wasteOfAll 9 = .ok (.invokevirtual 93, 3) := by decide +kernel
theorem dX9_wasteOfAll_12 : decode cX9_wasteOfAll 12 = .ok (.if_icmp .ge 26, 3) := by decide +kernel
theorem dX9_wasteOfAll_15 : decode cX9_wasteOfAll 15 = .ok (.iload_n 1, 1) := by decide +kernel
theorem dX9_wasteOfAll_16 : decode cX9_wasteOfAll 16 = .ok (.aload_n 0, 1) := by decide +kernel
theorem dX9_wasteOfAll_17 : decode cX9_wasteOfAll 17 = .ok (.getfield 18, 3) := by decide +kernel
theorem dX9_wasteOfAll_20 : decode cX9_wasteOfAll 20 = .ok (.iload_n 2, 1) := by decide +kernel
theorem dX9_wasteOfAll_21 : decode cX9_wasteOfAll 21 = .ok (.invokevirtual 172, 3) := by decide +kernel
theorem dX9_wasteOfAll_24 : decode cX9_wasteOfAll 24 = .ok (.checkcast 97, 3) := by decide +kernel
theorem dX9_wasteOfAll_27 : decode cX9_wasteOfAll 27 = .ok (.getfield 216, 3) := by decide +kernel
theorem dX9_wasteOfAll_30 : decode cX9_wasteOfAll 30 = .ok (.iadd, 1) := by decide +kernel
theorem dX9_wasteOfAll_31 : decode cX9_wasteOfAll 31 = .ok (.istore_n 1, 1) := by decide +kernel
theorem dX9_wasteOfAll_32 : decode cX9_wasteOfAll 32 = .ok (.iinc 2 1, 3) := by decide +kernel
theorem dX9_wasteOfAll_35 : decode cX9_wasteOfAll 35 = .ok (.goto (-31), 3) := by decide +kernel
theorem dX9_wasteOfAll_38 : decode cX9_wasteOfAll 38 = .ok (.iload_n 1, 1) := by decide +kernel
theorem dX9_wasteOfAll_39 : decode cX9_wasteOfAll 39 = .ok (.ireturn, 1) := by decide +kernel
theorem dX9_spoiledOfAll_0 : decode cX9_spoiledOfAll 0 = .ok (.iconst 0, 1) := by decide +kernel
theorem dX9_spoiledOfAll_1 : decode cX9_spoiledOfAll 1 = .ok (.istore_n 1, 1) := by decide +kernel
theorem dX9_spoiledOfAll_2 : decode cX9_spoiledOfAll 2 = .ok (.iconst 0, 1) := by decide +kernel
theorem dX9_spoiledOfAll_3 : decode cX9_spoiledOfAll 3 = .ok (.istore_n 2, 1) := by decide +kernel
theorem dX9_spoiledOfAll_4 : decode cX9_spoiledOfAll 4 = .ok (.iload_n 2, 1) := by decide +kernel
theorem dX9_spoiledOfAll_5 : decode cX9_spoiledOfAll 5 = .ok (.aload_n 0, 1) := by decide +kernel
theorem dX9_spoiledOfAll_6 : decode cX9_spoiledOfAll 6 = .ok (.getfield 18, 3) := by decide +kernel
theorem dX9_spoiledOfAll_9 : decode cX9_spoiledOfAll 9 = .ok (.invokevirtual 93, 3) := by decide +kernel
theorem dX9_spoiledOfAll_12 : decode cX9_spoiledOfAll 12 = .ok (.if_icmp .ge 26, 3) := by decide +kernel
theorem dX9_spoiledOfAll_15 : decode cX9_spoiledOfAll 15 = .ok (.iload_n 1, 1) := by decide +kernel
theorem dX9_spoiledOfAll_16 : decode cX9_spoiledOfAll 16 = .ok (.aload_n 0, 1) := by decide +kernel
theorem dX9_spoiledOfAll_17 : decode cX9_spoiledOfAll 17 = .ok (.getfield 18, 3) := by decide +kernel
theorem dX9_spoiledOfAll_20 : decode cX9_spoiledOfAll 20 = .ok (.iload_n 2, 1) := by decide +kernel
theorem dX9_spoiledOfAll_21 : decode cX9_spoiledOfAll 21 = .ok (.invokevirtual 172, 3) := by decide +kernel
theorem dX9_spoiledOfAll_24 : decode cX9_spoiledOfAll 24 = .ok (.checkcast 97, 3) := by decide +kernel
theorem dX9_spoiledOfAll_27 : decode cX9_spoiledOfAll 27 = .ok (.getfield 219, 3) := by decide +kernel
theorem dX9_spoiledOfAll_30 : decode cX9_spoiledOfAll 30 = .ok (.iadd, 1) := by decide +kernel
theorem dX9_spoiledOfAll_31 : decode cX9_spoiledOfAll 31 = .ok (.istore_n 1, 1) := by decide +kernel
theorem dX9_spoiledOfAll_32 : decode cX9_spoiledOfAll 32 = .ok (.iinc 2 1, 3) := by decide +kernel
theorem dX9_spoiledOfAll_35 : decode cX9_spoiledOfAll 35 = .ok (.goto (-31), 3) := by decide +kernel
theorem dX9_spoiledOfAll_38 : decode cX9_spoiledOfAll 38 = .ok (.iload_n 1, 1) := by decide +kernel
theorem dX9_spoiledOfAll_39 : decode cX9_spoiledOfAll 39 = .ok (.ireturn, 1) := by decide +kernel
theorem dX9_passHour_0 : decode cX9_passHour 0 = .ok (.aload_n 0, 1) := by decide +kernel
theorem dX9_passHour_1 : decode cX9_passHour 1 = .ok (.dup, 1) := by decide +kernel
theorem dX9_passHour_2 : decode cX9_passHour 2 = .ok (.getfield 70, 3) := by decide +kernel
theorem dX9_passHour_5 : decode cX9_passHour 5 = .ok (.iconst 1, 1) := by decide +kernel
theorem dX9_passHour_6 : decode cX9_passHour 6 = .ok (.iadd, 1) := by decide +kernel
theorem dX9_passHour_7 : decode cX9_passHour 7 = .ok (.putfield 70, 3) := by decide +kernel
theorem dX9_passHour_10 : decode cX9_passHour 10 = .ok (.aload_n 0, 1) := by decide +kernel
theorem dX9_passHour_11 : decode cX9_passHour 11 = .ok (.getfield 66, 3) := by decide +kernel
theorem dX9_passHour_14 : decode cX9_passHour 14 = .ok (.ifCond .ne 7, 3) := by decide +kernel
theorem dX9_passHour_17 : decode cX9_passHour 17 = .ok (.aload_n 0, 1) := by decide +kernel
theorem dX9_passHour_18 : decode cX9_passHour 18 = .ok (.invokevirtual 281, 3) := by decide +kernel
theorem dX9_passHour_21 : decode cX9_passHour 21 = .ok (.iconst 0, 1) := by decide +kernel
theorem dX9_passHour_22 : decode cX9_passHour 22 = .ok (.istore_n 1, 1) := by decide +kernel
theorem dX9_passHour_23 : decode cX9_passHour 23 = .ok (.iload_n 1, 1) := by decide +kernel
theorem dX9_passHour_24 : decode cX9_passHour 24 = .ok (.aload_n 0, 1) := by decide +kernel
theorem dX9_passHour_25 : decode cX9_passHour 25 = .ok (.getfield 28, 3) := by decide +kernel
theorem dX9_passHour_28 : decode cX9_passHour 28 = .ok (.invokevirtual 93, 3) := by decide +kernel
theorem dX9_passHour_31 : decode cX9_passHour 31 = .ok (.if_icmp .ge 27, 3) := by decide +kernel
theorem dX9_passHour_34 : decode cX9_passHour 34 = .ok (.aload_n 0, 1) := by decide +kernel
theorem dX9_passHour_35 : decode cX9_passHour 35 = .ok (.getfield 28, 3) := by decide +kernel
theorem dX9_passHour_38 : decode cX9_passHour 38 = .ok (.iload_n 1, 1) := by decide +kernel
theorem dX9_passHour_39 : decode cX9_passHour 39 = .ok (.invokevirtual 172, 3) := by decide +kernel
theorem dX9_passHour_42 : decode cX9_passHour 42 = .ok (.checkcast 117, 3) := by decide +kernel
theorem dX9_passHour_45 : decode cX9_passHour 45 = .ok (.aload_n 0, 1) := by decide +kernel
theorem dX9_passHour_46 : decode cX9_passHour 46 = .ok (.getfield 70, 3) := by decide +kernel
theorem dX9_passHour_49 : decode cX9_passHour 49 = .ok (.invokevirtual 284, 3) := by decide +kernel
theorem dX9_passHour_52 : decode cX9_passHour 52 = .ok (.iinc 1 1, 3) := by decide +kernel
theorem dX9_passHour_55 : decode cX9_passHour 55 = .ok (.goto (-32), 3) := by decide +kernel
theorem dX9_passHour_58 : decode cX9_passHour 58 = .ok (.aload_n 0, 1) := by decide +kernel
theorem dX9_passHour_59 : decode cX9_passHour 59 = .ok (.invokevirtual 287, 3) := by decide +kernel
theorem dX9_passHour_62 : decode cX9_passHour 62 = .ok (.aload_n 0, 1) := by decide +kernel
theorem dX9_passHour_63 : decode cX9_passHour 63 = .ok (.getfield 48, 3) := by decide +kernel
theorem dX9_passHour_66 : decode cX9_passHour 66 = .ok (.aload_n 0, 1) := by decide +kernel
theorem dX9_passHour_67 : decode cX9_passHour 67 = .ok (.getfield 41, 3) := by decide +kernel
theorem dX9_passHour_70 : decode cX9_passHour 70 = .ok (.invokevirtual 290, 3) := by decide +kernel
theorem dX9_passHour_73 : decode cX9_passHour 73 = .ok (.aload_n 0, 1) := by decide +kernel
theorem dX9_passHour_74 : decode cX9_passHour 74 = .ok (.getfield 70, 3) := by decide +kernel
theorem dX9_passHour_77 : decode cX9_passHour 77 = .ok (.bipush 24, 2) := by decide +kernel
theorem dX9_passHour_79 : decode cX9_passHour 79 = .ok (.irem, 1) := by decide +kernel
theorem dX9_passHour_80 : decode cX9_passHour 80 = .ok (.ifCond .ne 7, 3) := by decide +kernel
theorem dX9_passHour_83 : decode cX9_passHour 83 = .ok (.aload_n 0, 1) := by decide +kernel
theorem dX9_passHour_84 : decode cX9_passHour 84 = .ok (.invokevirtual 294, 3) := by decide +kernel
theorem dX9_passHour_87 : decode cX9_passHour 87 = .ok (.iconst 0, 1) := by decide +kernel
theorem dX9_passHour_88 : decode cX9_passHour 88 = .ok (.istore_n 1, 1) := by decide +kernel
theorem dX9_passHour_89 : decode cX9_passHour 89 = .ok (.iload_n 1, 1) := by decide +kernel
theorem dX9_passHour_90 : decode cX9_passHour 90 = .ok (.aload_n 0, 1) := by decide +kernel
theorem dX9_passHour_91 : decode cX9_passHour 91 = .ok (.getfield 18, 3) := by decide +kernel
theorem dX9_passHour_94 : decode cX9_passHour 94 = .ok (.invokevirtual 93, 3) := by decide +kernel
theorem dX9_passHour_97 : decode cX9_passHour 97 = .ok (.if_icmp .ge 27, 3) := by decide +kernel
theorem dX9_passHour_100 : decode cX9_passHour 100 = .ok (.aload_n 0, 1) := by decide +kernel
theorem dX9_passHour_101 : decode cX9_passHour 101 = .ok (.getfield 18, 3) := by decide +kernel
theorem dX9_passHour_104 : decode cX9_passHour 104 = .ok (.iload_n 1, 1) := by decide +kernel
theorem dX9_passHour_105 : decode cX9_passHour 105 = .ok (.invokevirtual 172, 3) := by decide +kernel
theorem dX9_passHour_108 : decode cX9_passHour 108 = .ok (.checkcast 97, 3) := by decide +kernel
theorem dX9_passHour_111 : decode cX9_passHour 111 = .ok (.aload_n 0, 1) := by decide +kernel
theorem dX9_passHour_112 : decode cX9_passHour 112 = .ok (.getfield 70, 3) := by decide +kernel
theorem dX9_passHour_115 : decode cX9_passHour 115 = .ok (.invokevirtual 297, 3) := by decide +kernel
theorem dX9_passHour_118 : decode cX9_passHour 118 = .ok (.iinc 1 1, 3) := by decide +kernel
theorem dX9_passHour_121 : decode cX9_passHour 121 = .ok (.goto (-32), 3) := by decide +kernel
theorem dX9_passHour_124 : decode cX9_passHour 124 = .ok (.return_, 1) := by decide +kernel
theorem dX9_liftRoots_0 : decode cX9_liftRoots 0 = .ok (.iconst 0, 1) := by decide +kernel
theorem dX9_liftRoots_1 : decode cX9_liftRoots 1 = .ok (.istore_n 1, 1) := by decide +kernel
theorem dX9_liftRoots_2 : decode cX9_liftRoots 2 = .ok (.iload_n 1, 1) := by decide +kernel
theorem dX9_liftRoots_3 : decode cX9_liftRoots 3 = .ok (.iconst 4, 1) := by decide +kernel
theorem dX9_liftRoots_4 : decode cX9_liftRoots 4 = .ok (.if_icmp .ge 36, 3) := by decide +kernel
theorem dX9_liftRoots_7 : decode cX9_liftRoots 7 = .ok (.aload_n 0, 1) := by decide +kernel
theorem dX9_liftRoots_8 : decode cX9_liftRoots 8 = .ok (.getfield 24, 3) := by decide +kernel
theorem dX9_liftRoots_11 : decode cX9_liftRoots 11 = .ok (.iload_n 1, 1) := by decide +kernel
theorem dX9_liftRoots_12 : decode cX9_liftRoots 12 = .ok (.aaload, 1) := by decide +kernel
theorem dX9_liftRoots_13 : decode cX9_liftRoots 13 = .ok (.getfield 113, 3) := by decide +kernel
theorem dX9_liftRoots_16 : decode cX9_liftRoots 16 = .ok (.astore_n 2, 1) := by decide +kernel
theorem dX9_liftRoots_17 : decode cX9_liftRoots 17 = .ok (.aload_n 2, 1) := by decide +kernel
theorem dX9_liftRoots_18 : decode cX9_liftRoots 18 = .ok (.ifnull 16, 3) := by decide +kernel
theorem dX9_liftRoots_21 : decode cX9_liftRoots 21 = .ok (.aload_n 2, 1) := by decide +kernel
theorem dX9_liftRoots_22 : decode cX9_liftRoots 22 = .ok (.aload_n 0, 1) := by decide +kernel
theorem dX9_liftRoots_23 : decode cX9_liftRoots 23 = .ok (.getfield 24, 3) := by decide +kernel
theorem dX9_liftRoots_26 : decode cX9_liftRoots 26 = .ok (.iload_n 1, 1) := by decide +kernel
theorem dX9_liftRoots_27 : decode cX9_liftRoots 27 = .ok (.aaload, 1) := by decide +kernel
theorem dX9_liftRoots_28 : decode cX9_liftRoots 28 = .ok (.getfield 110, 3) := by decide +kernel
theorem dX9_liftRoots_31 : decode cX9_liftRoots 31 = .ok (.invokevirtual 300, 3) := by decide +kernel
theorem dX9_liftRoots_34 : decode cX9_liftRoots 34 = .ok (.iinc 1 1, 3) := by decide +kernel
theorem dX9_liftRoots_37 : decode cX9_liftRoots 37 = .ok (.goto (-35), 3) := by decide +kernel
theorem dX9_liftRoots_40 : decode cX9_liftRoots 40 = .ok (.return_, 1) := by decide +kernel
theorem dX9_unloadLorries_0 : decode cX9_unloadLorries 0 = .ok (.iconst 0, 1) := by decide +kernel
theorem dX9_unloadLorries_1 : decode cX9_unloadLorries 1 = .ok (.istore_n 1, 1) := by decide +kernel
theorem dX9_unloadLorries_2 : decode cX9_unloadLorries 2 = .ok (.iconst 0, 1) := by decide +kernel
theorem dX9_unloadLorries_3 : decode cX9_unloadLorries 3 = .ok (.istore_n 2, 1) := by decide +kernel
theorem dX9_unloadLorries_4 : decode cX9_unloadLorries 4 = .ok (.iload_n 2, 1) := by decide +kernel
theorem dX9_unloadLorries_5 : decode cX9_unloadLorries 5 = .ok (.aload_n 0, 1) := by decide +kernel
theorem dX9_unloadLorries_6 : decode cX9_unloadLorries 6 = .ok (.getfield 28, 3) := by decide +kernel
theorem dX9_unloadLorries_9 : decode cX9_unloadLorries 9 = .ok (.invokevirtual 93, 3) := by decide +kernel
theorem dX9_unloadLorries_12 : decode cX9_unloadLorries 12 = .ok (.if_icmp .ge 78, 3) := by decide +kernel
theorem dX9_unloadLorries_15 : decode cX9_unloadLorries 15 = .ok (.aload_n 0, 1) := by decide +kernel
theorem dX9_unloadLorries_16 : decode cX9_unloadLorries 16 = .ok (.getfield 28, 3) := by decide +kernel
theorem dX9_unloadLorries_19 : decode cX9_unloadLorries 19 = .ok (.iload_n 2, 1) := by decide +kernel
theorem dX9_unloadLorries_20 : decode cX9_unloadLorries 20 = .ok (.invokevirtual 172, 3) := by decide +kernel
theorem dX9_unloadLorries_23 : decode cX9_unloadLorries 23 = .ok (.checkcast 117, 3) := by decide +kernel
theorem dX9_unloadLorries_26 : decode cX9_unloadLorries 26 = .ok (.astore_n 3, 1) := by decide +kernel
theorem dX9_unloadLorries_27 : decode cX9_unloadLorries 27 = .ok (.aload_n 3, 1) := by decide +kernel
theorem dX9_unloadLorries_28 : decode cX9_unloadLorries 28 = .ok (.getfield 124, 3) := by decide +kernel
theorem dX9_unloadLorries_31 : decode cX9_unloadLorries 31 = .ok (.iconst 3, 1) := by decide +kernel
theorem dX9_unloadLorries_32 : decode cX9_unloadLorries 32 = .ok (.if_icmp .eq 6, 3) := by decide +kernel
theorem dX9_unloadLorries_35 : decode cX9_unloadLorries 35 = .ok (.goto 49, 3) := by decide +kernel
theorem dX9_unloadLorries_38 : decode cX9_unloadLorries 38 = .ok (.iload_n 1, 1) := by decide +kernel
theorem dX9_unloadLorries_39 : decode cX9_unloadLorries 39 = .ok (.ifCond .ne 17, 3) := by decide +kernel
theorem dX9_unloadLorries_42 : decode cX9_unloadLorries 42 = .ok (.aload_n 0, 1) := by decide +kernel
theorem dX9_unloadLorries_43 : decode cX9_unloadLorries 43 = .ok (.getfield 41, 3) := by decide +kernel
theorem dX9_unloadLorries_46 : decode cX9_unloadLorries 46 = .ok (.aload_n 3, 1) := by decide +kernel
theorem dX9_unloadLorries_47 : decode cX9_unloadLorries 47 = .ok (.getfield 232, 3) := by decide +kernel
theorem dX9_unloadLorries_50 : decode cX9_unloadLorries 50 = .ok (.invokevirtual 303, 3) := by decide +kernel
theorem dX9_unloadLorries_53 : decode cX9_unloadLorries 53 = .ok (.ifCond .ne 7, 3) := by decide +kernel
theorem dX9_unloadLorries_56 : decode cX9_unloadLorries 56 = .ok (.iconst 1, 1) := by decide +kernel
theorem dX9_unloadLorries_57 : decode cX9_unloadLorries 57 = .ok (.goto 4, 3) := by decide +kernel
theorem dX9_unloadLorries_60 : decode cX9_unloadLorries 60 = .ok (.iconst 0, 1) := by decide +kernel
theorem dX9_unloadLorries_61 : decode cX9_unloadLorries 61 = .ok (.istore_n 1, 1) := by decide +kernel
theorem dX9_unloadLorries_62 : decode cX9_unloadLorries 62 = .ok (.iload_n 1, 1) := by decide +kernel
theorem dX9_unloadLorries_63 : decode cX9_unloadLorries 63 = .ok (.ifCond .eq 16, 3) := by decide +kernel
theorem dX9_unloadLorries_66 : decode cX9_unloadLorries 66 = .ok (.aload_n 3, 1) := by decide +kernel
theorem dX9_unloadLorries_67 : decode cX9_unloadLorries 67 = .ok (.dup, 1) := by decide +kernel
theorem dX9_unloadLorries_68 : decode cX9_unloadLorries 68 = .ok (.getfield 234, 3) := by decide +kernel
theorem dX9_unloadLorries_71 : decode cX9_unloadLorries 71 = .ok (.iconst 1, 1) := by decide +kernel
theorem dX9_unloadLorries_72 : decode cX9_unloadLorries 72 = .ok (.iadd, 1) := by decide +kernel
theorem dX9_unloadLorries_73 : decode cX9_unloadLorries 73 = .ok (.putfield 234, 3) := by decide +kernel
theorem dX9_unloadLorries_76 : decode cX9_unloadLorries 76 = .ok (.goto 8, 3) := by decide +kernel
theorem dX9_unloadLorries_79 : decode cX9_unloadLorries 79 = .ok (.aload_n 0, 1) := by decide +kernel
theorem dX9_unloadLorries_80 : decode cX9_unloadLorries 80 = .ok (.aload_n 3, 1) := by decide +kernel
theorem dX9_unloadLorries_81 : decode cX9_unloadLorries 81 = .ok (.invokevirtual 306, 3) := by decide +kernel
theorem dX9_unloadLorries_84 : decode cX9_unloadLorries 84 = .ok (.iinc 2 1, 3) := by decide +kernel
theorem dX9_unloadLorries_87 : decode cX9_unloadLorries 87 = .ok (.goto (-83), 3) := by decide +kernel
theorem dX9_unloadLorries_90 : decode cX9_unloadLorries 90 = .ok (.return_, 1) := by decide +kernel
theorem dX9_unloadOne_0 : decode cX9_unloadOne 0 = .ok (.aload_n 1, 1) := by decide +kernel
theorem dX9_unloadOne_1 : decode cX9_unloadOne 1 = .ok (.getfield 232, 3) := by decide +kernel
theorem dX9_unloadOne_4 : decode cX9_unloadOne 4 = .ok (.ifCond .le 53, 3) := by decide +kernel
theorem dX9_unloadOne_7 : decode cX9_unloadOne 7 = .ok (.aload_n 1, 1) := by decide +kernel
theorem dX9_unloadOne_8 : decode cX9_unloadOne 8 = .ok (.getfield 231, 3) := by decide +kernel
theorem dX9_unloadOne_11 : decode cX9_unloadOne 11 = .ok (.ifnull 46, 3) := by decide +kernel
theorem dX9_unloadOne_14 : decode cX9_unloadOne 14 = .ok (.new 243, 3) := by decide +kernel
theorem dX9_unloadOne_17 : decode cX9_unloadOne 17 = .ok (.dup, 1) := by decide +kernel
theorem dX9_unloadOne_18 : decode cX9_unloadOne 18 = .ok (.aload_n 1, 1) := by decide +kernel
theorem dX9_unloadOne_19 : decode cX9_unloadOne 19 = .ok (.getfield 231, 3) := by decide +kernel
theorem dX9_unloadOne_22 : decode cX9_unloadOne 22 = .ok (.aload_n 1, 1) := by decide +kernel
theorem dX9_unloadOne_23 : decode cX9_unloadOne 23 = .ok (.getfield 232, 3) := by decide +kernel
theorem dX9_unloadOne_26 : decode cX9_unloadOne 26 = .ok (.aload_n 1, 1) := by decide +kernel
theorem dX9_unloadOne_27 : decode cX9_unloadOne 27 = .ok (.getfield 233, 3) := by decide +kernel
theorem dX9_unloadOne_30 : decode cX9_unloadOne 30 = .ok (.invokespecial 310, 3) := by decide +kernel
theorem dX9_unloadOne_33 : decode cX9_unloadOne 33 = .ok (.astore_n 2, 1) := by decide +kernel
theorem dX9_unloadOne_34 : decode cX9_unloadOne 34 = .ok (.aload_n 0, 1) := by decide +kernel
theorem dX9_unloadOne_35 : decode cX9_unloadOne 35 = .ok (.getfield 41, 3) := by decide +kernel
theorem dX9_unloadOne_38 : decode cX9_unloadOne 38 = .ok (.aload_n 2, 1) := by decide +kernel
theorem dX9_unloadOne_39 : decode cX9_unloadOne 39 = .ok (.invokevirtual 313, 3) := by decide +kernel
theorem dX9_unloadOne_42 : decode cX9_unloadOne 42 = .ok (.aload_n 0, 1) := by decide +kernel
theorem dX9_unloadOne_43 : decode cX9_unloadOne 43 = .ok (.aload_n 2, 1) := by decide +kernel
theorem dX9_unloadOne_44 : decode cX9_unloadOne 44 = .ok (.invokevirtual 317, 3) := by decide +kernel
theorem dX9_unloadOne_47 : decode cX9_unloadOne 47 = .ok (.aload_n 1, 1) := by decide +kernel
theorem dX9_unloadOne_48 : decode cX9_unloadOne 48 = .ok (.dup, 1) := by decide +kernel
theorem dX9_unloadOne_49 : decode cX9_unloadOne 49 = .ok (.getfield 237, 3) := by decide +kernel
theorem dX9_unloadOne_52 : decode cX9_unloadOne 52 = .ok (.iconst 1, 1) := by decide +kernel
theorem dX9_unloadOne_53 : decode cX9_unloadOne 53 = .ok (.iadd, 1) := by decide +kernel
theorem dX9_unloadOne_54 : decode cX9_unloadOne 54 = .ok (.putfield 237, 3) := by decide +kernel
theorem dX9_unloadOne_57 : decode cX9_unloadOne 57 = .ok (.aload_n 1, 1) := by decide +kernel
theorem dX9_unloadOne_58 : decode cX9_unloadOne 58 = .ok (.invokevirtual 320, 3) := by decide +kernel
theorem dX9_unloadOne_61 : decode cX9_unloadOne 61 = .ok (.return_, 1) := by decide +kernel
theorem dX9_pay_0 : decode cX9_pay 0 = .ok (.aload_n 1, 1) := by decide +kernel
theorem dX9_pay_1 : decode cX9_pay 1 = .ok (.getfield 246, 3) := by decide +kernel
theorem dX9_pay_4 : decode cX9_pay 4 = .ok (.iconst 1, 1) := by decide +kernel
theorem dX9_pay_5 : decode cX9_pay 5 = .ok (.if_icmp .ge 4, 3) := by decide +kernel
theorem dX9_pay_8 : decode cX9_pay 8 = .ok (.return_, 1) := by decide +kernel
theorem dX9_pay_9 : decode cX9_pay 9 = .ok (.aload_n 1, 1) := by decide +kernel
theorem dX9_pay_10 : decode cX9_pay 10 = .ok (.getfield 247, 3) := by decide +kernel
theorem dX9_pay_13 : decode cX9_pay 13 = .ok (.aload_n 1, 1) := by decide +kernel
theorem dX9_pay_14 : decode cX9_pay 14 = .ok (.getfield 246, 3) := by decide +kernel
theorem dX9_pay_17 : decode cX9_pay 17 = .ok (.idiv, 1) := by decide +kernel
theorem dX9_pay_18 : decode cX9_pay 18 = .ok (.bipush 25, 2) := by decide +kernel
theorem dX9_pay_20 : decode cX9_pay 20 = .ok (.idiv, 1) := by decide +kernel
theorem dX9_pay_21 : decode cX9_pay 21 = .ok (.bipush 9, 2) := by decide +kernel
theorem dX9_pay_23 : decode cX9_pay 23 = .ok (.invokestatic 323, 3) := by decide +kernel
theorem dX9_pay_26 : decode cX9_pay 26 = .ok (.istore_n 2, 1) := by decide +kernel
theorem dX9_pay_27 : decode cX9_pay 27 = .ok (.iload_n 2, 1) := by decide +kernel
theorem dX9_pay_28 : decode cX9_pay 28 = .ok (.ifCond .lt 29, 3) := by decide +kernel
theorem dX9_pay_31 : decode cX9_pay 31 = .ok (.aload_n 1, 1) := by decide +kernel
theorem dX9_pay_32 : decode cX9_pay 32 = .ok (.getfield 245, 3) := by decide +kernel
theorem dX9_pay_35 : decode cX9_pay 35 = .ok (.getfield 223, 3) := by decide +kernel
theorem dX9_pay_38 : decode cX9_pay 38 = .ok (.dup, 1) := by decide +kernel
theorem dX9_pay_39 : decode cX9_pay 39 = .ok (.getfield 248, 3) := by decide +kernel
theorem dX9_pay_42 : decode cX9_pay 42 = .ok (.aload_n 1, 1) := by decide +kernel
theorem dX9_pay_43 : decode cX9_pay 43 = .ok (.getfield 246, 3) := by decide +kernel
theorem dX9_pay_46 : decode cX9_pay 46 = .ok (.aload_n 0, 1) := by decide +kernel
theorem dX9_pay_47 : decode cX9_pay 47 = .ok (.getfield 59, 3) := by decide +kernel
theorem dX9_pay_50 : decode cX9_pay 50 = .ok (.iload_n 2, 1) := by decide +kernel
theorem dX9_pay_51 : decode cX9_pay 51 = .ok (.iaload, 1) := by decide +kernel
theorem dX9_pay_52 : decode cX9_pay 52 = .ok (.imul, 1) := by decide +kernel
theorem dX9_pay_53 : decode cX9_pay 53 = .ok (.iadd, 1) := by decide +kernel
theorem dX9_pay_54 : decode cX9_pay 54 = .ok (.putfield 248, 3) := by decide +kernel
theorem dX9_pay_57 : decode cX9_pay 57 = .ok (.return_, 1) := by decide +kernel
theorem dX9_wasteHeaps_0 : decode cX9_wasteHeaps 0 = .ok (.aload_n 0, 1) := by decide +kernel
theorem dX9_wasteHeaps_1 : decode cX9_wasteHeaps 1 = .ok (.getfield 34, 3) := by decide +kernel
theorem dX9_wasteHeaps_4 : decode cX9_wasteHeaps 4 = .ok (.aload_n 0, 1) := by decide +kernel
theorem dX9_wasteHeaps_5 : decode cX9_wasteHeaps 5 = .ok (.getfield 70, 3) := by decide +kernel
theorem dX9_wasteHeaps_8 : decode cX9_wasteHeaps 8 = .ok (.bipush 24, 2) := by decide +kernel
theorem dX9_wasteHeaps_10 : decode cX9_wasteHeaps 10 = .ok (.idiv, 1) := by decide +kernel
theorem dX9_wasteHeaps_11 : decode cX9_wasteHeaps 11 = .ok (.iconst 1, 1) := by decide +kernel
theorem dX9_wasteHeaps_12 : decode cX9_wasteHeaps 12 = .ok (.isub, 1) := by decide +kernel
theorem dX9_wasteHeaps_13 : decode cX9_wasteHeaps 13 = .ok (.invokevirtual 329, 3) := by decide +kernel
theorem dX9_wasteHeaps_16 : decode cX9_wasteHeaps 16 = .ok (.istore_n 1, 1) := by decide +kernel
theorem dX9_wasteHeaps_17 : decode cX9_wasteHeaps 17 = .ok (.iconst 0, 1) := by decide +kernel
theorem dX9_wasteHeaps_18 : decode cX9_wasteHeaps 18 = .ok (.istore_n 2, 1) := by decide +kernel
theorem dX9_wasteHeaps_19 : decode cX9_wasteHeaps 19 = .ok (.iload_n 2, 1) := by decide +kernel
theorem dX9_wasteHeaps_20 : decode cX9_wasteHeaps 20 = .ok (.aload_n 0, 1) := by decide +kernel
theorem dX9_wasteHeaps_21 : decode cX9_wasteHeaps 21 = .ok (.getfield 18, 3) := by decide +kernel
theorem dX9_wasteHeaps_24 : decode cX9_wasteHeaps 24 = .ok (.invokevirtual 93, 3) := by decide +kernel
theorem dX9_wasteHeaps_27 : decode cX9_wasteHeaps 27 = .ok (.if_icmp .ge 24, 3) := by decide +kernel
theorem dX9_wasteHeaps_30 : decode cX9_wasteHeaps 30 = .ok (.aload_n 0, 1) := by decide +kernel
theorem dX9_wasteHeaps_31 : decode cX9_wasteHeaps 31 = .ok (.getfield 18, 3) := by decide +kernel
theorem dX9_wasteHeaps_34 : decode cX9_wasteHeaps 34 = .ok (.iload_n 2, 1) := by decide +kernel
theorem dX9_wasteHeaps_35 : decode cX9_wasteHeaps 35 = .ok (.invokevirtual 172, 3) := by decide +kernel
theorem dX9_wasteHeaps_38 : decode cX9_wasteHeaps 38 = .ok (.checkcast 97, 3) := by decide +kernel
theorem dX9_wasteHeaps_41 : decode cX9_wasteHeaps 41 = .ok (.iload_n 1, 1) := by decide +kernel
theorem dX9_wasteHeaps_42 : decode cX9_wasteHeaps 42 = .ok (.invokevirtual 332, 3) := by decide +kernel
theorem dX9_wasteHeaps_45 : decode cX9_wasteHeaps 45 = .ok (.iinc 2 1, 3) := by decide +kernel
theorem dX9_wasteHeaps_48 : decode cX9_wasteHeaps 48 = .ok (.goto (-29), 3) := by decide +kernel
theorem dX9_wasteHeaps_51 : decode cX9_wasteHeaps 51 = .ok (.return_, 1) := by decide +kernel
theorem dX9_findOrder_0 : decode cX9_findOrder 0 = .ok (.aload_n 0, 1) := by decide +kernel
theorem dX9_findOrder_1 : decode cX9_findOrder 1 = .ok (.getfield 55, 3) := by decide +kernel
theorem dX9_findOrder_4 : decode cX9_findOrder 4 = .ok (.aload_n 0, 1) := by decide +kernel
theorem dX9_findOrder_5 : decode cX9_findOrder 5 = .ok (.getfield 70, 3) := by decide +kernel
theorem dX9_findOrder_8 : decode cX9_findOrder 8 = .ok (.invokevirtual 335, 3) := by decide +kernel
theorem dX9_findOrder_11 : decode cX9_findOrder 11 = .ok (.aload_n 0, 1) := by decide +kernel
theorem dX9_findOrder_12 : decode cX9_findOrder 12 = .ok (.getfield 48, 3) := by decide +kernel
theorem dX9_findOrder_15 : decode cX9_findOrder 15 = .ok (.getfield 152, 3) := by decide +kernel
theorem dX9_findOrder_18 : decode cX9_findOrder 18 = .ok (.ifCond .ne 5, 3) := by decide +kernel
theorem dX9_findOrder_21 : decode cX9_findOrder 21 = .ok (.iconst 0, 1) := by decide +kernel
theorem dX9_findOrder_22 : decode cX9_findOrder 22 = .ok (.ireturn, 1) := by decide +kernel
theorem dX9_findOrder_23 : decode cX9_findOrder 23 = .ok (.iconst 0, 1) := by decide +kernel
theorem dX9_findOrder_24 : decode cX9_findOrder 24 = .ok (.istore_n 1, 1) := by decide +kernel
theorem dX9_findOrder_25 : decode cX9_findOrder 25 = .ok (.iload_n 1, 1) := by decide +kernel
theorem dX9_findOrder_26 : decode cX9_findOrder 26 = .ok (.aload_n 0, 1) := by decide +kernel
theorem dX9_findOrder_27 : decode cX9_findOrder 27 = .ok (.getfield 18, 3) := by decide +kernel
theorem dX9_findOrder_30 : decode cX9_findOrder 30 = .ok (.invokevirtual 93, 3) := by decide +kernel
theorem dX9_findOrder_33 : decode cX9_findOrder 33 = .ok (.if_icmp .ge 52, 3) := by decide +kernel
theorem dX9_findOrder_36 : decode cX9_findOrder 36 = .ok (.aload_n 0, 1) := by decide +kernel
theorem dX9_findOrder_37 : decode cX9_findOrder 37 = .ok (.getfield 18, 3) := by decide +kernel
theorem dX9_findOrder_40 : decode cX9_findOrder 40 = .ok (.iload_n 1, 1) := by decide +kernel
theorem dX9_findOrder_41 : decode cX9_findOrder 41 = .ok (.invokevirtual 172, 3) := by decide +kernel
theorem dX9_findOrder_44 : decode cX9_findOrder 44 = .ok (.checkcast 97, 3) := by decide +kernel
theorem dX9_findOrder_47 : decode cX9_findOrder 47 = .ok (.astore_n 2, 1) := by decide +kernel
theorem dX9_findOrder_48 : decode cX9_findOrder 48 = .ok (.aload_n 2, 1) := by decide +kernel
theorem dX9_findOrder_49 : decode cX9_findOrder 49 = .ok (.getfield 163, 3) := by decide +kernel
theorem dX9_findOrder_52 : decode cX9_findOrder 52 = .ok (.ifCond .le 27, 3) := by decide +kernel
theorem dX9_findOrder_55 : decode cX9_findOrder 55 = .ok (.aload_n 0, 1) := by decide +kernel
theorem dX9_findOrder_56 : decode cX9_findOrder 56 = .ok (.getfield 55, 3) := by decide +kernel
theorem dX9_findOrder_59 : decode cX9_findOrder 59 = .ok (.aload_n 2, 1) := by decide +kernel
theorem dX9_findOrder_60 : decode cX9_findOrder 60 = .ok (.aload_n 0, 1) := by decide +kernel
theorem dX9_findOrder_61 : decode cX9_findOrder 61 = .ok (.getfield 48, 3) := by decide +kernel
theorem dX9_findOrder_64 : decode cX9_findOrder 64 = .ok (.getfield 152, 3) := by decide +kernel
theorem dX9_findOrder_67 : decode cX9_findOrder 67 = .ok (.aload_n 0, 1) := by decide +kernel
theorem dX9_findOrder_68 : decode cX9_findOrder 68 = .ok (.getfield 34, 3) := by decide +kernel
theorem dX9_findOrder_71 : decode cX9_findOrder 71 = .ok (.invokevirtual 338, 3) := by decide +kernel
theorem dX9_findOrder_74 : decode cX9_findOrder 74 = .ok (.ifCond .ne 5, 3) := by decide +kernel
theorem dX9_findOrder_77 : decode cX9_findOrder 77 = .ok (.iconst 0, 1) := by decide +kernel
theorem dX9_findOrder_78 : decode cX9_findOrder 78 = .ok (.ireturn, 1) := by decide +kernel
theorem dX9_findOrder_79 : decode cX9_findOrder 79 = .ok (.iinc 1 1, 3) := by decide +kernel
theorem dX9_findOrder_82 : decode cX9_findOrder 82 = .ok (.goto (-57), 3) := by decide +kernel
theorem dX9_findOrder_85 : decode cX9_findOrder 85 = .ok (.aload_n 0, 1) := by decide +kernel
theorem dX9_findOrder_86 : decode cX9_findOrder 86 = .ok (.getfield 55, 3) := by decide +kernel
theorem dX9_findOrder_89 : decode cX9_findOrder 89 = .ok (.invokevirtual 341, 3) := by decide +kernel
theorem dX9_findOrder_92 : decode cX9_findOrder 92 = .ok (.iconst 1, 1) := by decide +kernel
theorem dX9_findOrder_93 : decode cX9_findOrder 93 = .ok (.ireturn, 1) := by decide +kernel
theorem dX10_init_0 : decode cX10_init 0 = .ok (.aload_n 0, 1) := by decide +kernel
theorem dX10_init_1 : decode cX10_init 1 = .ok (.invokespecial 1, 3) := by decide +kernel
theorem dX10_init_4 : decode cX10_init 4 = .ok (.aload_n 0, 1) := by decide +kernel
theorem dX10_init_5 : decode cX10_init 5 = .ok (.bipush 7, 2) := by decide +kernel
theorem dX10_init_7 : decode cX10_init 7 = .ok (.newarray .int, 2) := by decide +kernel
theorem dX10_init_9 : decode cX10_init 9 = .ok (.putfield 7, 3) := by decide +kernel
theorem dX10_init_12 : decode cX10_init 12 = .ok (.aload_n 0, 1) := by decide +kernel
theorem dX10_init_13 : decode cX10_init 13 = .ok (.bipush 6, 2) := by decide +kernel
theorem dX10_init_15 : decode cX10_init 15 = .ok (.newarray .int, 2) := by decide +kernel
theorem dX10_init_17 : decode cX10_init 17 = .ok (.putfield 13, 3) := by decide +kernel
theorem dX10_init_20 : decode cX10_init 20 = .ok (.aload_n 0, 1) := by decide +kernel
theorem dX10_init_21 : decode cX10_init 21 = .ok (.bipush 6, 2) := by decide +kernel
theorem dX10_init_23 : decode cX10_init 23 = .ok (.newarray .int, 2) := by decide +kernel
theorem dX10_init_25 : decode cX10_init 25 = .ok (.putfield 16, 3) := by decide +kernel
theorem dX10_init_28 : decode cX10_init 28 = .ok (.aload_n 0, 1) := by decide +kernel
theorem dX10_init_29 : decode cX10_init 29 = .ok (.bipush 100, 2) := by decide +kernel
theorem dX10_init_31 : decode cX10_init 31 = .ok (.newarray .int, 2) := by decide +kernel
theorem dX10_init_33 : decode cX10_init 33 = .ok (.putfield 19, 3) := by decide +kernel
theorem dX10_init_36 : decode cX10_init 36 = .ok (.aload_n 0, 1) := by decide +kernel
theorem dX10_init_37 : decode cX10_init 37 = .ok (.bipush 10, 2) := by decide +kernel
theorem dX10_init_39 : decode cX10_init 39 = .ok (.newarray .int, 2) := by decide +kernel
theorem dX10_init_41 : decode cX10_init 41 = .ok (.putfield 22, 3) := by decide +kernel
theorem dX10_init_44 : decode cX10_init 44 = .ok (.aload_n 0, 1) := by decide +kernel
theorem dX10_init_45 : decode cX10_init 45 = .ok (.bipush 10, 2) := by decide +kernel
theorem dX10_init_47 : decode cX10_init 47 = .ok (.newarray .int, 2) := by decide +kernel
theorem dX10_init_49 : decode cX10_init 49 = .ok (.putfield 25, 3) := by decide +kernel
theorem dX10_init_52 : decode cX10_init 52 = .ok (.aload_n 0, 1) := by decide +kernel
theorem dX10_init_53 : decode cX10_init 53 = .ok (.sipush 500, 3) := by decide +kernel
theorem dX10_init_56 : decode cX10_init 56 = .ok (.putfield 28, 3) := by decide +kernel
theorem dX10_init_59 : decode cX10_init 59 = .ok (.aload_n 0, 1) := by decide +kernel
theorem dX10_init_60 : decode cX10_init 60 = .ok (.bipush 16, 2) := by decide +kernel
theorem dX10_init_62 : decode cX10_init 62 = .ok (.newarray .int, 2) := by decide +kernel
theorem dX10_init_64 : decode cX10_init 64 = .ok (.putfield 32, 3) := by decide +kernel
theorem dX10_init_67 : decode cX10_init 67 = .ok (.aload_n 0, 1) := by decide +kernel
theorem dX10_init_68 : decode cX10_init 68 = .ok (.bipush 16, 2) := by decide +kernel
theorem dX10_init_70 : decode cX10_init 70 = .ok (.newarray .int, 2) := by decide +kernel
theorem dX10_init_72 : decode cX10_init 72 = .ok (.putfield 35, 3) := by decide +kernel
theorem dX10_init_75 : decode cX10_init 75 = .ok (.aload_n 0, 1) := by decide +kernel
theorem dX10_init_76 : decode cX10_init 76 = .ok (.bipush 16, 2) := by decide +kernel
theorem dX10_init_78 : decode cX10_init 78 = .ok (.newarray .int, 2) := by decide +kernel
theorem dX10_init_80 : decode cX10_init 80 = .ok (.putfield 38, 3) := by decide +kernel
theorem dX10_init_83 : decode cX10_init 83 = .ok (.aload_n 0, 1) := by decide +kernel
theorem dX10_init_84 : decode cX10_init 84 = .ok (.bipush 16, 2) := by decide +kernel
theorem dX10_init_86 : decode cX10_init 86 = .ok (.newarray .int, 2) := by decide +kernel
theorem dX10_init_88 : decode cX10_init 88 = .ok (.putfield 41, 3) := by decide +kernel
theorem dX10_init_91 : decode cX10_init 91 = .ok (.aload_n 0, 1) := by decide +kernel
theorem dX10_init_92 : decode cX10_init 92 = .ok (.bipush 16, 2) := by decide +kernel
theorem dX10_init_94 : decode cX10_init 94 = .ok (.newarray .int, 2) := by decide +kernel
theorem dX10_init_96 : decode cX10_init 96 = .ok (.putfield 44, 3) := by decide +kernel
theorem dX10_init_99 : decode cX10_init 99 = .ok (.aload_n 0, 1) := by decide +kernel
theorem dX10_init_100 : decode cX10_init 100 = .ok (.bipush 16, 2) := by decide +kernel
theorem dX10_init_102 : decode cX10_init 102 = .ok (.newarray .int, 2) := by decide +kernel
theorem dX10_init_104 : decode cX10_init 104 = .ok (.putfield 47, 3) := by decide +kernel
theorem dX10_init_107 : decode cX10_init 107 = .ok (.aload_n 0, 1) := by decide +kernel
theorem dX10_init_108 : decode cX10_init 108 = .ok (.bipush 16, 2) := by decide +kernel
theorem dX10_init_110 : decode cX10_init 110 = .ok (.newarray .int, 2) := by decide +kernel
theorem dX10_init_112 : decode cX10_init 112 = .ok (.putfield 50, 3) := by decide +kernel
theorem dX10_init_115 : decode cX10_init 115 = .ok (.aload_n 0, 1) := by decide +kernel
theorem dX10_init_116 : decode cX10_init 116 = .ok (.bipush 16, 2) := by decide +kernel
theorem dX10_init_118 : decode cX10_init 118 = .ok (.newarray .int, 2) := by decide +kernel
theorem dX10_init_120 : decode cX10_init 120 = .ok (.putfield 53, 3) := by decide +kernel
theorem dX10_init_123 : decode cX10_init 123 = .ok (.aload_n 0, 1) := by decide +kernel
theorem dX10_init_124 : decode cX10_init 124 = .ok (.bipush 16, 2) := by decide +kernel
theorem dX10_init_126 : decode cX10_init 126 = .ok (.newarray .int, 2) := by decide +kernel
theorem dX10_init_128 : decode cX10_init 128 = .ok (.putfield 56, 3) := by decide +kernel
theorem dX10_init_131 : decode cX10_init 131 = .ok (.aload_n 0, 1) := by decide +kernel
theorem dX10_init_132 : decode cX10_init 132 = .ok (.bipush 16, 2) := by decide +kernel
theorem dX10_init_134 : decode cX10_init 134 = .ok (.newarray .int, 2) := by decide +kernel
theorem dX10_init_136 : decode cX10_init 136 = .ok (.putfield 59, 3) := by decide +kernel
theorem dX10_init_139 : decode cX10_init 139 = .ok (.aload_n 0, 1) := by decide +kernel
theorem dX10_init_140 : decode cX10_init 140 = .ok (.bipush 16, 2) := by decide +kernel
theorem dX10_init_142 : decode cX10_init 142 = .ok (.newarray .boolean, 2) := by decide +kernel
theorem dX10_init_144 : decode cX10_init 144 = .ok (.putfield 62, 3) := by decide +kernel
theorem dX10_init_147 : decode cX10_init 147 = .ok (.aload_n 0, 1) := by decide +kernel
theorem dX10_init_148 : decode cX10_init 148 = .ok (.bipush 16, 2) := by decide +kernel
theorem dX10_init_150 : decode cX10_init 150 = .ok (.newarray .boolean, 2) := by decide +kernel
theorem dX10_init_152 : decode cX10_init 152 = .ok (.putfield 66, 3) := by decide +kernel
theorem dX10_init_155 : decode cX10_init 155 = .ok (.aload_n 0, 1) := by decide +kernel
theorem dX10_init_156 : decode cX10_init 156 = .ok (.bipush 16, 2) := by decide +kernel
theorem dX10_init_158 : decode cX10_init 158 = .ok (.newarray .boolean, 2) := by decide +kernel
theorem dX10_init_160 : decode cX10_init 160 = .ok (.putfield 69, 3) := by decide +kernel
theorem dX10_init_163 : decode cX10_init 163 = .ok (.aload_n 0, 1) := by decide +kernel
theorem dX10_init_164 : decode cX10_init 164 = .ok (.iconst 4, 1) := by decide +kernel
theorem dX10_init_165 : decode cX10_init 165 = .ok (.newarray .int, 2) := by decide +kernel
theorem dX10_init_167 : decode cX10_init 167 = .ok (.putfield 72, 3) := by decide +kernel
theorem dX10_init_170 : decode cX10_init 170 = .ok (.aload_n 0, 1) := by decide +kernel
theorem dX10_init_171 : decode cX10_init 171 = .ok (.iconst 4, 1) := by decide +kernel
theorem dX10_init_172 : decode cX10_init 172 = .ok (.newarray .int, 2) := by decide +kernel
theorem dX10_init_174 : decode cX10_init 174 = .ok (.dup, 1) := by decide +kernel
theorem dX10_init_175 : decode cX10_init 175 = .ok (.iconst 0, 1) := by decide +kernel
theorem dX10_init_176 : decode cX10_init 176 = .ok (.iconst (-1), 1) := by decide +kernel
theorem dX10_init_177 : decode cX10_init 177 = .ok (.iastore, 1) := by decide +kernel
theorem dX10_init_178 : decode cX10_init 178 = .ok (.dup, 1) := by decide +kernel
theorem dX10_init_179 : decode cX10_init 179 = .ok (.iconst 1, 1) := by decide +kernel
theorem dX10_init_180 : decode cX10_init 180 = .ok (.iconst (-1), 1) := by decide +kernel
theorem dX10_init_181 : decode cX10_init 181 = .ok (.iastore, 1) := by decide +kernel
theorem dX10_init_182 : decode cX10_init 182 = .ok (.dup, 1) := by decide +kernel
theorem dX10_init_183 : decode cX10_init 183 = .ok (.iconst 2, 1) := by decide +kernel
theorem dX10_init_184 : decode cX10_init 184 = .ok (.iconst (-1), 1) := by decide +kernel
theorem dX10_init_185 : decode cX10_init 185 = .ok (.iastore, 1) := by decide +kernel
theorem dX10_init_186 : decode cX10_init 186 = .ok (.dup, 1) := by decide +kernel
theorem dX10_init_187 : decode cX10_init 187 = .ok (.iconst 3, 1) := by decide +kernel
theorem dX10_init_188 : decode cX10_init 188 = .ok (.iconst (-1), 1) := by decide +kernel
theorem dX10_init_189 : decode cX10_init 189 = .ok (.iastore, 1) := by decide +kernel
theorem dX10_init_190 : decode cX10_init 190 = .ok (.putfield 75, 3) := by decide +kernel
theorem dX10_init_193 : decode cX10_init 193 = .ok (.aload_n 0, 1) := by decide +kernel
theorem dX10_init_194 : decode cX10_init 194 = .ok (.bipush 8, 2) := by decide +kernel
theorem dX10_init_196 : decode cX10_init 196 = .ok (.newarray .int, 2) := by decide +kernel
theorem dX10_init_198 : decode cX10_init 198 = .ok (.putfield 78, 3) := by decide +kernel
theorem dX10_init_201 : decode cX10_init 201 = .ok (.aload_n 0, 1) := by decide +kernel
theorem dX10_init_202 : decode cX10_init 202 = .ok (.bipush 8, 2) := by decide +kernel
theorem dX10_init_204 : decode cX10_init 204 = .ok (.newarray .int, 2) := by decide +kernel
theorem dX10_init_206 : decode cX10_init 206 = .ok (.putfield 81, 3) := by decide +kernel
theorem dX10_init_209 : decode cX10_init 209 = .ok (.aload_n 0, 1) := by decide +kernel
theorem dX10_init_210 : decode cX10_init 210 = .ok (.bipush 8, 2) := by decide +kernel
theorem dX10_init_212 : decode cX10_init 212 = .ok (.newarray .int, 2) := by decide +kernel
theorem dX10_init_214 : decode cX10_init 214 = .ok (.putfield 84, 3) := by decide +kernel
theorem dX10_init_217 : decode cX10_init 217 = .ok (.aload_n 0, 1) := by decide +kernel
theorem dX10_init_218 : decode cX10_init 218 = .ok (.bipush 8, 2) := by decide +kernel
theorem dX10_init_220 : decode cX10_init 220 = .ok (.newarray .int, 2) := by decide +kernel
theorem dX10_init_222 : decode cX10_init 222 = .ok (.putfield 87, 3) := by decide +kernel
theorem dX10_init_225 : decode cX10_init 225 = .ok (.aload_n 0, 1) := by decide +kernel
theorem dX10_init_226 : decode cX10_init 226 = .ok (.bipush 8, 2) := by decide +kernel
theorem dX10_init_228 : decode cX10_init 228 = .ok (.newarray .int, 2) := by decide +kernel
theorem dX10_init_230 : decode cX10_init 230 = .ok (.putfield 90, 3) := by decide +kernel
theorem dX10_init_233 : decode cX10_init 233 = .ok (.aload_n 0, 1) := by decide +kernel
theorem dX10_init_234 : decode cX10_init 234 = .ok (.bipush 8, 2) := by decide +kernel
theorem dX10_init_236 : decode cX10_init 236 = .ok (.newarray .int, 2) := by decide +kernel
theorem dX10_init_238 : decode cX10_init 238 = .ok (.putfield 93, 3) := by decide +kernel
theorem dX10_init_241 : decode cX10_init 241 = .ok (.aload_n 0, 1) := by decide +kernel
theorem dX10_init_242 : decode cX10_init 242 = .ok (.bipush 8, 2) := by decide +kernel
theorem dX10_init_244 : decode cX10_init 244 = .ok (.newarray .int, 2) := by decide +kernel
theorem dX10_init_246 : decode cX10_init 246 = .ok (.putfield 96, 3) := by decide +kernel
theorem dX10_init_249 : decode cX10_init 249 = .ok (.aload_n 0, 1) := by decide +kernel
theorem dX10_init_250 : decode cX10_init 250 = .ok (.bipush 8, 2) := by decide +kernel
theorem dX10_init_252 : decode cX10_init 252 = .ok (.newarray .int, 2) := by decide +kernel
theorem dX10_init_254 : decode cX10_init 254 = .ok (.putfield 99, 3) := by decide +kernel
theorem dX10_init_257 : decode cX10_init 257 = .ok (.aload_n 0, 1) := by decide +kernel
theorem dX10_init_258 : decode cX10_init 258 = .ok (.sipush 3100, 3) := by decide +kernel
theorem dX10_init_261 : decode cX10_init 261 = .ok (.newarray .int, 2) := by decide +kernel
theorem dX10_init_263 : decode cX10_init 263 = .ok (.putfield 102, 3) := by decide +kernel
theorem dX10_init_266 : decode cX10_init 266 = .ok (.aload_n 0, 1) := by decide +kernel
theorem dX10_init_267 : decode cX10_init 267 = .ok (.sipush 3100, 3) := by decide +kernel
theorem dX10_init_270 : decode cX10_init 270 = .ok (.newarray .int, 2) := by decide +kernel
theorem dX10_init_272 : decode cX10_init 272 = .ok (.putfield 105, 3) := by decide +kernel
theorem dX10_init_275 : decode cX10_init 275 = .ok (.aload_n 0, 1) := by decide +kernel
theorem dX10_init_276 : decode cX10_init 276 = .ok (.sipush 3100, 3) := by decide +kernel
theorem dX10_init_279 : decode cX10_init 279 = .ok (.newarray .int, 2) := by decide +kernel
theorem dX10_init_281 : decode cX10_init 281 = .ok (.putfield 108, 3) := by decide +kernel
theorem dX10_init_284 : decode cX10_init 284 = .ok (.aload_n 0, 1) := by decide +kernel
theorem dX10_init_285 : decode cX10_init 285 = .ok (.bipush 8, 2) := by decide +kernel
theorem dX10_init_287 : decode cX10_init 287 = .ok (.newarray .int, 2) := by decide +kernel
theorem dX10_init_289 : decode cX10_init 289 = .ok (.putfield 111, 3) := by decide +kernel
theorem dX10_init_292 : decode cX10_init 292 = .ok (.aload_n 0, 1) := by decide +kernel
theorem dX10_init_293 : decode cX10_init 293 = .ok (.bipush 8, 2) := by decide +kernel
theorem dX10_init_295 : decode cX10_init 295 = .ok (.newarray .int, 2) := by decide +kernel
theorem dX10_init_297 : decode cX10_init 297 = .ok (.putfield 114, 3) := by decide +kernel
theorem dX10_init_300 : decode cX10_init 300 = .ok (.aload_n 0, 1) := by decide +kernel
theorem dX10_init_301 : decode cX10_init 301 = .ok (.sipush 257, 3) := by decide +kernel
theorem dX10_init_304 : decode cX10_init 304 = .ok (.newarray .int, 2) := by decide +kernel
theorem dX10_init_306 : decode cX10_init 306 = .ok (.putfield 117, 3) := by decide +kernel
theorem dX10_init_309 : decode cX10_init 309 = .ok (.iconst 0, 1) := by decide +kernel
theorem dX10_init_310 : decode cX10_init 310 = .ok (.istore_n 1, 1) := by decide +kernel
theorem dX10_init_311 : decode cX10_init 311 = .ok (.iload_n 1, 1) := by decide +kernel
theorem dX10_init_312 : decode cX10_init 312 = .ok (.bipush 100, 2) := by decide +kernel
theorem dX10_init_314 : decode cX10_init 314 = .ok (.if_icmp .ge 16, 3) := by decide +kernel
theorem dX10_init_317 : decode cX10_init 317 = .ok (.aload_n 0, 1) := by decide +kernel
theorem dX10_init_318 : decode cX10_init 318 = .ok (.getfield 19, 3) := by decide +kernel
theorem dX10_init_321 : decode cX10_init 321 = .ok (.iload_n 1, 1) := by decide +kernel
theorem dX10_init_322 : decode cX10_init 322 = .ok (.iconst 5, 1) := by decide +kernel
theorem dX10_init_323 : decode cX10_init 323 = .ok (.iastore, 1) := by decide +kernel
theorem dX10_init_324 : decode cX10_init 324 = .ok (.iinc 1 1, 3) := by decide +kernel
theorem dX10_init_327 : decode cX10_init 327 = .ok (.goto (-16), 3) := by decide +kernel
theorem dX10_init_330 : decode cX10_init 330 = .ok (.return_, 1) := by decide +kernel
theorem dX10_refuse_0 : decode cX10_refuse 0 = .ok (.aload_n 0, 1) := by decide +kernel
theorem dX10_refuse_1 : decode cX10_refuse 1 = .ok (.getfield 7, 3) := by decide +kernel
theorem dX10_refuse_4 : decode cX10_refuse 4 = .ok (.iload_n 1, 1) := by decide +kernel
theorem dX10_refuse_5 : decode cX10_refuse 5 = .ok (.ineg, 1) := by decide +kernel
theorem dX10_refuse_6 : decode cX10_refuse 6 = .ok (.dup2, 1) := by decide +kernel
theorem dX10_refuse_7 : decode cX10_refuse 7 = .ok (.iaload, 1) := by decide +kernel
theorem dX10_refuse_8 : decode cX10_refuse 8 = .ok (.iconst 1, 1) := by decide +kernel
theorem dX10_refuse_9 : decode cX10_refuse 9 = .ok (.iadd, 1) := by decide +kernel
theorem dX10_refuse_10 : decode cX10_refuse 10 = .ok (.iastore, 1) := by decide +kernel
theorem dX10_refuse_11 : decode cX10_refuse 11 = .ok (.iload_n 1, 1) := by decide +kernel
theorem dX10_refuse_12 : decode cX10_refuse 12 = .ok (.ireturn, 1) := by decide +kernel
theorem dX10_isIn_0 : decode cX10_isIn 0 = .ok (.iload_n 0, 1) := by decide +kernel
theorem dX10_isIn_1 : decode cX10_isIn 1 = .ok (.ifCond .lt 12, 3) := by decide +kernel
theorem dX10_isIn_4 : decode cX10_isIn 4 = .ok (.iload_n 0, 1) := by decide +kernel
theorem dX10_isIn_5 : decode cX10_isIn 5 = .ok (.iload_n 1, 1) := by decide +kernel
theorem dX10_isIn_6 : decode cX10_isIn 6 = .ok (.if_icmp .ge 7, 3) := by decide +kernel
theorem dX10_isIn_9 : decode cX10_isIn 9 = .ok (.iconst 1, 1) := by decide +kernel
theorem dX10_isIn_10 : decode cX10_isIn 10 = .ok (.goto 4, 3) := by decide +kernel
theorem dX10_isIn_13 : decode cX10_isIn 13 = .ok (.iconst 0, 1) := by decide +kernel
theorem dX10_isIn_14 : decode cX10_isIn 14 = .ok (.ireturn, 1) := by decide +kernel
theorem dX10_share_0 : decode cX10_share 0 = .ok (.iload_n 1, 1) := by decide +kernel
theorem dX10_share_1 : decode cX10_share 1 = .ok (.bipush 6, 2) := by decide +kernel
theorem dX10_share_3 : decode cX10_share 3 = .ok (.invokestatic 120, 3) := by decide +kernel
theorem dX10_share_6 : decode cX10_share 6 = .ok (.ifCond .ne 9, 3) := by decide +kernel
theorem dX10_share_9 : decode cX10_share 9 = .ok (.aload_n 0, 1) := by decide +kernel
theorem dX10_share_10 : decode cX10_share 10 = .ok (.iconst (-1), 1) := by decide +kernel
theorem dX10_share_11 : decode cX10_share 11 = .ok (.invokevirtual 124, 3) := by decide +kernel
theorem dX10_share_14 : decode cX10_share 14 = .ok (.ireturn, 1) := by decide +kernel
theorem dX10_share_15 : decode cX10_share 15 = .ok (.iload_n 2, 1) := by decide +kernel
theorem dX10_share_16 : decode cX10_share 16 = .ok (.ifCond .ge 10, 3) := by decide +kernel
theorem dX10_share_19 : decode cX10_share 19 = .ok (.aload_n 0, 1) := by decide +kernel
theorem dX10_share_20 : decode cX10_share 20 = .ok (.bipush (-4), 2) := by decide +kernel
theorem dX10_share_22 : decode cX10_share 22 = .ok (.invokevirtual 124, 3) := by decide +kernel
theorem dX10_share_25 : decode cX10_share 25 = .ok (.ireturn, 1) := by decide +kernel
theorem dX10_share_26 : decode cX10_share 26 = .ok (.iload_n 2, 1) := by decide +kernel
theorem dX10_share_27 : decode cX10_share 27 = .ok (.sipush 1000, 3) := by decide +kernel
theorem dX10_share_30 : decode cX10_share 30 = .ok (.if_icmp .le 10, 3) := by decide +kernel
theorem dX10_share_33 : decode cX10_share 33 = .ok (.aload_n 0, 1) := by decide +kernel
theorem dX10_share_34 : decode cX10_share 34 = .ok (.bipush (-6), 2) := by decide +kernel
theorem dX10_share_36 : decode cX10_share 36 = .ok (.invokevirtual 124, 3) := by decide +kernel
theorem dX10_share_39 : decode cX10_share 39 = .ok (.ireturn, 1) := by decide +kernel
theorem dX10_share_40 : decode cX10_share 40 = .ok (.aload_n 0, 1) := by decide +kernel
theorem dX10_share_41 : decode cX10_share 41 = .ok (.getfield 13, 3) := by decide +kernel
theorem dX10_share_44 : decode cX10_share 44 = .ok (.iload_n 1, 1) := by decide +kernel
theorem dX10_share_45 : decode cX10_share 45 = .ok (.iaload, 1) := by decide +kernel
theorem dX10_share_46 : decode cX10_share 46 = .ok (.istore_n 3, 1) := by decide +kernel
theorem dX10_share_47 : decode cX10_share 47 = .ok (.aload_n 0, 1) := by decide +kernel
theorem dX10_share_48 : decode cX10_share 48 = .ok (.getfield 13, 3) := by decide +kernel
theorem dX10_share_51 : decode cX10_share 51 = .ok (.iload_n 1, 1) := by decide +kernel
theorem dX10_share_52 : decode cX10_share 52 = .ok (.iload_n 2, 1) := by decide +kernel
theorem dX10_share_53 : decode cX10_share 53 = .ok (.iastore, 1) := by decide +kernel
theorem dX10_share_54 : decode cX10_share 54 = .ok (.iload_n 3, 1) := by decide +kernel
theorem dX10_share_55 : decode cX10_share 55 = .ok (.ireturn, 1) := by decide +kernel
theorem dX10_field_0 : decode cX10_field 0 = .ok (.iload_n 1, 1) := by decide +kernel
theorem dX10_field_1 : decode cX10_field 1 = .ok (.bipush 6, 2) := by decide +kernel
theorem dX10_field_3 : decode cX10_field 3 = .ok (.invokestatic 120, 3) := by decide +kernel
theorem dX10_field_6 : decode cX10_field 6 = .ok (.ifCond .ne 9, 3) := by decide +kernel
theorem dX10_field_9 : decode cX10_field 9 = .ok (.aload_n 0, 1) := by decide +kernel
theorem dX10_field_10 : decode cX10_field 10 = .ok (.iconst (-1), 1) := by decide +kernel
theorem dX10_field_11 : decode cX10_field 11 = .ok (.invokevirtual 124, 3) := by decide +kernel
theorem dX10_field_14 : decode cX10_field 14 = .ok (.ireturn, 1) := by decide +kernel
theorem dX10_field_15 : decode cX10_field 15 = .ok (.iload_n 2, 1) := by decide +kernel
theorem dX10_field_16 : decode cX10_field 16 = .ok (.iconst 1, 1) := by decide +kernel
theorem dX10_field_17 : decode cX10_field 17 = .ok (.if_icmp .lt 15, 3) := by decide +kernel
theorem dX10_field_20 : decode cX10_field 20 = .ok (.iload_n 3, 1) := by decide +kernel
theorem dX10_field_21 : decode cX10_field 21 = .ok (.bipush 50, 2) := by decide +kernel
theorem dX10_field_23 : decode cX10_field 23 = .ok (.if_icmp .lt 9, 3) := by decide +kernel
theorem dX10_field_26 : decode cX10_field 26 = .ok (.iload 4, 2) := by decide +kernel
theorem dX10_field_28 : decode cX10_field 28 = .ok (.iconst 1, 1) := by decide +kernel
theorem dX10_field_29 : decode cX10_field 29 = .ok (.if_icmp .ge 10, 3) := by decide +kernel
theorem dX10_field_32 : decode cX10_field 32 = .ok (.aload_n 0, 1) := by decide +kernel
theorem dX10_field_33 : decode cX10_field 33 = .ok (.bipush (-4), 2) := by decide +kernel
theorem dX10_field_35 : decode cX10_field 35 = .ok (.invokevirtual 124, 3) := by decide +kernel
theorem dX10_field_38 : decode cX10_field 38 = .ok (.ireturn, 1) := by decide +kernel
theorem dX10_field_39 : decode cX10_field 39 = .ok (.iload_n 2, 1) := by decide +kernel
theorem dX10_field_40 : decode cX10_field 40 = .ok (.sipush 5000, 3) := by decide +kernel
theorem dX10_field_43 : decode cX10_field 43 = .ok (.if_icmp .gt 26, 3) := by decide +kernel
theorem dX10_field_46 : decode cX10_field 46 = .ok (.iload_n 3, 1) := by decide +kernel
theorem dX10_field_47 : decode cX10_field 47 = .ok (.sipush 250, 3) := by decide +kernel
theorem dX10_field_50 : decode cX10_field 50 = .ok (.if_icmp .gt 19, 3) := by decide +kernel
theorem dX10_field_53 : decode cX10_field 53 = .ok (.iload 4, 2) := by decide +kernel
theorem dX10_field_55 : decode cX10_field 55 = .ok (.bipush 12, 2) := by decide +kernel
theorem dX10_field_57 : decode cX10_field 57 = .ok (.if_icmp .gt 12, 3) := by decide +kernel
theorem dX10_field_60 : decode cX10_field 60 = .ok (.aload_n 0, 1) := by decide +kernel
theorem dX10_field_61 : decode cX10_field 61 = .ok (.getfield 128, 3) := by decide +kernel
theorem dX10_field_64 : decode cX10_field 64 = .ok (.bipush 16, 2) := by decide +kernel
theorem dX10_field_66 : decode cX10_field 66 = .ok (.if_icmp .ne 10, 3) := by decide +kernel
theorem dX10_field_69 : decode cX10_field 69 = .ok (.aload_n 0, 1) := by decide +kernel
theorem dX10_field_70 : decode cX10_field 70 = .ok (.bipush (-6), 2) := by decide +kernel
theorem dX10_field_72 : decode cX10_field 72 = .ok (.invokevirtual 124, 3) := by decide +kernel
theorem dX10_field_75 : decode cX10_field 75 = .ok (.ireturn, 1) := by decide +kernel
theorem dX10_field_76 : decode cX10_field 76 = .ok (.aload_n 0, 1) := by decide +kernel
theorem dX10_field_77 : decode cX10_field 77 = .ok (.getfield 128, 3) := by decide +kernel
theorem dX10_field_80 : decode cX10_field 80 = .ok (.istore 6, 2) := by decide +kernel
theorem dX10_field_82 : decode cX10_field 82 = .ok (.aload_n 0, 1) := by decide +kernel
theorem dX10_field_83 : decode cX10_field 83 = .ok (.dup, 1) := by decide +kernel
theorem dX10_field_84 : decode cX10_field 84 = .ok (.getfield 128, 3) := by decide +kernel
theorem dX10_field_87 : decode cX10_field 87 = .ok (.iconst 1, 1) := by decide +kernel
theorem dX10_field_88 : decode cX10_field 88 = .ok (.iadd, 1) := by decide +kernel
theorem dX10_field_89 : decode cX10_field 89 = .ok (.putfield 128, 3) := by decide +kernel
theorem dX10_field_92 : decode cX10_field 92 = .ok (.aload_n 0, 1) := by decide +kernel
theorem dX10_field_93 : decode cX10_field 93 = .ok (.getfield 32, 3) := by decide +kernel
theorem dX10_field_96 : decode cX10_field 96 = .ok (.iload 6, 2) := by decide +kernel
theorem dX10_field_98 : decode cX10_field 98 = .ok (.iload_n 1, 1) := by decide +kernel
theorem dX10_field_99 : decode cX10_field 99 = .ok (.iastore, 1) := by decide +kernel
theorem dX10_field_100 : decode cX10_field 100 = .ok (.aload_n 0, 1) := by decide +kernel
theorem dX10_field_101 : decode cX10_field 101 = .ok (.getfield 35, 3) := by decide +kernel
theorem dX10_field_104 : decode cX10_field 104 = .ok (.iload 6, 2) := by decide +kernel
theorem dX10_field_106 : decode cX10_field 106 = .ok (.iload_n 2, 1) := by decide +kernel
theorem dX10_field_107 : decode cX10_field 107 = .ok (.iastore, 1) := by decide +kernel
theorem dX10_field_108 : decode cX10_field 108 = .ok (.aload_n 0, 1) := by decide +kernel
theorem dX10_field_109 : decode cX10_field 109 = .ok (.getfield 38, 3) := by decide +kernel
theorem dX10_field_112 : decode cX10_field 112 = .ok (.iload 6, 2) := by decide +kernel
theorem dX10_field_114 : decode cX10_field 114 = .ok (.iload_n 3, 1) := by decide +kernel
theorem dX10_field_115 : decode cX10_field 115 = .ok (.iastore, 1) := by decide +kernel
theorem dX10_field_116 : decode cX10_field 116 = .ok (.aload_n 0, 1) := by decide +kernel
theorem dX10_field_117 : decode cX10_field 117 = .ok (.getfield 41, 3) := by decide +kernel
theorem dX10_field_120 : decode cX10_field 120 = .ok (.iload 6, 2) := by decide +kernel
theorem dX10_field_122 : decode cX10_field 122 = .ok (.iload 4, 2) := by decide +kernel
theorem dX10_field_124 : decode cX10_field 124 = .ok (.iastore, 1) := by decide +kernel
theorem dX10_field_125 : decode cX10_field 125 = .ok (.aload_n 0, 1) := by decide +kernel
theorem dX10_field_126 : decode cX10_field 126 = .ok (.getfield 62, 3) := by decide +kernel
theorem dX10_field_129 : decode cX10_field 129 = .ok (.iload 6, 2) := by decide +kernel
theorem dX10_field_131 : decode cX10_field 131 = .ok (.iload 5, 2) := by decide +kernel
theorem dX10_field_133 : decode cX10_field 133 = .ok (.bastore, 1) := by decide +kernel
theorem dX10_field_134 : decode cX10_field 134 = .ok (.aload_n 0, 1) := by decide +kernel
theorem dX10_field_135 : decode cX10_field 135 = .ok (.getfield 50, 3) := by decide +kernel
theorem dX10_field_138 : decode cX10_field 138 = .ok (.iload 6, 2) := by decide +kernel
theorem dX10_field_140 : decode cX10_field 140 = .ok (.bipush (-9), 2) := by decide +kernel
theorem dX10_field_142 : decode cX10_field 142 = .ok (.iastore, 1) := by decide +kernel
theorem dX10_field_143 : decode cX10_field 143 = .ok (.iload 6, 2) := by decide +kernel
theorem dX10_field_145 : decode cX10_field 145 = .ok (.ireturn, 1) := by decide +kernel
theorem dX10_isField_0 : decode cX10_isField 0 = .ok (.iload_n 1, 1) := by decide +kernel
theorem dX10_isField_1 : decode cX10_isField 1 = .ok (.aload_n 0, 1) := by decide +kernel
theorem dX10_isField_2 : decode cX10_isField 2 = .ok (.getfield 128, 3) := by decide +kernel
theorem dX10_isField_5 : decode cX10_isField 5 = .ok (.invokestatic 120, 3) := by decide +kernel
theorem dX10_isField_8 : decode cX10_isField 8 = .ok (.ireturn, 1) := by decide +kernel
theorem dX10_isLorry_0 : decode cX10_isLorry 0 = .ok (.iload_n 1, 1) := by decide +kernel
theorem dX10_isLorry_1 : decode cX10_isLorry 1 = .ok (.aload_n 0, 1) := by decide +kernel
theorem dX10_isLorry_2 : decode cX10_isLorry 2 = .ok (.getfield 131, 3) := by decide +kernel
theorem dX10_isLorry_5 : decode cX10_isLorry 5 = .ok (.invokestatic 120, 3) := by decide +kernel
theorem dX10_isLorry_8 : decode cX10_isLorry 8 = .ok (.ireturn, 1) := by decide +kernel
theorem dX10_gang_0 : decode cX10_gang 0 = .ok (.iload_n 1, 1) := by decide +kernel
theorem dX10_gang_1 : decode cX10_gang 1 = .ok (.iconst 4, 1) := by decide +kernel
theorem dX10_gang_2 : decode cX10_gang 2 = .ok (.invokestatic 120, 3) := by decide +kernel
theorem dX10_gang_5 : decode cX10_gang 5 = .ok (.ifCond .eq 16, 3) := by decide +kernel
theorem dX10_gang_8 : decode cX10_gang 8 = .ok (.iload_n 3, 1) := by decide +kernel
theorem dX10_gang_9 : decode cX10_gang 9 = .ok (.iconst (-1), 1) := by decide +kernel
theorem dX10_gang_10 : decode cX10_gang 10 = .ok (.if_icmp .eq 17, 3) := by decide +kernel
theorem dX10_gang_13 : decode cX10_gang 13 = .ok (.aload_n 0, 1) := by decide +kernel
theorem dX10_gang_14 : decode cX10_gang 14 = .ok (.iload_n 3, 1) := by decide +kernel
theorem dX10_gang_15 : decode cX10_gang 15 = .ok (.invokevirtual 134, 3) := by decide +kernel
theorem dX10_gang_18 : decode cX10_gang 18 = .ok (.ifCond .ne 9, 3) := by decide +kernel
theorem dX10_gang_21 : decode cX10_gang 21 = .ok (.aload_n 0, 1) := by decide +kernel
theorem dX10_gang_22 : decode cX10_gang 22 = .ok (.iconst (-1), 1) := by decide +kernel
theorem dX10_gang_23 : decode cX10_gang 23 = .ok (.invokevirtual 124, 3) := by decide +kernel
theorem dX10_gang_26 : decode cX10_gang 26 = .ok (.ireturn, 1) := by decide +kernel
theorem dX10_gang_27 : decode cX10_gang 27 = .ok (.iload_n 2, 1) := by decide +kernel
theorem dX10_gang_28 : decode cX10_gang 28 = .ok (.ifCond .ge 10, 3) := by decide +kernel
theorem dX10_gang_31 : decode cX10_gang 31 = .ok (.aload_n 0, 1) := by decide +kernel
theorem dX10_gang_32 : decode cX10_gang 32 = .ok (.bipush (-4), 2) := by decide +kernel
theorem dX10_gang_34 : decode cX10_gang 34 = .ok (.invokevirtual 124, 3) := by decide +kernel
theorem dX10_gang_37 : decode cX10_gang 37 = .ok (.ireturn, 1) := by decide +kernel
theorem dX10_gang_38 : decode cX10_gang 38 = .ok (.iload_n 2, 1) := by decide +kernel
theorem dX10_gang_39 : decode cX10_gang 39 = .ok (.bipush 100, 2) := by decide +kernel
theorem dX10_gang_41 : decode cX10_gang 41 = .ok (.if_icmp .le 10, 3) := by decide +kernel
theorem dX10_gang_44 : decode cX10_gang 44 = .ok (.aload_n 0, 1) := by decide +kernel
theorem dX10_gang_45 : decode cX10_gang 45 = .ok (.bipush (-6), 2) := by decide +kernel
theorem dX10_gang_47 : decode cX10_gang 47 = .ok (.invokevirtual 124, 3) := by decide +kernel
theorem dX10_gang_50 : decode cX10_gang 50 = .ok (.ireturn, 1) := by decide +kernel
theorem dX10_gang_51 : decode cX10_gang 51 = .ok (.aload_n 0, 1) := by decide +kernel
theorem dX10_gang_52 : decode cX10_gang 52 = .ok (.getfield 72, 3) := by decide +kernel
theorem dX10_gang_55 : decode cX10_gang 55 = .ok (.iload_n 1, 1) := by decide +kernel
theorem dX10_gang_56 : decode cX10_gang 56 = .ok (.iload_n 2, 1) := by decide +kernel
theorem dX10_gang_57 : decode cX10_gang 57 = .ok (.iastore, 1) := by decide +kernel
theorem dX10_gang_58 : decode cX10_gang 58 = .ok (.aload_n 0, 1) := by decide +kernel
theorem dX10_gang_59 : decode cX10_gang 59 = .ok (.getfield 75, 3) := by decide +kernel
theorem dX10_gang_62 : decode cX10_gang 62 = .ok (.iload_n 1, 1) := by decide +kernel
theorem dX10_gang_63 : decode cX10_gang 63 = .ok (.iload_n 3, 1) := by decide +kernel
theorem dX10_gang_64 : decode cX10_gang 64 = .ok (.iastore, 1) := by decide +kernel
theorem dX10_gang_65 : decode cX10_gang 65 = .ok (.iconst 1, 1) := by decide +kernel
theorem dX10_gang_66 : decode cX10_gang 66 = .ok (.ireturn, 1) := by decide +kernel
theorem dX10_lorry_0 : decode cX10_lorry 0 = .ok (.iload_n 1, 1) := by decide +kernel
theorem dX10_lorry_1 : decode cX10_lorry 1 = .ok (.iconst 1, 1) := by decide +kernel
theorem dX10_lorry_2 : decode cX10_lorry 2 = .ok (.if_icmp .ge 10, 3) := by decide +kernel
theorem dX10_lorry_5 : decode cX10_lorry 5 = .ok (.aload_n 0, 1) := by decide +kernel
theorem dX10_lorry_6 : decode cX10_lorry 6 = .ok (.bipush (-4), 2) := by decide +kernel
theorem dX10_lorry_8 : decode cX10_lorry 8 = .ok (.invokevirtual 124, 3) := by decide +kernel
theorem dX10_lorry_11 : decode cX10_lorry 11 = .ok (.ireturn, 1) := by decide +kernel
theorem dX10_lorry_12 : decode cX10_lorry 12 = .ok (.iload_n 1, 1) := by decide +kernel
theorem dX10_lorry_13 : decode cX10_lorry 13 = .ok (.bipush 100, 2) := by decide +kernel
theorem dX10_lorry_15 : decode cX10_lorry 15 = .ok (.if_icmp .gt 12, 3) := by decide +kernel
theorem dX10_lorry_18 : decode cX10_lorry 18 = .ok (.aload_n 0, 1) := by decide +kernel
theorem dX10_lorry_19 : decode cX10_lorry 19 = .ok (.getfield 131, 3) := by decide +kernel
theorem dX10_lorry_22 : decode cX10_lorry 22 = .ok (.bipush 8, 2) := by decide +kernel
theorem dX10_lorry_24 : decode cX10_lorry 24 = .ok (.if_icmp .ne 10, 3) := by decide +kernel
theorem dX10_lorry_27 : decode cX10_lorry 27 = .ok (.aload_n 0, 1) := by decide +kernel
theorem dX10_lorry_28 : decode cX10_lorry 28 = .ok (.bipush (-6), 2) := by decide +kernel
theorem dX10_lorry_30 : decode cX10_lorry 30 = .ok (.invokevirtual 124, 3) := by decide +kernel
theorem dX10_lorry_33 : decode cX10_lorry 33 = .ok (.ireturn, 1) := by decide +kernel
theorem dX10_lorry_34 : decode cX10_lorry 34 = .ok (.aload_n 0, 1) := by decide +kernel
theorem dX10_lorry_35 : decode cX10_lorry 35 = .ok (.getfield 78, 3) := by decide +kernel
theorem dX10_lorry_38 : decode cX10_lorry 38 = .ok (.aload_n 0, 1) := by decide +kernel
theorem dX10_lorry_39 : decode cX10_lorry 39 = .ok (.getfield 131, 3) := by decide +kernel
theorem dX10_lorry_42 : decode cX10_lorry 42 = .ok (.iload_n 1, 1) := by decide +kernel
theorem dX10_lorry_43 : decode cX10_lorry 43 = .ok (.iastore, 1) := by decide +kernel
theorem dX10_lorry_44 : decode cX10_lorry 44 = .ok (.aload_n 0, 1) := by decide +kernel
theorem dX10_lorry_45 : decode cX10_lorry 45 = .ok (.getfield 84, 3) := by decide +kernel
theorem dX10_lorry_48 : decode cX10_lorry 48 = .ok (.aload_n 0, 1) := by decide +kernel
theorem dX10_lorry_49 : decode cX10_lorry 49 = .ok (.getfield 131, 3) := by decide +kernel
theorem dX10_lorry_52 : decode cX10_lorry 52 = .ok (.bipush (-9), 2) := by decide +kernel
theorem dX10_lorry_54 : decode cX10_lorry 54 = .ok (.iastore, 1) := by decide +kernel
theorem dX10_lorry_55 : decode cX10_lorry 55 = .ok (.aload_n 0, 1) := by decide +kernel
theorem dX10_lorry_56 : decode cX10_lorry 56 = .ok (.getfield 87, 3) := by decide +kernel
theorem dX10_lorry_59 : decode cX10_lorry 59 = .ok (.aload_n 0, 1) := by decide +kernel
theorem dX10_lorry_60 : decode cX10_lorry 60 = .ok (.getfield 131, 3) := by decide +kernel
theorem dX10_lorry_63 : decode cX10_lorry 63 = .ok (.bipush (-9), 2) := by decide +kernel
theorem dX10_lorry_65 : decode cX10_lorry 65 = .ok (.iastore, 1) := by decide +kernel
theorem dX10_lorry_66 : decode cX10_lorry 66 = .ok (.aload_n 0, 1) := by decide +kernel
theorem dX10_lorry_67 : decode cX10_lorry 67 = .ok (.dup, 1) := by decide +kernel
theorem dX10_lorry_68 : decode cX10_lorry 68 = .ok (.getfield 131, 3) := by decide +kernel
theorem dX10_lorry_71 : decode cX10_lorry 71 = .ok (.iconst 1, 1) := by decide +kernel
theorem dX10_lorry_72 : decode cX10_lorry 72 = .ok (.iadd, 1) := by decide +kernel
theorem dX10_lorry_73 : decode cX10_lorry 73 = .ok (.putfield 131, 3) := by decide +kernel
theorem dX10_lorry_76 : decode cX10_lorry 76 = .ok (.aload_n 0, 1) := by decide +kernel
theorem dX10_lorry_77 : decode cX10_lorry 77 = .ok (.getfield 131, 3) := by decide +kernel
theorem dX10_lorry_80 : decode cX10_lorry 80 = .ok (.iconst 1, 1) := by decide +kernel
theorem dX10_lorry_81 : decode cX10_lorry 81 = .ok (.isub, 1) := by decide +kernel
theorem dX10_lorry_82 : decode cX10_lorry 82 = .ok (.ireturn, 1) := by decide +kernel
theorem dX10_goes_0 : decode cX10_goes 0 = .ok (.aload_n 0, 1) := by decide +kernel
theorem dX10_goes_1 : decode cX10_goes 1 = .ok (.getfield 81, 3) := by decide +kernel
theorem dX10_goes_4 : decode cX10_goes 4 = .ok (.iload_n 1, 1) := by decide +kernel
theorem dX10_goes_5 : decode cX10_goes 5 = .ok (.iconst 1, 1) := by decide +kernel
theorem dX10_goes_6 : decode cX10_goes 6 = .ok (.iastore, 1) := by decide +kernel
theorem dX10_goes_7 : decode cX10_goes 7 = .ok (.aload_n 0, 1) := by decide +kernel
theorem dX10_goes_8 : decode cX10_goes 8 = .ok (.getfield 84, 3) := by decide +kernel
theorem dX10_goes_11 : decode cX10_goes 11 = .ok (.iload_n 1, 1) := by decide +kernel
theorem dX10_goes_12 : decode cX10_goes 12 = .ok (.iload_n 2, 1) := by decide +kernel
theorem dX10_goes_13 : decode cX10_goes 13 = .ok (.iastore, 1) := by decide +kernel
theorem dX10_goes_14 : decode cX10_goes 14 = .ok (.aload_n 0, 1) := by decide +kernel
theorem dX10_goes_15 : decode cX10_goes 15 = .ok (.getfield 87, 3) := by decide +kernel
theorem dX10_goes_18 : decode cX10_goes 18 = .ok (.iload_n 1, 1) := by decide +kernel
theorem dX10_goes_19 : decode cX10_goes 19 = .ok (.aload_n 0, 1) := by decide +kernel
theorem dX10_goes_20 : decode cX10_goes 20 = .ok (.getfield 138, 3) := by decide +kernel
theorem dX10_goes_23 : decode cX10_goes 23 = .ok (.aload_n 0, 1) := by decide +kernel
theorem dX10_goes_24 : decode cX10_goes 24 = .ok (.getfield 41, 3) := by decide +kernel
theorem dX10_goes_27 : decode cX10_goes 27 = .ok (.iload_n 2, 1) := by decide +kernel
theorem dX10_goes_28 : decode cX10_goes 28 = .ok (.iaload, 1) := by decide +kernel
theorem dX10_goes_29 : decode cX10_goes 29 = .ok (.iadd, 1) := by decide +kernel
theorem dX10_goes_30 : decode cX10_goes 30 = .ok (.iastore, 1) := by decide +kernel
theorem dX10_goes_31 : decode cX10_goes 31 = .ok (.return_, 1) := by decide +kernel
theorem dX10_send_0 : decode cX10_send 0 = .ok (.aload_n 0, 1) := by decide +kernel
theorem dX10_send_1 : decode cX10_send 1 = .ok (.iload_n 1, 1) := by decide +kernel
theorem dX10_send_2 : decode cX10_send 2 = .ok (.invokevirtual 141, 3) := by decide +kernel
theorem dX10_send_5 : decode cX10_send 5 = .ok (.ifCond .eq 11, 3) := by decide +kernel
theorem dX10_send_8 : decode cX10_send 8 = .ok (.aload_n 0, 1) := by decide +kernel
theorem dX10_send_9 : decode cX10_send 9 = .ok (.iload_n 2, 1) := by decide +kernel
theorem dX10_send_10 : decode cX10_send 10 = .ok (.invokevirtual 134, 3) := by decide +kernel
theorem dX10_send_13 : decode cX10_send 13 = .ok (.ifCond .ne 9, 3) := by decide +kernel
theorem dX10_send_16 : decode cX10_send 16 = .ok (.aload_n 0, 1) := by decide +kernel
theorem dX10_send_17 : decode cX10_send 17 = .ok (.iconst (-1), 1) := by decide +kernel
end
section
theorem dX10_send_18 : decode cX10_send 18 = .ok (.invokevirtual 124, 3) := by decide +kernel
theorem dX10_send_21 : decode cX10_send 21 = .ok (.ireturn, 1) := by decide +kernel
theorem dX10_send_22 : decode cX10_send 22 = .ok (.aload_n 0, 1) := by decide +kernel
theorem dX10_send_23 : decode cX10_send 23 = .ok (.getfield 81, 3) := by decide +kernel
theorem dX10_send_26 : decode cX10_send 26 = .ok (.iload_n 1, 1) := by decide +kernel
theorem dX10_send_27 : decode cX10_send 27 = .ok (.iaload, 1) := by decide +kernel
theorem dX10_send_28 : decode cX10_send 28 = .ok (.ifCond .eq 10, 3) := by decide +kernel
theorem dX10_send_31 : decode cX10_send 31 = .ok (.aload_n 0, 1) := by decide +kernel
theorem dX10_send_32 : decode cX10_send 32 = .ok (.bipush (-3), 2) := by decide +kernel
theorem dX10_send_34 : decode cX10_send 34 = .ok (.invokevirtual 124, 3) := by decide +kernel
theorem dX10_send_37 : decode cX10_send 37 = .ok (.ireturn, 1) := by decide +kernel
theorem dX10_send_38 : decode cX10_send 38 = .ok (.aload_n 0, 1) := by decide +kernel
theorem dX10_send_39 : decode cX10_send 39 = .ok (.iload_n 1, 1) := by decide +kernel
theorem dX10_send_40 : decode cX10_send 40 = .ok (.iload_n 2, 1) := by decide +kernel
theorem dX10_send_41 : decode cX10_send 41 = .ok (.invokevirtual 144, 3) := by decide +kernel
theorem dX10_send_44 : decode cX10_send 44 = .ok (.aload_n 0, 1) := by decide +kernel
theorem dX10_send_45 : decode cX10_send 45 = .ok (.getfield 87, 3) := by decide +kernel
theorem dX10_send_48 : decode cX10_send 48 = .ok (.iload_n 1, 1) := by decide +kernel
theorem dX10_send_49 : decode cX10_send 49 = .ok (.iaload, 1) := by decide +kernel
theorem dX10_send_50 : decode cX10_send 50 = .ok (.ireturn, 1) := by decide +kernel
theorem dX10_isLeft_0 : decode cX10_isLeft 0 = .ok (.aload_n 0, 1) := by decide +kernel
theorem dX10_isLeft_1 : decode cX10_isLeft 1 = .ok (.getfield 44, 3) := by decide +kernel
theorem dX10_isLeft_4 : decode cX10_isLeft 4 = .ok (.iload_n 1, 1) := by decide +kernel
theorem dX10_isLeft_5 : decode cX10_isLeft 5 = .ok (.iaload, 1) := by decide +kernel
theorem dX10_isLeft_6 : decode cX10_isLeft 6 = .ok (.istore_n 2, 1) := by decide +kernel
theorem dX10_isLeft_7 : decode cX10_isLeft 7 = .ok (.iconst 0, 1) := by decide +kernel
theorem dX10_isLeft_8 : decode cX10_isLeft 8 = .ok (.istore_n 3, 1) := by decide +kernel
theorem dX10_isLeft_9 : decode cX10_isLeft 9 = .ok (.iload_n 3, 1) := by decide +kernel
theorem dX10_isLeft_10 : decode cX10_isLeft 10 = .ok (.aload_n 0, 1) := by decide +kernel
theorem dX10_isLeft_11 : decode cX10_isLeft 11 = .ok (.getfield 131, 3) := by decide +kernel
theorem dX10_isLeft_14 : decode cX10_isLeft 14 = .ok (.if_icmp .ge 42, 3) := by decide +kernel
theorem dX10_isLeft_17 : decode cX10_isLeft 17 = .ok (.iload_n 2, 1) := by decide +kernel
theorem dX10_isLeft_18 : decode cX10_isLeft 18 = .ok (.aload_n 0, 1) := by decide +kernel
theorem dX10_isLeft_19 : decode cX10_isLeft 19 = .ok (.getfield 81, 3) := by decide +kernel
theorem dX10_isLeft_22 : decode cX10_isLeft 22 = .ok (.iload_n 3, 1) := by decide +kernel
theorem dX10_isLeft_23 : decode cX10_isLeft 23 = .ok (.iaload, 1) := by decide +kernel
theorem dX10_isLeft_24 : decode cX10_isLeft 24 = .ok (.iconst 1, 1) := by decide +kernel
theorem dX10_isLeft_25 : decode cX10_isLeft 25 = .ok (.if_icmp .ne 22, 3) := by decide +kernel
theorem dX10_isLeft_28 : decode cX10_isLeft 28 = .ok (.aload_n 0, 1) := by decide +kernel
theorem dX10_isLeft_29 : decode cX10_isLeft 29 = .ok (.getfield 84, 3) := by decide +kernel
theorem dX10_isLeft_32 : decode cX10_isLeft 32 = .ok (.iload_n 3, 1) := by decide +kernel
theorem dX10_isLeft_33 : decode cX10_isLeft 33 = .ok (.iaload, 1) := by decide +kernel
theorem dX10_isLeft_34 : decode cX10_isLeft 34 = .ok (.iload_n 1, 1) := by decide +kernel
theorem dX10_isLeft_35 : decode cX10_isLeft 35 = .ok (.if_icmp .ne 12, 3) := by decide +kernel
theorem dX10_isLeft_38 : decode cX10_isLeft 38 = .ok (.aload_n 0, 1) := by decide +kernel
theorem dX10_isLeft_39 : decode cX10_isLeft 39 = .ok (.getfield 78, 3) := by decide +kernel
theorem dX10_isLeft_42 : decode cX10_isLeft 42 = .ok (.iload_n 3, 1) := by decide +kernel
theorem dX10_isLeft_43 : decode cX10_isLeft 43 = .ok (.iaload, 1) := by decide +kernel
theorem dX10_isLeft_44 : decode cX10_isLeft 44 = .ok (.goto 4, 3) := by decide +kernel
theorem dX10_isLeft_47 : decode cX10_isLeft 47 = .ok (.iconst 0, 1) := by decide +kernel
theorem dX10_isLeft_48 : decode cX10_isLeft 48 = .ok (.isub, 1) := by decide +kernel
theorem dX10_isLeft_49 : decode cX10_isLeft 49 = .ok (.istore_n 2, 1) := by decide +kernel
theorem dX10_isLeft_50 : decode cX10_isLeft 50 = .ok (.iinc 3 1, 3) := by decide +kernel
theorem dX10_isLeft_53 : decode cX10_isLeft 53 = .ok (.goto (-44), 3) := by decide +kernel
theorem dX10_isLeft_56 : decode cX10_isLeft 56 = .ok (.iload_n 2, 1) := by decide +kernel
theorem dX10_isLeft_57 : decode cX10_isLeft 57 = .ok (.ifCond .le 7, 3) := by decide +kernel
theorem dX10_isLeft_60 : decode cX10_isLeft 60 = .ok (.iconst 1, 1) := by decide +kernel
theorem dX10_isLeft_61 : decode cX10_isLeft 61 = .ok (.goto 4, 3) := by decide +kernel
theorem dX10_isLeft_64 : decode cX10_isLeft 64 = .ok (.iconst 0, 1) := by decide +kernel
theorem dX10_isLeft_65 : decode cX10_isLeft 65 = .ok (.ireturn, 1) := by decide +kernel
theorem dX10_owedOf_0 : decode cX10_owedOf 0 = .ok (.iconst 0, 1) := by decide +kernel
theorem dX10_owedOf_1 : decode cX10_owedOf 1 = .ok (.istore_n 2, 1) := by decide +kernel
theorem dX10_owedOf_2 : decode cX10_owedOf 2 = .ok (.iconst 0, 1) := by decide +kernel
theorem dX10_owedOf_3 : decode cX10_owedOf 3 = .ok (.istore_n 3, 1) := by decide +kernel
theorem dX10_owedOf_4 : decode cX10_owedOf 4 = .ok (.iconst 0, 1) := by decide +kernel
theorem dX10_owedOf_5 : decode cX10_owedOf 5 = .ok (.istore 4, 2) := by decide +kernel
theorem dX10_owedOf_7 : decode cX10_owedOf 7 = .ok (.iload 4, 2) := by decide +kernel
theorem dX10_owedOf_9 : decode cX10_owedOf 9 = .ok (.aload_n 0, 1) := by decide +kernel
theorem dX10_owedOf_10 : decode cX10_owedOf 10 = .ok (.getfield 128, 3) := by decide +kernel
theorem dX10_owedOf_13 : decode cX10_owedOf 13 = .ok (.if_icmp .ge 44, 3) := by decide +kernel
theorem dX10_owedOf_16 : decode cX10_owedOf 16 = .ok (.iload_n 2, 1) := by decide +kernel
theorem dX10_owedOf_17 : decode cX10_owedOf 17 = .ok (.aload_n 0, 1) := by decide +kernel
theorem dX10_owedOf_18 : decode cX10_owedOf 18 = .ok (.getfield 59, 3) := by decide +kernel
theorem dX10_owedOf_21 : decode cX10_owedOf 21 = .ok (.iload 4, 2) := by decide +kernel
theorem dX10_owedOf_23 : decode cX10_owedOf 23 = .ok (.iaload, 1) := by decide +kernel
theorem dX10_owedOf_24 : decode cX10_owedOf 24 = .ok (.iadd, 1) := by decide +kernel
theorem dX10_owedOf_25 : decode cX10_owedOf 25 = .ok (.istore_n 2, 1) := by decide +kernel
theorem dX10_owedOf_26 : decode cX10_owedOf 26 = .ok (.iload_n 3, 1) := by decide +kernel
theorem dX10_owedOf_27 : decode cX10_owedOf 27 = .ok (.aload_n 0, 1) := by decide +kernel
theorem dX10_owedOf_28 : decode cX10_owedOf 28 = .ok (.getfield 32, 3) := by decide +kernel
theorem dX10_owedOf_31 : decode cX10_owedOf 31 = .ok (.iload 4, 2) := by decide +kernel
theorem dX10_owedOf_33 : decode cX10_owedOf 33 = .ok (.iaload, 1) := by decide +kernel
theorem dX10_owedOf_34 : decode cX10_owedOf 34 = .ok (.iload_n 1, 1) := by decide +kernel
theorem dX10_owedOf_35 : decode cX10_owedOf 35 = .ok (.if_icmp .ne 13, 3) := by decide +kernel
theorem dX10_owedOf_38 : decode cX10_owedOf 38 = .ok (.aload_n 0, 1) := by decide +kernel
theorem dX10_owedOf_39 : decode cX10_owedOf 39 = .ok (.getfield 59, 3) := by decide +kernel
theorem dX10_owedOf_42 : decode cX10_owedOf 42 = .ok (.iload 4, 2) := by decide +kernel
theorem dX10_owedOf_44 : decode cX10_owedOf 44 = .ok (.iaload, 1) := by decide +kernel
theorem dX10_owedOf_45 : decode cX10_owedOf 45 = .ok (.goto 4, 3) := by decide +kernel
theorem dX10_owedOf_48 : decode cX10_owedOf 48 = .ok (.iconst 0, 1) := by decide +kernel
theorem dX10_owedOf_49 : decode cX10_owedOf 49 = .ok (.iadd, 1) := by decide +kernel
theorem dX10_owedOf_50 : decode cX10_owedOf 50 = .ok (.istore_n 3, 1) := by decide +kernel
theorem dX10_owedOf_51 : decode cX10_owedOf 51 = .ok (.iinc 4 1, 3) := by decide +kernel
theorem dX10_owedOf_54 : decode cX10_owedOf 54 = .ok (.goto (-47), 3) := by decide +kernel
theorem dX10_owedOf_57 : decode cX10_owedOf 57 = .ok (.aload_n 0, 1) := by decide +kernel
theorem dX10_owedOf_58 : decode cX10_owedOf 58 = .ok (.getfield 13, 3) := by decide +kernel
theorem dX10_owedOf_61 : decode cX10_owedOf 61 = .ok (.iload_n 1, 1) := by decide +kernel
theorem dX10_owedOf_62 : decode cX10_owedOf 62 = .ok (.iaload, 1) := by decide +kernel
theorem dX10_owedOf_63 : decode cX10_owedOf 63 = .ok (.iload_n 2, 1) := by decide +kernel
theorem dX10_owedOf_64 : decode cX10_owedOf 64 = .ok (.imul, 1) := by decide +kernel
theorem dX10_owedOf_65 : decode cX10_owedOf 65 = .ok (.sipush 1000, 3) := by decide +kernel
theorem dX10_owedOf_68 : decode cX10_owedOf 68 = .ok (.iload_n 3, 1) := by decide +kernel
theorem dX10_owedOf_69 : decode cX10_owedOf 69 = .ok (.imul, 1) := by decide +kernel
theorem dX10_owedOf_70 : decode cX10_owedOf 70 = .ok (.isub, 1) := by decide +kernel
theorem dX10_owedOf_71 : decode cX10_owedOf 71 = .ok (.ireturn, 1) := by decide +kernel
theorem dX10_nextOf_0 : decode cX10_nextOf 0 = .ok (.bipush (-9), 2) := by decide +kernel
theorem dX10_nextOf_2 : decode cX10_nextOf 2 = .ok (.istore_n 1, 1) := by decide +kernel
theorem dX10_nextOf_3 : decode cX10_nextOf 3 = .ok (.iconst 0, 1) := by decide +kernel
theorem dX10_nextOf_4 : decode cX10_nextOf 4 = .ok (.istore_n 2, 1) := by decide +kernel
theorem dX10_nextOf_5 : decode cX10_nextOf 5 = .ok (.iload_n 2, 1) := by decide +kernel
theorem dX10_nextOf_6 : decode cX10_nextOf 6 = .ok (.bipush 6, 2) := by decide +kernel
theorem dX10_nextOf_8 : decode cX10_nextOf 8 = .ok (.if_icmp .ge 82, 3) := by decide +kernel
theorem dX10_nextOf_11 : decode cX10_nextOf 11 = .ok (.iconst 0, 1) := by decide +kernel
theorem dX10_nextOf_12 : decode cX10_nextOf 12 = .ok (.istore_n 3, 1) := by decide +kernel
theorem dX10_nextOf_13 : decode cX10_nextOf 13 = .ok (.iconst 0, 1) := by decide +kernel
theorem dX10_nextOf_14 : decode cX10_nextOf 14 = .ok (.istore 4, 2) := by decide +kernel
theorem dX10_nextOf_16 : decode cX10_nextOf 16 = .ok (.iload 4, 2) := by decide +kernel
theorem dX10_nextOf_18 : decode cX10_nextOf 18 = .ok (.aload_n 0, 1) := by decide +kernel
theorem dX10_nextOf_19 : decode cX10_nextOf 19 = .ok (.getfield 128, 3) := by decide +kernel
theorem dX10_nextOf_22 : decode cX10_nextOf 22 = .ok (.if_icmp .ge 39, 3) := by decide +kernel
theorem dX10_nextOf_25 : decode cX10_nextOf 25 = .ok (.iload_n 3, 1) := by decide +kernel
theorem dX10_nextOf_26 : decode cX10_nextOf 26 = .ok (.ifCond .ne 35, 3) := by decide +kernel
theorem dX10_nextOf_29 : decode cX10_nextOf 29 = .ok (.aload_n 0, 1) := by decide +kernel
theorem dX10_nextOf_30 : decode cX10_nextOf 30 = .ok (.getfield 32, 3) := by decide +kernel
theorem dX10_nextOf_33 : decode cX10_nextOf 33 = .ok (.iload 4, 2) := by decide +kernel
theorem dX10_nextOf_35 : decode cX10_nextOf 35 = .ok (.iaload, 1) := by decide +kernel
theorem dX10_nextOf_36 : decode cX10_nextOf 36 = .ok (.iload_n 2, 1) := by decide +kernel
theorem dX10_nextOf_37 : decode cX10_nextOf 37 = .ok (.if_icmp .ne 16, 3) := by decide +kernel
theorem dX10_nextOf_40 : decode cX10_nextOf 40 = .ok (.aload_n 0, 1) := by decide +kernel
theorem dX10_nextOf_41 : decode cX10_nextOf 41 = .ok (.iload 4, 2) := by decide +kernel
theorem dX10_nextOf_43 : decode cX10_nextOf 43 = .ok (.invokevirtual 148, 3) := by decide +kernel
theorem dX10_nextOf_46 : decode cX10_nextOf 46 = .ok (.ifCond .eq 7, 3) := by decide +kernel
theorem dX10_nextOf_49 : decode cX10_nextOf 49 = .ok (.iconst 1, 1) := by decide +kernel
theorem dX10_nextOf_50 : decode cX10_nextOf 50 = .ok (.goto 4, 3) := by decide +kernel
theorem dX10_nextOf_53 : decode cX10_nextOf 53 = .ok (.iconst 0, 1) := by decide +kernel
theorem dX10_nextOf_54 : decode cX10_nextOf 54 = .ok (.istore_n 3, 1) := by decide +kernel
theorem dX10_nextOf_55 : decode cX10_nextOf 55 = .ok (.iinc 4 1, 3) := by decide +kernel
theorem dX10_nextOf_58 : decode cX10_nextOf 58 = .ok (.goto (-42), 3) := by decide +kernel
theorem dX10_nextOf_61 : decode cX10_nextOf 61 = .ok (.iload_n 3, 1) := by decide +kernel
theorem dX10_nextOf_62 : decode cX10_nextOf 62 = .ok (.ifCond .eq 22, 3) := by decide +kernel
theorem dX10_nextOf_65 : decode cX10_nextOf 65 = .ok (.iload_n 1, 1) := by decide +kernel
theorem dX10_nextOf_66 : decode cX10_nextOf 66 = .ok (.ifCond .lt 16, 3) := by decide +kernel
theorem dX10_nextOf_69 : decode cX10_nextOf 69 = .ok (.aload_n 0, 1) := by decide +kernel
theorem dX10_nextOf_70 : decode cX10_nextOf 70 = .ok (.iload_n 2, 1) := by decide +kernel
theorem dX10_nextOf_71 : decode cX10_nextOf 71 = .ok (.invokevirtual 151, 3) := by decide +kernel
theorem dX10_nextOf_74 : decode cX10_nextOf 74 = .ok (.aload_n 0, 1) := by decide +kernel
theorem dX10_nextOf_75 : decode cX10_nextOf 75 = .ok (.iload_n 1, 1) := by decide +kernel
theorem dX10_nextOf_76 : decode cX10_nextOf 76 = .ok (.invokevirtual 151, 3) := by decide +kernel
theorem dX10_nextOf_79 : decode cX10_nextOf 79 = .ok (.if_icmp .le 5, 3) := by decide +kernel
theorem dX10_nextOf_82 : decode cX10_nextOf 82 = .ok (.iload_n 2, 1) := by decide +kernel
theorem dX10_nextOf_83 : decode cX10_nextOf 83 = .ok (.istore_n 1, 1) := by decide +kernel
theorem dX10_nextOf_84 : decode cX10_nextOf 84 = .ok (.iinc 2 1, 3) := by decide +kernel
theorem dX10_nextOf_87 : decode cX10_nextOf 87 = .ok (.goto (-82), 3) := by decide +kernel
theorem dX10_nextOf_90 : decode cX10_nextOf 90 = .ok (.iload_n 1, 1) := by decide +kernel
theorem dX10_nextOf_91 : decode cX10_nextOf 91 = .ok (.ireturn, 1) := by decide +kernel
theorem dX10_turn_0 : decode cX10_turn 0 = .ok (.iconst 0, 1) := by decide +kernel
theorem dX10_turn_1 : decode cX10_turn 1 = .ok (.istore_n 1, 1) := by decide +kernel
theorem dX10_turn_2 : decode cX10_turn 2 = .ok (.iload_n 1, 1) := by decide +kernel
theorem dX10_turn_3 : decode cX10_turn 3 = .ok (.aload_n 0, 1) := by decide +kernel
theorem dX10_turn_4 : decode cX10_turn 4 = .ok (.getfield 131, 3) := by decide +kernel
theorem dX10_turn_7 : decode cX10_turn 7 = .ok (.if_icmp .ge 18, 3) := by decide +kernel
theorem dX10_turn_10 : decode cX10_turn 10 = .ok (.aload_n 0, 1) := by decide +kernel
theorem dX10_turn_11 : decode cX10_turn 11 = .ok (.getfield 81, 3) := by decide +kernel
theorem dX10_turn_14 : decode cX10_turn 14 = .ok (.iload_n 1, 1) := by decide +kernel
theorem dX10_turn_15 : decode cX10_turn 15 = .ok (.iaload, 1) := by decide +kernel
theorem dX10_turn_16 : decode cX10_turn 16 = .ok (.ifCond .eq 9, 3) := by decide +kernel
theorem dX10_turn_19 : decode cX10_turn 19 = .ok (.iinc 1 1, 3) := by decide +kernel
theorem dX10_turn_22 : decode cX10_turn 22 = .ok (.goto (-20), 3) := by decide +kernel
theorem dX10_turn_25 : decode cX10_turn 25 = .ok (.iload_n 1, 1) := by decide +kernel
theorem dX10_turn_26 : decode cX10_turn 26 = .ok (.aload_n 0, 1) := by decide +kernel
theorem dX10_turn_27 : decode cX10_turn 27 = .ok (.getfield 131, 3) := by decide +kernel
theorem dX10_turn_30 : decode cX10_turn 30 = .ok (.if_icmp .ne 10, 3) := by decide +kernel
theorem dX10_turn_33 : decode cX10_turn 33 = .ok (.aload_n 0, 1) := by decide +kernel
theorem dX10_turn_34 : decode cX10_turn 34 = .ok (.bipush (-3), 2) := by decide +kernel
theorem dX10_turn_36 : decode cX10_turn 36 = .ok (.invokevirtual 124, 3) := by decide +kernel
theorem dX10_turn_39 : decode cX10_turn 39 = .ok (.ireturn, 1) := by decide +kernel
theorem dX10_turn_40 : decode cX10_turn 40 = .ok (.aload_n 0, 1) := by decide +kernel
theorem dX10_turn_41 : decode cX10_turn 41 = .ok (.invokevirtual 154, 3) := by decide +kernel
theorem dX10_turn_44 : decode cX10_turn 44 = .ok (.istore_n 2, 1) := by decide +kernel
theorem dX10_turn_45 : decode cX10_turn 45 = .ok (.bipush (-9), 2) := by decide +kernel
theorem dX10_turn_47 : decode cX10_turn 47 = .ok (.istore_n 3, 1) := by decide +kernel
theorem dX10_turn_48 : decode cX10_turn 48 = .ok (.iconst 0, 1) := by decide +kernel
theorem dX10_turn_49 : decode cX10_turn 49 = .ok (.istore 4, 2) := by decide +kernel
theorem dX10_turn_51 : decode cX10_turn 51 = .ok (.iload 4, 2) := by decide +kernel
theorem dX10_turn_53 : decode cX10_turn 53 = .ok (.aload_n 0, 1) := by decide +kernel
theorem dX10_turn_54 : decode cX10_turn 54 = .ok (.getfield 128, 3) := by decide +kernel
theorem dX10_turn_57 : decode cX10_turn 57 = .ok (.if_icmp .ge 52, 3) := by decide +kernel
theorem dX10_turn_60 : decode cX10_turn 60 = .ok (.aload_n 0, 1) := by decide +kernel
theorem dX10_turn_61 : decode cX10_turn 61 = .ok (.getfield 32, 3) := by decide +kernel
theorem dX10_turn_64 : decode cX10_turn 64 = .ok (.iload 4, 2) := by decide +kernel
theorem dX10_turn_66 : decode cX10_turn 66 = .ok (.iaload, 1) := by decide +kernel
theorem dX10_turn_67 : decode cX10_turn 67 = .ok (.iload_n 2, 1) := by decide +kernel
theorem dX10_turn_68 : decode cX10_turn 68 = .ok (.if_icmp .ne 35, 3) := by decide +kernel
theorem dX10_turn_71 : decode cX10_turn 71 = .ok (.aload_n 0, 1) := by decide +kernel
theorem dX10_turn_72 : decode cX10_turn 72 = .ok (.iload 4, 2) := by decide +kernel
theorem dX10_turn_74 : decode cX10_turn 74 = .ok (.invokevirtual 148, 3) := by decide +kernel
theorem dX10_turn_77 : decode cX10_turn 77 = .ok (.ifCond .eq 26, 3) := by decide +kernel
theorem dX10_turn_80 : decode cX10_turn 80 = .ok (.iload_n 3, 1) := by decide +kernel
theorem dX10_turn_81 : decode cX10_turn 81 = .ok (.ifCond .lt 19, 3) := by decide +kernel
theorem dX10_turn_84 : decode cX10_turn 84 = .ok (.aload_n 0, 1) := by decide +kernel
theorem dX10_turn_85 : decode cX10_turn 85 = .ok (.getfield 47, 3) := by decide +kernel
theorem dX10_turn_88 : decode cX10_turn 88 = .ok (.iload 4, 2) := by decide +kernel
theorem dX10_turn_90 : decode cX10_turn 90 = .ok (.iaload, 1) := by decide +kernel
theorem dX10_turn_91 : decode cX10_turn 91 = .ok (.aload_n 0, 1) := by decide +kernel
theorem dX10_turn_92 : decode cX10_turn 92 = .ok (.getfield 47, 3) := by decide +kernel
theorem dX10_turn_95 : decode cX10_turn 95 = .ok (.iload_n 3, 1) := by decide +kernel
theorem dX10_turn_96 : decode cX10_turn 96 = .ok (.iaload, 1) := by decide +kernel
theorem dX10_turn_97 : decode cX10_turn 97 = .ok (.if_icmp .le 6, 3) := by decide +kernel
theorem dX10_turn_100 : decode cX10_turn 100 = .ok (.iload 4, 2) := by decide +kernel
theorem dX10_turn_102 : decode cX10_turn 102 = .ok (.istore_n 3, 1) := by decide +kernel
theorem dX10_turn_103 : decode cX10_turn 103 = .ok (.iinc 4 1, 3) := by decide +kernel
theorem dX10_turn_106 : decode cX10_turn 106 = .ok (.goto (-55), 3) := by decide +kernel
theorem dX10_turn_109 : decode cX10_turn 109 = .ok (.iload_n 3, 1) := by decide +kernel
theorem dX10_turn_110 : decode cX10_turn 110 = .ok (.ifCond .lt 9, 3) := by decide +kernel
theorem dX10_turn_113 : decode cX10_turn 113 = .ok (.aload_n 0, 1) := by decide +kernel
theorem dX10_turn_114 : decode cX10_turn 114 = .ok (.iload_n 1, 1) := by decide +kernel
theorem dX10_turn_115 : decode cX10_turn 115 = .ok (.iload_n 3, 1) := by decide +kernel
theorem dX10_turn_116 : decode cX10_turn 116 = .ok (.invokevirtual 144, 3) := by decide +kernel
theorem dX10_turn_119 : decode cX10_turn 119 = .ok (.iload_n 3, 1) := by decide +kernel
theorem dX10_turn_120 : decode cX10_turn 120 = .ok (.ireturn, 1) := by decide +kernel
theorem dX10_works_0 : decode cX10_works 0 = .ok (.iload_n 1, 1) := by decide +kernel
theorem dX10_works_1 : decode cX10_works 1 = .ok (.iconst 2, 1) := by decide +kernel
theorem dX10_works_2 : decode cX10_works 2 = .ok (.invokestatic 120, 3) := by decide +kernel
theorem dX10_works_5 : decode cX10_works 5 = .ok (.ifCond .ne 10, 3) := by decide +kernel
theorem dX10_works_8 : decode cX10_works 8 = .ok (.aload_n 0, 1) := by decide +kernel
theorem dX10_works_9 : decode cX10_works 9 = .ok (.bipush (-2), 2) := by decide +kernel
theorem dX10_works_11 : decode cX10_works 11 = .ok (.invokevirtual 124, 3) := by decide +kernel
theorem dX10_works_14 : decode cX10_works 14 = .ok (.ireturn, 1) := by decide +kernel
theorem dX10_works_15 : decode cX10_works 15 = .ok (.iload_n 2, 1) := by decide +kernel
theorem dX10_works_16 : decode cX10_works 16 = .ok (.ifCond .ge 10, 3) := by decide +kernel
theorem dX10_works_19 : decode cX10_works 19 = .ok (.aload_n 0, 1) := by decide +kernel
theorem dX10_works_20 : decode cX10_works 20 = .ok (.bipush (-4), 2) := by decide +kernel
theorem dX10_works_22 : decode cX10_works 22 = .ok (.invokevirtual 124, 3) := by decide +kernel
theorem dX10_works_25 : decode cX10_works 25 = .ok (.ireturn, 1) := by decide +kernel
theorem dX10_works_26 : decode cX10_works 26 = .ok (.iload_n 2, 1) := by decide +kernel
theorem dX10_works_27 : decode cX10_works 27 = .ok (.iload_n 1, 1) := by decide +kernel
theorem dX10_works_28 : decode cX10_works 28 = .ok (.ifCond .ne 9, 3) := by decide +kernel
theorem dX10_works_31 : decode cX10_works 31 = .ok (.sipush 3000, 3) := by decide +kernel
theorem dX10_works_34 : decode cX10_works 34 = .ok (.goto 6, 3) := by decide +kernel
theorem dX10_works_37 : decode cX10_works 37 = .ok (.sipush 300, 3) := by decide +kernel
theorem dX10_works_40 : decode cX10_works 40 = .ok (.if_icmp .le 10, 3) := by decide +kernel
theorem dX10_works_43 : decode cX10_works 43 = .ok (.aload_n 0, 1) := by decide +kernel
theorem dX10_works_44 : decode cX10_works 44 = .ok (.bipush (-6), 2) := by decide +kernel
theorem dX10_works_46 : decode cX10_works 46 = .ok (.invokevirtual 124, 3) := by decide +kernel
theorem dX10_works_49 : decode cX10_works 49 = .ok (.ireturn, 1) := by decide +kernel
theorem dX10_works_50 : decode cX10_works 50 = .ok (.iload_n 1, 1) := by decide +kernel
theorem dX10_works_51 : decode cX10_works 51 = .ok (.ifCond .ne 10, 3) := by decide +kernel
theorem dX10_works_54 : decode cX10_works 54 = .ok (.aload_n 0, 1) := by decide +kernel
theorem dX10_works_55 : decode cX10_works 55 = .ok (.getfield 28, 3) := by decide +kernel
theorem dX10_works_58 : decode cX10_works 58 = .ok (.goto 7, 3) := by decide +kernel
theorem dX10_works_61 : decode cX10_works 61 = .ok (.aload_n 0, 1) := by decide +kernel
theorem dX10_works_62 : decode cX10_works 62 = .ok (.getfield 158, 3) := by decide +kernel
theorem dX10_works_65 : decode cX10_works 65 = .ok (.istore_n 3, 1) := by decide +kernel
theorem dX10_works_66 : decode cX10_works 66 = .ok (.iload_n 1, 1) := by decide +kernel
theorem dX10_works_67 : decode cX10_works 67 = .ok (.ifCond .ne 11, 3) := by decide +kernel
theorem dX10_works_70 : decode cX10_works 70 = .ok (.aload_n 0, 1) := by decide +kernel
theorem dX10_works_71 : decode cX10_works 71 = .ok (.iload_n 2, 1) := by decide +kernel
theorem dX10_works_72 : decode cX10_works 72 = .ok (.putfield 28, 3) := by decide +kernel
theorem dX10_works_75 : decode cX10_works 75 = .ok (.goto 8, 3) := by decide +kernel
theorem dX10_works_78 : decode cX10_works 78 = .ok (.aload_n 0, 1) := by decide +kernel
theorem dX10_works_79 : decode cX10_works 79 = .ok (.iload_n 2, 1) := by decide +kernel
theorem dX10_works_80 : decode cX10_works 80 = .ok (.putfield 158, 3) := by decide +kernel
theorem dX10_works_83 : decode cX10_works 83 = .ok (.iload_n 3, 1) := by decide +kernel
theorem dX10_works_84 : decode cX10_works 84 = .ok (.ireturn, 1) := by decide +kernel
theorem dX10_table_0 : decode cX10_table 0 = .ok (.iload_n 1, 1) := by decide +kernel
theorem dX10_table_1 : decode cX10_table 1 = .ok (.bipush 10, 2) := by decide +kernel
theorem dX10_table_3 : decode cX10_table 3 = .ok (.invokestatic 120, 3) := by decide +kernel
theorem dX10_table_6 : decode cX10_table 6 = .ok (.ifCond .ne 10, 3) := by decide +kernel
theorem dX10_table_9 : decode cX10_table 9 = .ok (.aload_n 0, 1) := by decide +kernel
theorem dX10_table_10 : decode cX10_table 10 = .ok (.bipush (-2), 2) := by decide +kernel
theorem dX10_table_12 : decode cX10_table 12 = .ok (.invokevirtual 124, 3) := by decide +kernel
theorem dX10_table_15 : decode cX10_table 15 = .ok (.ireturn, 1) := by decide +kernel
theorem dX10_table_16 : decode cX10_table 16 = .ok (.iload_n 2, 1) := by decide +kernel
theorem dX10_table_17 : decode cX10_table 17 = .ok (.ifCond .ge 10, 3) := by decide +kernel
theorem dX10_table_20 : decode cX10_table 20 = .ok (.aload_n 0, 1) := by decide +kernel
theorem dX10_table_21 : decode cX10_table 21 = .ok (.bipush (-4), 2) := by decide +kernel
theorem dX10_table_23 : decode cX10_table 23 = .ok (.invokevirtual 124, 3) := by decide +kernel
theorem dX10_table_26 : decode cX10_table 26 = .ok (.ireturn, 1) := by decide +kernel
theorem dX10_table_27 : decode cX10_table 27 = .ok (.iload_n 2, 1) := by decide +kernel
theorem dX10_table_28 : decode cX10_table 28 = .ok (.bipush 100, 2) := by decide +kernel
theorem dX10_table_30 : decode cX10_table 30 = .ok (.if_icmp .le 10, 3) := by decide +kernel
theorem dX10_table_33 : decode cX10_table 33 = .ok (.aload_n 0, 1) := by decide +kernel
theorem dX10_table_34 : decode cX10_table 34 = .ok (.bipush (-6), 2) := by decide +kernel
theorem dX10_table_36 : decode cX10_table 36 = .ok (.invokevirtual 124, 3) := by decide +kernel
theorem dX10_table_39 : decode cX10_table 39 = .ok (.ireturn, 1) := by decide +kernel
theorem dX10_table_40 : decode cX10_table 40 = .ok (.aload_n 0, 1) := by decide +kernel
theorem dX10_table_41 : decode cX10_table 41 = .ok (.getfield 22, 3) := by decide +kernel
theorem dX10_table_44 : decode cX10_table 44 = .ok (.iload_n 1, 1) := by decide +kernel
theorem dX10_table_45 : decode cX10_table 45 = .ok (.iaload, 1) := by decide +kernel
theorem dX10_table_46 : decode cX10_table 46 = .ok (.istore_n 3, 1) := by decide +kernel
theorem dX10_table_47 : decode cX10_table 47 = .ok (.aload_n 0, 1) := by decide +kernel
theorem dX10_table_48 : decode cX10_table 48 = .ok (.getfield 22, 3) := by decide +kernel
theorem dX10_table_51 : decode cX10_table 51 = .ok (.iload_n 1, 1) := by decide +kernel
theorem dX10_table_52 : decode cX10_table 52 = .ok (.iload_n 2, 1) := by decide +kernel
theorem dX10_table_53 : decode cX10_table 53 = .ok (.iastore, 1) := by decide +kernel
theorem dX10_table_54 : decode cX10_table 54 = .ok (.iload_n 3, 1) := by decide +kernel
theorem dX10_table_55 : decode cX10_table 55 = .ok (.ireturn, 1) := by decide +kernel
theorem dX10_warmth_0 : decode cX10_warmth 0 = .ok (.iload_n 1, 1) := by decide +kernel
theorem dX10_warmth_1 : decode cX10_warmth 1 = .ok (.bipush 100, 2) := by decide +kernel
theorem dX10_warmth_3 : decode cX10_warmth 3 = .ok (.invokestatic 120, 3) := by decide +kernel
theorem dX10_warmth_6 : decode cX10_warmth 6 = .ok (.ifCond .ne 9, 3) := by decide +kernel
theorem dX10_warmth_9 : decode cX10_warmth 9 = .ok (.aload_n 0, 1) := by decide +kernel
theorem dX10_warmth_10 : decode cX10_warmth 10 = .ok (.iconst (-1), 1) := by decide +kernel
theorem dX10_warmth_11 : decode cX10_warmth 11 = .ok (.invokevirtual 124, 3) := by decide +kernel
theorem dX10_warmth_14 : decode cX10_warmth 14 = .ok (.ireturn, 1) := by decide +kernel
theorem dX10_warmth_15 : decode cX10_warmth 15 = .ok (.iload_n 2, 1) := by decide +kernel
theorem dX10_warmth_16 : decode cX10_warmth 16 = .ok (.ifCond .ge 10, 3) := by decide +kernel
theorem dX10_warmth_19 : decode cX10_warmth 19 = .ok (.aload_n 0, 1) := by decide +kernel
theorem dX10_warmth_20 : decode cX10_warmth 20 = .ok (.bipush (-4), 2) := by decide +kernel
theorem dX10_warmth_22 : decode cX10_warmth 22 = .ok (.invokevirtual 124, 3) := by decide +kernel
theorem dX10_warmth_25 : decode cX10_warmth 25 = .ok (.ireturn, 1) := by decide +kernel
theorem dX10_warmth_26 : decode cX10_warmth 26 = .ok (.iload_n 2, 1) := by decide +kernel
theorem dX10_warmth_27 : decode cX10_warmth 27 = .ok (.bipush 9, 2) := by decide +kernel
theorem dX10_warmth_29 : decode cX10_warmth 29 = .ok (.if_icmp .le 10, 3) := by decide +kernel
theorem dX10_warmth_32 : decode cX10_warmth 32 = .ok (.aload_n 0, 1) := by decide +kernel
theorem dX10_warmth_33 : decode cX10_warmth 33 = .ok (.bipush (-6), 2) := by decide +kernel
theorem dX10_warmth_35 : decode cX10_warmth 35 = .ok (.invokevirtual 124, 3) := by decide +kernel
theorem dX10_warmth_38 : decode cX10_warmth 38 = .ok (.ireturn, 1) := by decide +kernel
theorem dX10_warmth_39 : decode cX10_warmth 39 = .ok (.aload_n 0, 1) := by decide +kernel
theorem dX10_warmth_40 : decode cX10_warmth 40 = .ok (.getfield 19, 3) := by decide +kernel
theorem dX10_warmth_43 : decode cX10_warmth 43 = .ok (.iload_n 1, 1) := by decide +kernel
theorem dX10_warmth_44 : decode cX10_warmth 44 = .ok (.iaload, 1) := by decide +kernel
theorem dX10_warmth_45 : decode cX10_warmth 45 = .ok (.istore_n 3, 1) := by decide +kernel
theorem dX10_warmth_46 : decode cX10_warmth 46 = .ok (.aload_n 0, 1) := by decide +kernel
theorem dX10_warmth_47 : decode cX10_warmth 47 = .ok (.getfield 19, 3) := by decide +kernel
theorem dX10_warmth_50 : decode cX10_warmth 50 = .ok (.iload_n 1, 1) := by decide +kernel
theorem dX10_warmth_51 : decode cX10_warmth 51 = .ok (.iload_n 2, 1) := by decide +kernel
theorem dX10_warmth_52 : decode cX10_warmth 52 = .ok (.iastore, 1) := by decide +kernel
theorem dX10_warmth_53 : decode cX10_warmth 53 = .ok (.iload_n 3, 1) := by decide +kernel
theorem dX10_warmth_54 : decode cX10_warmth 54 = .ok (.ireturn, 1) := by decide +kernel
theorem dX10_price_0 : decode cX10_price 0 = .ok (.iload_n 1, 1) := by decide +kernel
theorem dX10_price_1 : decode cX10_price 1 = .ok (.bipush 10, 2) := by decide +kernel
theorem dX10_price_3 : decode cX10_price 3 = .ok (.invokestatic 120, 3) := by decide +kernel
theorem dX10_price_6 : decode cX10_price 6 = .ok (.ifCond .ne 10, 3) := by decide +kernel
theorem dX10_price_9 : decode cX10_price 9 = .ok (.aload_n 0, 1) := by decide +kernel
theorem dX10_price_10 : decode cX10_price 10 = .ok (.bipush (-2), 2) := by decide +kernel
theorem dX10_price_12 : decode cX10_price 12 = .ok (.invokevirtual 124, 3) := by decide +kernel
theorem dX10_price_15 : decode cX10_price 15 = .ok (.ireturn, 1) := by decide +kernel
theorem dX10_price_16 : decode cX10_price 16 = .ok (.iload_n 2, 1) := by decide +kernel
theorem dX10_price_17 : decode cX10_price 17 = .ok (.ifCond .ge 10, 3) := by decide +kernel
theorem dX10_price_20 : decode cX10_price 20 = .ok (.aload_n 0, 1) := by decide +kernel
theorem dX10_price_21 : decode cX10_price 21 = .ok (.bipush (-4), 2) := by decide +kernel
theorem dX10_price_23 : decode cX10_price 23 = .ok (.invokevirtual 124, 3) := by decide +kernel
theorem dX10_price_26 : decode cX10_price 26 = .ok (.ireturn, 1) := by decide +kernel
theorem dX10_price_27 : decode cX10_price 27 = .ok (.iload_n 2, 1) := by decide +kernel
theorem dX10_price_28 : decode cX10_price 28 = .ok (.sipush 1000, 3) := by decide +kernel
theorem dX10_price_31 : decode cX10_price 31 = .ok (.if_icmp .le 10, 3) := by decide +kernel
theorem dX10_price_34 : decode cX10_price 34 = .ok (.aload_n 0, 1) := by decide +kernel
theorem dX10_price_35 : decode cX10_price 35 = .ok (.bipush (-6), 2) := by decide +kernel
theorem dX10_price_37 : decode cX10_price 37 = .ok (.invokevirtual 124, 3) := by decide +kernel
theorem dX10_price_40 : decode cX10_price 40 = .ok (.ireturn, 1) := by decide +kernel
theorem dX10_price_41 : decode cX10_price 41 = .ok (.aload_n 0, 1) := by decide +kernel
theorem dX10_price_42 : decode cX10_price 42 = .ok (.getfield 25, 3) := by decide +kernel
theorem dX10_price_45 : decode cX10_price 45 = .ok (.iload_n 1, 1) := by decide +kernel
theorem dX10_price_46 : decode cX10_price 46 = .ok (.iaload, 1) := by decide +kernel
theorem dX10_price_47 : decode cX10_price 47 = .ok (.istore_n 3, 1) := by decide +kernel
theorem dX10_price_48 : decode cX10_price 48 = .ok (.aload_n 0, 1) := by decide +kernel
theorem dX10_price_49 : decode cX10_price 49 = .ok (.getfield 25, 3) := by decide +kernel
theorem dX10_price_52 : decode cX10_price 52 = .ok (.iload_n 1, 1) := by decide +kernel
theorem dX10_price_53 : decode cX10_price 53 = .ok (.iload_n 2, 1) := by decide +kernel
theorem dX10_price_54 : decode cX10_price 54 = .ok (.iastore, 1) := by decide +kernel
theorem dX10_price_55 : decode cX10_price 55 = .ok (.iload_n 3, 1) := by decide +kernel
theorem dX10_price_56 : decode cX10_price 56 = .ok (.ireturn, 1) := by decide +kernel
theorem dX10_cover_0 : decode cX10_cover 0 = .ok (.aload_n 0, 1) := by decide +kernel
theorem dX10_cover_1 : decode cX10_cover 1 = .ok (.iload_n 1, 1) := by decide +kernel
theorem dX10_cover_2 : decode cX10_cover 2 = .ok (.invokevirtual 134, 3) := by decide +kernel
theorem dX10_cover_5 : decode cX10_cover 5 = .ok (.ifCond .ne 9, 3) := by decide +kernel
theorem dX10_cover_8 : decode cX10_cover 8 = .ok (.aload_n 0, 1) := by decide +kernel
theorem dX10_cover_9 : decode cX10_cover 9 = .ok (.iconst (-1), 1) := by decide +kernel
theorem dX10_cover_10 : decode cX10_cover 10 = .ok (.invokevirtual 124, 3) := by decide +kernel
theorem dX10_cover_13 : decode cX10_cover 13 = .ok (.ireturn, 1) := by decide +kernel
theorem dX10_cover_14 : decode cX10_cover 14 = .ok (.aload_n 0, 1) := by decide +kernel
theorem dX10_cover_15 : decode cX10_cover 15 = .ok (.getfield 44, 3) := by decide +kernel
theorem dX10_cover_18 : decode cX10_cover 18 = .ok (.iload_n 1, 1) := by decide +kernel
theorem dX10_cover_19 : decode cX10_cover 19 = .ok (.iaload, 1) := by decide +kernel
theorem dX10_cover_20 : decode cX10_cover 20 = .ok (.ifCond .eq 12, 3) := by decide +kernel
theorem dX10_cover_23 : decode cX10_cover 23 = .ok (.aload_n 0, 1) := by decide +kernel
theorem dX10_cover_24 : decode cX10_cover 24 = .ok (.getfield 69, 3) := by decide +kernel
theorem dX10_cover_27 : decode cX10_cover 27 = .ok (.iload_n 1, 1) := by decide +kernel
theorem dX10_cover_28 : decode cX10_cover 28 = .ok (.baload, 1) := by decide +kernel
theorem dX10_cover_29 : decode cX10_cover 29 = .ok (.ifCond .eq 10, 3) := by decide +kernel
theorem dX10_cover_32 : decode cX10_cover 32 = .ok (.aload_n 0, 1) := by decide +kernel
theorem dX10_cover_33 : decode cX10_cover 33 = .ok (.bipush (-3), 2) := by decide +kernel
theorem dX10_cover_35 : decode cX10_cover 35 = .ok (.invokevirtual 124, 3) := by decide +kernel
theorem dX10_cover_38 : decode cX10_cover 38 = .ok (.ireturn, 1) := by decide +kernel
theorem dX10_cover_39 : decode cX10_cover 39 = .ok (.aload_n 0, 1) := by decide +kernel
theorem dX10_cover_40 : decode cX10_cover 40 = .ok (.getfield 66, 3) := by decide +kernel
theorem dX10_cover_43 : decode cX10_cover 43 = .ok (.iload_n 1, 1) := by decide +kernel
theorem dX10_cover_44 : decode cX10_cover 44 = .ok (.baload, 1) := by decide +kernel
theorem dX10_cover_45 : decode cX10_cover 45 = .ok (.iload_n 2, 1) := by decide +kernel
theorem dX10_cover_46 : decode cX10_cover 46 = .ok (.if_icmp .ne 5, 3) := by decide +kernel
theorem dX10_cover_49 : decode cX10_cover 49 = .ok (.iconst 0, 1) := by decide +kernel
theorem dX10_cover_50 : decode cX10_cover 50 = .ok (.ireturn, 1) := by decide +kernel
theorem dX10_cover_51 : decode cX10_cover 51 = .ok (.aload_n 0, 1) := by decide +kernel
theorem dX10_cover_52 : decode cX10_cover 52 = .ok (.getfield 66, 3) := by decide +kernel
theorem dX10_cover_55 : decode cX10_cover 55 = .ok (.iload_n 1, 1) := by decide +kernel
theorem dX10_cover_56 : decode cX10_cover 56 = .ok (.iload_n 2, 1) := by decide +kernel
theorem dX10_cover_57 : decode cX10_cover 57 = .ok (.bastore, 1) := by decide +kernel
theorem dX10_cover_58 : decode cX10_cover 58 = .ok (.iconst 1, 1) := by decide +kernel
theorem dX10_cover_59 : decode cX10_cover 59 = .ok (.ireturn, 1) := by decide +kernel
theorem dX10_frost_0 : decode cX10_frost 0 = .ok (.aload_n 0, 1) := by decide +kernel
theorem dX10_frost_1 : decode cX10_frost 1 = .ok (.getfield 161, 3) := by decide +kernel
theorem dX10_frost_4 : decode cX10_frost 4 = .ok (.iload_n 1, 1) := by decide +kernel
theorem dX10_frost_5 : decode cX10_frost 5 = .ok (.if_icmp .ne 10, 3) := by decide +kernel
theorem dX10_frost_8 : decode cX10_frost 8 = .ok (.aload_n 0, 1) := by decide +kernel
theorem dX10_frost_9 : decode cX10_frost 9 = .ok (.bipush (-3), 2) := by decide +kernel
theorem dX10_frost_11 : decode cX10_frost 11 = .ok (.invokevirtual 124, 3) := by decide +kernel
theorem dX10_frost_14 : decode cX10_frost 14 = .ok (.ireturn, 1) := by decide +kernel
theorem dX10_frost_15 : decode cX10_frost 15 = .ok (.aload_n 0, 1) := by decide +kernel
theorem dX10_frost_16 : decode cX10_frost 16 = .ok (.iload_n 1, 1) := by decide +kernel
theorem dX10_frost_17 : decode cX10_frost 17 = .ok (.putfield 161, 3) := by decide +kernel
theorem dX10_frost_20 : decode cX10_frost 20 = .ok (.iconst 0, 1) := by decide +kernel
theorem dX10_frost_21 : decode cX10_frost 21 = .ok (.istore_n 2, 1) := by decide +kernel
theorem dX10_frost_22 : decode cX10_frost 22 = .ok (.iconst 0, 1) := by decide +kernel
theorem dX10_frost_23 : decode cX10_frost 23 = .ok (.istore_n 3, 1) := by decide +kernel
theorem dX10_frost_24 : decode cX10_frost 24 = .ok (.iload_n 3, 1) := by decide +kernel
theorem dX10_frost_25 : decode cX10_frost 25 = .ok (.aload_n 0, 1) := by decide +kernel
theorem dX10_frost_26 : decode cX10_frost 26 = .ok (.getfield 128, 3) := by decide +kernel
theorem dX10_frost_29 : decode cX10_frost 29 = .ok (.if_icmp .ge 94, 3) := by decide +kernel
theorem dX10_frost_32 : decode cX10_frost 32 = .ok (.iload_n 1, 1) := by decide +kernel
theorem dX10_frost_33 : decode cX10_frost 33 = .ok (.ifCond .eq 39, 3) := by decide +kernel
theorem dX10_frost_36 : decode cX10_frost 36 = .ok (.aload_n 0, 1) := by decide +kernel
theorem dX10_frost_37 : decode cX10_frost 37 = .ok (.getfield 44, 3) := by decide +kernel
theorem dX10_frost_40 : decode cX10_frost 40 = .ok (.iload_n 3, 1) := by decide +kernel
theorem dX10_frost_41 : decode cX10_frost 41 = .ok (.iaload, 1) := by decide +kernel
theorem dX10_frost_42 : decode cX10_frost 42 = .ok (.ifCond .le 30, 3) := by decide +kernel
theorem dX10_frost_45 : decode cX10_frost 45 = .ok (.aload_n 0, 1) := by decide +kernel
theorem dX10_frost_46 : decode cX10_frost 46 = .ok (.getfield 66, 3) := by decide +kernel
theorem dX10_frost_49 : decode cX10_frost 49 = .ok (.iload_n 3, 1) := by decide +kernel
theorem dX10_frost_50 : decode cX10_frost 50 = .ok (.baload, 1) := by decide +kernel
theorem dX10_frost_51 : decode cX10_frost 51 = .ok (.ifCond .ne 21, 3) := by decide +kernel
theorem dX10_frost_54 : decode cX10_frost 54 = .ok (.aload_n 0, 1) := by decide +kernel
theorem dX10_frost_55 : decode cX10_frost 55 = .ok (.getfield 69, 3) := by decide +kernel
theorem dX10_frost_58 : decode cX10_frost 58 = .ok (.iload_n 3, 1) := by decide +kernel
theorem dX10_frost_59 : decode cX10_frost 59 = .ok (.iconst 1, 1) := by decide +kernel
theorem dX10_frost_60 : decode cX10_frost 60 = .ok (.bastore, 1) := by decide +kernel
theorem dX10_frost_61 : decode cX10_frost 61 = .ok (.aload_n 0, 1) := by decide +kernel
theorem dX10_frost_62 : decode cX10_frost 62 = .ok (.getfield 50, 3) := by decide +kernel
theorem dX10_frost_65 : decode cX10_frost 65 = .ok (.iload_n 3, 1) := by decide +kernel
theorem dX10_frost_66 : decode cX10_frost 66 = .ok (.bipush (-9), 2) := by decide +kernel
theorem dX10_frost_68 : decode cX10_frost 68 = .ok (.iastore, 1) := by decide +kernel
theorem dX10_frost_69 : decode cX10_frost 69 = .ok (.iinc 2 1, 3) := by decide +kernel
theorem dX10_frost_72 : decode cX10_frost 72 = .ok (.iload_n 1, 1) := by decide +kernel
theorem dX10_frost_73 : decode cX10_frost 73 = .ok (.ifCond .ne 44, 3) := by decide +kernel
theorem dX10_frost_76 : decode cX10_frost 76 = .ok (.aload_n 0, 1) := by decide +kernel
theorem dX10_frost_77 : decode cX10_frost 77 = .ok (.getfield 69, 3) := by decide +kernel
theorem dX10_frost_80 : decode cX10_frost 80 = .ok (.iload_n 3, 1) := by decide +kernel
theorem dX10_frost_81 : decode cX10_frost 81 = .ok (.baload, 1) := by decide +kernel
theorem dX10_frost_82 : decode cX10_frost 82 = .ok (.ifCond .eq 35, 3) := by decide +kernel
theorem dX10_frost_85 : decode cX10_frost 85 = .ok (.aload_n 0, 1) := by decide +kernel
theorem dX10_frost_86 : decode cX10_frost 86 = .ok (.getfield 69, 3) := by decide +kernel
theorem dX10_frost_89 : decode cX10_frost 89 = .ok (.iload_n 3, 1) := by decide +kernel
theorem dX10_frost_90 : decode cX10_frost 90 = .ok (.iconst 0, 1) := by decide +kernel
theorem dX10_frost_91 : decode cX10_frost 91 = .ok (.bastore, 1) := by decide +kernel
theorem dX10_frost_92 : decode cX10_frost 92 = .ok (.aload_n 0, 1) := by decide +kernel
theorem dX10_frost_93 : decode cX10_frost 93 = .ok (.getfield 44, 3) := by decide +kernel
theorem dX10_frost_96 : decode cX10_frost 96 = .ok (.iload_n 3, 1) := by decide +kernel
theorem dX10_frost_97 : decode cX10_frost 97 = .ok (.iaload, 1) := by decide +kernel
theorem dX10_frost_98 : decode cX10_frost 98 = .ok (.ifCond .ne 6, 3) := by decide +kernel
theorem dX10_frost_101 : decode cX10_frost 101 = .ok (.goto 16, 3) := by decide +kernel
theorem dX10_frost_104 : decode cX10_frost 104 = .ok (.aload_n 0, 1) := by decide +kernel
theorem dX10_frost_105 : decode cX10_frost 105 = .ok (.getfield 50, 3) := by decide +kernel
theorem dX10_frost_108 : decode cX10_frost 108 = .ok (.iload_n 3, 1) := by decide +kernel
theorem dX10_frost_109 : decode cX10_frost 109 = .ok (.aload_n 0, 1) := by decide +kernel
theorem dX10_frost_110 : decode cX10_frost 110 = .ok (.getfield 138, 3) := by decide +kernel
theorem dX10_frost_113 : decode cX10_frost 113 = .ok (.iastore, 1) := by decide +kernel
theorem dX10_frost_114 : decode cX10_frost 114 = .ok (.iinc 2 1, 3) := by decide +kernel
theorem dX10_frost_117 : decode cX10_frost 117 = .ok (.iinc 3 1, 3) := by decide +kernel
theorem dX10_frost_120 : decode cX10_frost 120 = .ok (.goto (-96), 3) := by decide +kernel
theorem dX10_frost_123 : decode cX10_frost 123 = .ok (.iload_n 2, 1) := by decide +kernel
theorem dX10_frost_124 : decode cX10_frost 124 = .ok (.ireturn, 1) := by decide +kernel
theorem dX10_inYard_0 : decode cX10_inYard 0 = .ok (.iconst 0, 1) := by decide +kernel
theorem dX10_inYard_1 : decode cX10_inYard 1 = .ok (.istore_n 1, 1) := by decide +kernel
theorem dX10_inYard_2 : decode cX10_inYard 2 = .ok (.iconst 0, 1) := by decide +kernel
theorem dX10_inYard_3 : decode cX10_inYard 3 = .ok (.istore_n 2, 1) := by decide +kernel
theorem dX10_inYard_4 : decode cX10_inYard 4 = .ok (.iload_n 2, 1) := by decide +kernel
theorem dX10_inYard_5 : decode cX10_inYard 5 = .ok (.aload_n 0, 1) := by decide +kernel
theorem dX10_inYard_6 : decode cX10_inYard 6 = .ok (.getfield 165, 3) := by decide +kernel
theorem dX10_inYard_9 : decode cX10_inYard 9 = .ok (.if_icmp .ge 18, 3) := by decide +kernel
theorem dX10_inYard_12 : decode cX10_inYard 12 = .ok (.iload_n 1, 1) := by decide +kernel
theorem dX10_inYard_13 : decode cX10_inYard 13 = .ok (.aload_n 0, 1) := by decide +kernel
theorem dX10_inYard_14 : decode cX10_inYard 14 = .ok (.getfield 105, 3) := by decide +kernel
theorem dX10_inYard_17 : decode cX10_inYard 17 = .ok (.iload_n 2, 1) := by decide +kernel
theorem dX10_inYard_18 : decode cX10_inYard 18 = .ok (.iaload, 1) := by decide +kernel
theorem dX10_inYard_19 : decode cX10_inYard 19 = .ok (.iadd, 1) := by decide +kernel
theorem dX10_inYard_20 : decode cX10_inYard 20 = .ok (.istore_n 1, 1) := by decide +kernel
theorem dX10_inYard_21 : decode cX10_inYard 21 = .ok (.iinc 2 1, 3) := by decide +kernel
theorem dX10_inYard_24 : decode cX10_inYard 24 = .ok (.goto (-20), 3) := by decide +kernel
theorem dX10_inYard_27 : decode cX10_inYard 27 = .ok (.iload_n 1, 1) := by decide +kernel
theorem dX10_inYard_28 : decode cX10_inYard 28 = .ok (.ireturn, 1) := by decide +kernel
theorem dX10_lifts_0 : decode cX10_lifts 0 = .ok (.iconst 0, 1) := by decide +kernel
theorem dX10_lifts_1 : decode cX10_lifts 1 = .ok (.istore_n 1, 1) := by decide +kernel
theorem dX10_lifts_2 : decode cX10_lifts 2 = .ok (.iload_n 1, 1) := by decide +kernel
theorem dX10_lifts_3 : decode cX10_lifts 3 = .ok (.iconst 4, 1) := by decide +kernel
theorem dX10_lifts_4 : decode cX10_lifts 4 = .ok (.if_icmp .ge 76, 3) := by decide +kernel
theorem dX10_lifts_7 : decode cX10_lifts 7 = .ok (.aload_n 0, 1) := by decide +kernel
theorem dX10_lifts_8 : decode cX10_lifts 8 = .ok (.getfield 75, 3) := by decide +kernel
theorem dX10_lifts_11 : decode cX10_lifts 11 = .ok (.iload_n 1, 1) := by decide +kernel
theorem dX10_lifts_12 : decode cX10_lifts 12 = .ok (.iaload, 1) := by decide +kernel
theorem dX10_lifts_13 : decode cX10_lifts 13 = .ok (.istore_n 2, 1) := by decide +kernel
theorem dX10_lifts_14 : decode cX10_lifts 14 = .ok (.iload_n 2, 1) := by decide +kernel
theorem dX10_lifts_15 : decode cX10_lifts 15 = .ok (.ifCond .ge 6, 3) := by decide +kernel
theorem dX10_lifts_18 : decode cX10_lifts 18 = .ok (.goto 56, 3) := by decide +kernel
theorem dX10_lifts_21 : decode cX10_lifts 21 = .ok (.aload_n 0, 1) := by decide +kernel
theorem dX10_lifts_22 : decode cX10_lifts 22 = .ok (.getfield 72, 3) := by decide +kernel
theorem dX10_lifts_25 : decode cX10_lifts 25 = .ok (.iload_n 1, 1) := by decide +kernel
theorem dX10_lifts_26 : decode cX10_lifts 26 = .ok (.iaload, 1) := by decide +kernel
theorem dX10_lifts_27 : decode cX10_lifts 27 = .ok (.aload_n 0, 1) := by decide +kernel
theorem dX10_lifts_28 : decode cX10_lifts 28 = .ok (.getfield 35, 3) := by decide +kernel
theorem dX10_lifts_31 : decode cX10_lifts 31 = .ok (.iload_n 2, 1) := by decide +kernel
theorem dX10_lifts_32 : decode cX10_lifts 32 = .ok (.iaload, 1) := by decide +kernel
theorem dX10_lifts_33 : decode cX10_lifts 33 = .ok (.invokestatic 168, 3) := by decide +kernel
theorem dX10_lifts_36 : decode cX10_lifts 36 = .ok (.istore_n 3, 1) := by decide +kernel
theorem dX10_lifts_37 : decode cX10_lifts 37 = .ok (.aload_n 0, 1) := by decide +kernel
theorem dX10_lifts_38 : decode cX10_lifts 38 = .ok (.getfield 35, 3) := by decide +kernel
theorem dX10_lifts_41 : decode cX10_lifts 41 = .ok (.iload_n 2, 1) := by decide +kernel
theorem dX10_lifts_42 : decode cX10_lifts 42 = .ok (.dup2, 1) := by decide +kernel
theorem dX10_lifts_43 : decode cX10_lifts 43 = .ok (.iaload, 1) := by decide +kernel
theorem dX10_lifts_44 : decode cX10_lifts 44 = .ok (.iload_n 3, 1) := by decide +kernel
theorem dX10_lifts_45 : decode cX10_lifts 45 = .ok (.isub, 1) := by decide +kernel
theorem dX10_lifts_46 : decode cX10_lifts 46 = .ok (.iastore, 1) := by decide +kernel
theorem dX10_lifts_47 : decode cX10_lifts 47 = .ok (.aload_n 0, 1) := by decide +kernel
theorem dX10_lifts_48 : decode cX10_lifts 48 = .ok (.getfield 44, 3) := by decide +kernel
theorem dX10_lifts_51 : decode cX10_lifts 51 = .ok (.iload_n 2, 1) := by decide +kernel
theorem dX10_lifts_52 : decode cX10_lifts 52 = .ok (.dup2, 1) := by decide +kernel
theorem dX10_lifts_53 : decode cX10_lifts 53 = .ok (.iaload, 1) := by decide +kernel
theorem dX10_lifts_54 : decode cX10_lifts 54 = .ok (.iload_n 3, 1) := by decide +kernel
theorem dX10_lifts_55 : decode cX10_lifts 55 = .ok (.iadd, 1) := by decide +kernel
theorem dX10_lifts_56 : decode cX10_lifts 56 = .ok (.iastore, 1) := by decide +kernel
theorem dX10_lifts_57 : decode cX10_lifts 57 = .ok (.aload_n 0, 1) := by decide +kernel
theorem dX10_lifts_58 : decode cX10_lifts 58 = .ok (.getfield 47, 3) := by decide +kernel
theorem dX10_lifts_61 : decode cX10_lifts 61 = .ok (.iload_n 2, 1) := by decide +kernel
theorem dX10_lifts_62 : decode cX10_lifts 62 = .ok (.dup2, 1) := by decide +kernel
theorem dX10_lifts_63 : decode cX10_lifts 63 = .ok (.iaload, 1) := by decide +kernel
theorem dX10_lifts_64 : decode cX10_lifts 64 = .ok (.iload_n 3, 1) := by decide +kernel
theorem dX10_lifts_65 : decode cX10_lifts 65 = .ok (.aload_n 0, 1) := by decide +kernel
theorem dX10_lifts_66 : decode cX10_lifts 66 = .ok (.getfield 38, 3) := by decide +kernel
theorem dX10_lifts_69 : decode cX10_lifts 69 = .ok (.iload_n 2, 1) := by decide +kernel
theorem dX10_lifts_70 : decode cX10_lifts 70 = .ok (.iaload, 1) := by decide +kernel
theorem dX10_lifts_71 : decode cX10_lifts 71 = .ok (.imul, 1) := by decide +kernel
theorem dX10_lifts_72 : decode cX10_lifts 72 = .ok (.iadd, 1) := by decide +kernel
theorem dX10_lifts_73 : decode cX10_lifts 73 = .ok (.iastore, 1) := by decide +kernel
theorem dX10_lifts_74 : decode cX10_lifts 74 = .ok (.iinc 1 1, 3) := by decide +kernel
theorem dX10_lifts_77 : decode cX10_lifts 77 = .ok (.goto (-75), 3) := by decide +kernel
theorem dX10_lifts_80 : decode cX10_lifts 80 = .ok (.return_, 1) := by decide +kernel
theorem dX10_arrives_0 : decode cX10_arrives 0 = .ok (.aload_n 0, 1) := by decide +kernel
theorem dX10_arrives_1 : decode cX10_arrives 1 = .ok (.getfield 87, 3) := by decide +kernel
theorem dX10_arrives_4 : decode cX10_arrives 4 = .ok (.iload_n 1, 1) := by decide +kernel
theorem dX10_arrives_5 : decode cX10_arrives 5 = .ok (.iaload, 1) := by decide +kernel
theorem dX10_arrives_6 : decode cX10_arrives 6 = .ok (.aload_n 0, 1) := by decide +kernel
theorem dX10_arrives_7 : decode cX10_arrives 7 = .ok (.getfield 138, 3) := by decide +kernel
theorem dX10_arrives_10 : decode cX10_arrives 10 = .ok (.if_icmp .ne 23, 3) := by decide +kernel
theorem dX10_arrives_13 : decode cX10_arrives 13 = .ok (.aload_n 0, 1) := by decide +kernel
theorem dX10_arrives_14 : decode cX10_arrives 14 = .ok (.getfield 81, 3) := by decide +kernel
theorem dX10_arrives_17 : decode cX10_arrives 17 = .ok (.iload_n 1, 1) := by decide +kernel
theorem dX10_arrives_18 : decode cX10_arrives 18 = .ok (.iaload, 1) := by decide +kernel
theorem dX10_arrives_19 : decode cX10_arrives 19 = .ok (.iconst 1, 1) := by decide +kernel
theorem dX10_arrives_20 : decode cX10_arrives 20 = .ok (.if_icmp .eq 14, 3) := by decide +kernel
theorem dX10_arrives_23 : decode cX10_arrives 23 = .ok (.aload_n 0, 1) := by decide +kernel
theorem dX10_arrives_24 : decode cX10_arrives 24 = .ok (.getfield 81, 3) := by decide +kernel
theorem dX10_arrives_27 : decode cX10_arrives 27 = .ok (.iload_n 1, 1) := by decide +kernel
theorem dX10_arrives_28 : decode cX10_arrives 28 = .ok (.iaload, 1) := by decide +kernel
theorem dX10_arrives_29 : decode cX10_arrives 29 = .ok (.iconst 2, 1) := by decide +kernel
theorem dX10_arrives_30 : decode cX10_arrives 30 = .ok (.if_icmp .eq 4, 3) := by decide +kernel
theorem dX10_arrives_33 : decode cX10_arrives 33 = .ok (.return_, 1) := by decide +kernel
theorem dX10_arrives_34 : decode cX10_arrives 34 = .ok (.aload_n 0, 1) := by decide +kernel
theorem dX10_arrives_35 : decode cX10_arrives 35 = .ok (.getfield 84, 3) := by decide +kernel
theorem dX10_arrives_38 : decode cX10_arrives 38 = .ok (.iload_n 1, 1) := by decide +kernel
theorem dX10_arrives_39 : decode cX10_arrives 39 = .ok (.iaload, 1) := by decide +kernel
theorem dX10_arrives_40 : decode cX10_arrives 40 = .ok (.istore_n 2, 1) := by decide +kernel
theorem dX10_arrives_41 : decode cX10_arrives 41 = .ok (.aload_n 0, 1) := by decide +kernel
theorem dX10_arrives_42 : decode cX10_arrives 42 = .ok (.getfield 81, 3) := by decide +kernel
theorem dX10_arrives_45 : decode cX10_arrives 45 = .ok (.iload_n 1, 1) := by decide +kernel
theorem dX10_arrives_46 : decode cX10_arrives 46 = .ok (.iaload, 1) := by decide +kernel
theorem dX10_arrives_47 : decode cX10_arrives 47 = .ok (.iconst 2, 1) := by decide +kernel
theorem dX10_arrives_48 : decode cX10_arrives 48 = .ok (.if_icmp .ne 19, 3) := by decide +kernel
theorem dX10_arrives_51 : decode cX10_arrives 51 = .ok (.aload_n 0, 1) := by decide +kernel
theorem dX10_arrives_52 : decode cX10_arrives 52 = .ok (.getfield 81, 3) := by decide +kernel
theorem dX10_arrives_55 : decode cX10_arrives 55 = .ok (.iload_n 1, 1) := by decide +kernel
theorem dX10_arrives_56 : decode cX10_arrives 56 = .ok (.iconst 3, 1) := by decide +kernel
theorem dX10_arrives_57 : decode cX10_arrives 57 = .ok (.iastore, 1) := by decide +kernel
theorem dX10_arrives_58 : decode cX10_arrives 58 = .ok (.aload_n 0, 1) := by decide +kernel
theorem dX10_arrives_59 : decode cX10_arrives 59 = .ok (.getfield 87, 3) := by decide +kernel
theorem dX10_arrives_62 : decode cX10_arrives 62 = .ok (.iload_n 1, 1) := by decide +kernel
theorem dX10_arrives_63 : decode cX10_arrives 63 = .ok (.bipush (-9), 2) := by decide +kernel
theorem dX10_arrives_65 : decode cX10_arrives 65 = .ok (.iastore, 1) := by decide +kernel
theorem dX10_arrives_66 : decode cX10_arrives 66 = .ok (.return_, 1) := by decide +kernel
theorem dX10_arrives_67 : decode cX10_arrives 67 = .ok (.aload_n 0, 1) := by decide +kernel
theorem dX10_arrives_68 : decode cX10_arrives 68 = .ok (.getfield 78, 3) := by decide +kernel
theorem dX10_arrives_71 : decode cX10_arrives 71 = .ok (.iload_n 1, 1) := by decide +kernel
theorem dX10_arrives_72 : decode cX10_arrives 72 = .ok (.iaload, 1) := by decide +kernel
theorem dX10_arrives_73 : decode cX10_arrives 73 = .ok (.aload_n 0, 1) := by decide +kernel
theorem dX10_arrives_74 : decode cX10_arrives 74 = .ok (.getfield 44, 3) := by decide +kernel
theorem dX10_arrives_77 : decode cX10_arrives 77 = .ok (.iload_n 2, 1) := by decide +kernel
theorem dX10_arrives_78 : decode cX10_arrives 78 = .ok (.iaload, 1) := by decide +kernel
theorem dX10_arrives_79 : decode cX10_arrives 79 = .ok (.invokestatic 168, 3) := by decide +kernel
theorem dX10_arrives_82 : decode cX10_arrives 82 = .ok (.istore_n 3, 1) := by decide +kernel
theorem dX10_arrives_83 : decode cX10_arrives 83 = .ok (.iload_n 3, 1) := by decide +kernel
theorem dX10_arrives_84 : decode cX10_arrives 84 = .ok (.ifCond .ne 7, 3) := by decide +kernel
theorem dX10_arrives_87 : decode cX10_arrives 87 = .ok (.iconst 0, 1) := by decide +kernel
theorem dX10_arrives_88 : decode cX10_arrives 88 = .ok (.goto 22, 3) := by decide +kernel
theorem dX10_arrives_91 : decode cX10_arrives 91 = .ok (.aload_n 0, 1) := by decide +kernel
theorem dX10_arrives_92 : decode cX10_arrives 92 = .ok (.getfield 47, 3) := by decide +kernel
theorem dX10_arrives_95 : decode cX10_arrives 95 = .ok (.iload_n 2, 1) := by decide +kernel
theorem dX10_arrives_96 : decode cX10_arrives 96 = .ok (.iaload, 1) := by decide +kernel
theorem dX10_arrives_97 : decode cX10_arrives 97 = .ok (.i2l, 1) := by decide +kernel
theorem dX10_arrives_98 : decode cX10_arrives 98 = .ok (.iload_n 3, 1) := by decide +kernel
theorem dX10_arrives_99 : decode cX10_arrives 99 = .ok (.i2l, 1) := by decide +kernel
theorem dX10_arrives_100 : decode cX10_arrives 100 = .ok (.lmul, 1) := by decide +kernel
theorem dX10_arrives_101 : decode cX10_arrives 101 = .ok (.aload_n 0, 1) := by decide +kernel
theorem dX10_arrives_102 : decode cX10_arrives 102 = .ok (.getfield 44, 3) := by decide +kernel
theorem dX10_arrives_105 : decode cX10_arrives 105 = .ok (.iload_n 2, 1) := by decide +kernel
theorem dX10_arrives_106 : decode cX10_arrives 106 = .ok (.iaload, 1) := by decide +kernel
theorem dX10_arrives_107 : decode cX10_arrives 107 = .ok (.i2l, 1) := by decide +kernel
theorem dX10_arrives_108 : decode cX10_arrives 108 = .ok (.ldiv, 1) := by decide +kernel
theorem dX10_arrives_109 : decode cX10_arrives 109 = .ok (.l2i, 1) := by decide +kernel
theorem dX10_arrives_110 : decode cX10_arrives 110 = .ok (.istore 4, 2) := by decide +kernel
theorem dX10_arrives_112 : decode cX10_arrives 112 = .ok (.aload_n 0, 1) := by decide +kernel
theorem dX10_arrives_113 : decode cX10_arrives 113 = .ok (.getfield 90, 3) := by decide +kernel
theorem dX10_arrives_116 : decode cX10_arrives 116 = .ok (.iload_n 1, 1) := by decide +kernel
theorem dX10_arrives_117 : decode cX10_arrives 117 = .ok (.iload_n 3, 1) := by decide +kernel
theorem dX10_arrives_118 : decode cX10_arrives 118 = .ok (.iastore, 1) := by decide +kernel
theorem dX10_arrives_119 : decode cX10_arrives 119 = .ok (.aload_n 0, 1) := by decide +kernel
theorem dX10_arrives_120 : decode cX10_arrives 120 = .ok (.getfield 93, 3) := by decide +kernel
theorem dX10_arrives_123 : decode cX10_arrives 123 = .ok (.iload_n 1, 1) := by decide +kernel
theorem dX10_arrives_124 : decode cX10_arrives 124 = .ok (.iload 4, 2) := by decide +kernel
theorem dX10_arrives_126 : decode cX10_arrives 126 = .ok (.iastore, 1) := by decide +kernel
theorem dX10_arrives_127 : decode cX10_arrives 127 = .ok (.aload_n 0, 1) := by decide +kernel
theorem dX10_arrives_128 : decode cX10_arrives 128 = .ok (.getfield 44, 3) := by decide +kernel
theorem dX10_arrives_131 : decode cX10_arrives 131 = .ok (.iload_n 2, 1) := by decide +kernel
theorem dX10_arrives_132 : decode cX10_arrives 132 = .ok (.dup2, 1) := by decide +kernel
theorem dX10_arrives_133 : decode cX10_arrives 133 = .ok (.iaload, 1) := by decide +kernel
theorem dX10_arrives_134 : decode cX10_arrives 134 = .ok (.iload_n 3, 1) := by decide +kernel
theorem dX10_arrives_135 : decode cX10_arrives 135 = .ok (.isub, 1) := by decide +kernel
theorem dX10_arrives_136 : decode cX10_arrives 136 = .ok (.iastore, 1) := by decide +kernel
theorem dX10_arrives_137 : decode cX10_arrives 137 = .ok (.aload_n 0, 1) := by decide +kernel
theorem dX10_arrives_138 : decode cX10_arrives 138 = .ok (.getfield 47, 3) := by decide +kernel
theorem dX10_arrives_141 : decode cX10_arrives 141 = .ok (.iload_n 2, 1) := by decide +kernel
theorem dX10_arrives_142 : decode cX10_arrives 142 = .ok (.dup2, 1) := by decide +kernel
theorem dX10_arrives_143 : decode cX10_arrives 143 = .ok (.iaload, 1) := by decide +kernel
theorem dX10_arrives_144 : decode cX10_arrives 144 = .ok (.iload 4, 2) := by decide +kernel
theorem dX10_arrives_146 : decode cX10_arrives 146 = .ok (.isub, 1) := by decide +kernel
theorem dX10_arrives_147 : decode cX10_arrives 147 = .ok (.iastore, 1) := by decide +kernel
theorem dX10_arrives_148 : decode cX10_arrives 148 = .ok (.aload_n 0, 1) := by decide +kernel
theorem dX10_arrives_149 : decode cX10_arrives 149 = .ok (.getfield 44, 3) := by decide +kernel
theorem dX10_arrives_152 : decode cX10_arrives 152 = .ok (.iload_n 2, 1) := by decide +kernel
theorem dX10_arrives_153 : decode cX10_arrives 153 = .ok (.iaload, 1) := by decide +kernel
theorem dX10_arrives_154 : decode cX10_arrives 154 = .ok (.ifCond .ne 11, 3) := by decide +kernel
theorem dX10_arrives_157 : decode cX10_arrives 157 = .ok (.aload_n 0, 1) := by decide +kernel
theorem dX10_arrives_158 : decode cX10_arrives 158 = .ok (.getfield 50, 3) := by decide +kernel
theorem dX10_arrives_161 : decode cX10_arrives 161 = .ok (.iload_n 2, 1) := by decide +kernel
theorem dX10_arrives_162 : decode cX10_arrives 162 = .ok (.bipush (-9), 2) := by decide +kernel
theorem dX10_arrives_164 : decode cX10_arrives 164 = .ok (.iastore, 1) := by decide +kernel
theorem dX10_arrives_165 : decode cX10_arrives 165 = .ok (.aload_n 0, 1) := by decide +kernel
theorem dX10_arrives_166 : decode cX10_arrives 166 = .ok (.getfield 81, 3) := by decide +kernel
theorem dX10_arrives_169 : decode cX10_arrives 169 = .ok (.iload_n 1, 1) := by decide +kernel
theorem dX10_arrives_170 : decode cX10_arrives 170 = .ok (.iconst 2, 1) := by decide +kernel
theorem dX10_arrives_171 : decode cX10_arrives 171 = .ok (.iastore, 1) := by decide +kernel
theorem dX10_arrives_172 : decode cX10_arrives 172 = .ok (.aload_n 0, 1) := by decide +kernel
theorem dX10_arrives_173 : decode cX10_arrives 173 = .ok (.getfield 87, 3) := by decide +kernel
theorem dX10_arrives_176 : decode cX10_arrives 176 = .ok (.iload_n 1, 1) := by decide +kernel
theorem dX10_arrives_177 : decode cX10_arrives 177 = .ok (.aload_n 0, 1) := by decide +kernel
theorem dX10_arrives_178 : decode cX10_arrives 178 = .ok (.getfield 138, 3) := by decide +kernel
theorem dX10_arrives_181 : decode cX10_arrives 181 = .ok (.aload_n 0, 1) := by decide +kernel
theorem dX10_arrives_182 : decode cX10_arrives 182 = .ok (.getfield 41, 3) := by decide +kernel
theorem dX10_arrives_185 : decode cX10_arrives 185 = .ok (.iload_n 2, 1) := by decide +kernel
theorem dX10_arrives_186 : decode cX10_arrives 186 = .ok (.iaload, 1) := by decide +kernel
theorem dX10_arrives_187 : decode cX10_arrives 187 = .ok (.iadd, 1) := by decide +kernel
theorem dX10_arrives_188 : decode cX10_arrives 188 = .ok (.aload_n 0, 1) := by decide +kernel
theorem dX10_arrives_189 : decode cX10_arrives 189 = .ok (.getfield 62, 3) := by decide +kernel
theorem dX10_arrives_192 : decode cX10_arrives 192 = .ok (.iload_n 2, 1) := by decide +kernel
theorem dX10_arrives_193 : decode cX10_arrives 193 = .ok (.baload, 1) := by decide +kernel
theorem dX10_arrives_194 : decode cX10_arrives 194 = .ok (.ifCond .eq 7, 3) := by decide +kernel
theorem dX10_arrives_197 : decode cX10_arrives 197 = .ok (.iconst 1, 1) := by decide +kernel
theorem dX10_arrives_198 : decode cX10_arrives 198 = .ok (.goto 4, 3) := by decide +kernel
theorem dX10_arrives_201 : decode cX10_arrives 201 = .ok (.iconst 0, 1) := by decide +kernel
theorem dX10_arrives_202 : decode cX10_arrives 202 = .ok (.iadd, 1) := by decide +kernel
theorem dX10_arrives_203 : decode cX10_arrives 203 = .ok (.iastore, 1) := by decide +kernel
theorem dX10_arrives_204 : decode cX10_arrives 204 = .ok (.return_, 1) := by decide +kernel
theorem dX10_unloads_0 : decode cX10_unloads 0 = .ok (.iconst 1, 1) := by decide +kernel
theorem dX10_unloads_1 : decode cX10_unloads 1 = .ok (.istore_n 1, 1) := by decide +kernel
theorem dX10_unloads_2 : decode cX10_unloads 2 = .ok (.iconst 0, 1) := by decide +kernel
theorem dX10_unloads_3 : decode cX10_unloads 3 = .ok (.istore_n 2, 1) := by decide +kernel
theorem dX10_unloads_4 : decode cX10_unloads 4 = .ok (.iload_n 2, 1) := by decide +kernel
theorem dX10_unloads_5 : decode cX10_unloads 5 = .ok (.aload_n 0, 1) := by decide +kernel
theorem dX10_unloads_6 : decode cX10_unloads 6 = .ok (.getfield 131, 3) := by decide +kernel
theorem dX10_unloads_9 : decode cX10_unloads 9 = .ok (.if_icmp .ge 81, 3) := by decide +kernel
theorem dX10_unloads_12 : decode cX10_unloads 12 = .ok (.aload_n 0, 1) := by decide +kernel
theorem dX10_unloads_13 : decode cX10_unloads 13 = .ok (.getfield 81, 3) := by decide +kernel
theorem dX10_unloads_16 : decode cX10_unloads 16 = .ok (.iload_n 2, 1) := by decide +kernel
theorem dX10_unloads_17 : decode cX10_unloads 17 = .ok (.iaload, 1) := by decide +kernel
theorem dX10_unloads_18 : decode cX10_unloads 18 = .ok (.iconst 3, 1) := by decide +kernel
theorem dX10_unloads_19 : decode cX10_unloads 19 = .ok (.if_icmp .eq 6, 3) := by decide +kernel
theorem dX10_unloads_22 : decode cX10_unloads 22 = .ok (.goto 62, 3) := by decide +kernel
theorem dX10_unloads_25 : decode cX10_unloads 25 = .ok (.iload_n 1, 1) := by decide +kernel
theorem dX10_unloads_26 : decode cX10_unloads 26 = .ok (.ifCond .eq 34, 3) := by decide +kernel
theorem dX10_unloads_29 : decode cX10_unloads 29 = .ok (.aload_n 0, 1) := by decide +kernel
theorem dX10_unloads_30 : decode cX10_unloads 30 = .ok (.getfield 90, 3) := by decide +kernel
theorem dX10_unloads_33 : decode cX10_unloads 33 = .ok (.iload_n 2, 1) := by decide +kernel
theorem dX10_unloads_34 : decode cX10_unloads 34 = .ok (.iaload, 1) := by decide +kernel
theorem dX10_unloads_35 : decode cX10_unloads 35 = .ok (.ifCond .eq 21, 3) := by decide +kernel
theorem dX10_unloads_38 : decode cX10_unloads 38 = .ok (.aload_n 0, 1) := by decide +kernel
theorem dX10_unloads_39 : decode cX10_unloads 39 = .ok (.invokevirtual 174, 3) := by decide +kernel
theorem dX10_unloads_42 : decode cX10_unloads 42 = .ok (.aload_n 0, 1) := by decide +kernel
theorem dX10_unloads_43 : decode cX10_unloads 43 = .ok (.getfield 90, 3) := by decide +kernel
theorem dX10_unloads_46 : decode cX10_unloads 46 = .ok (.iload_n 2, 1) := by decide +kernel
theorem dX10_unloads_47 : decode cX10_unloads 47 = .ok (.iaload, 1) := by decide +kernel
theorem dX10_unloads_48 : decode cX10_unloads 48 = .ok (.iadd, 1) := by decide +kernel
theorem dX10_unloads_49 : decode cX10_unloads 49 = .ok (.aload_n 0, 1) := by decide +kernel
theorem dX10_unloads_50 : decode cX10_unloads 50 = .ok (.getfield 28, 3) := by decide +kernel
theorem dX10_unloads_53 : decode cX10_unloads 53 = .ok (.if_icmp .gt 7, 3) := by decide +kernel
theorem dX10_unloads_56 : decode cX10_unloads 56 = .ok (.iconst 1, 1) := by decide +kernel
theorem dX10_unloads_57 : decode cX10_unloads 57 = .ok (.goto 4, 3) := by decide +kernel
theorem dX10_unloads_60 : decode cX10_unloads 60 = .ok (.iconst 0, 1) := by decide +kernel
theorem dX10_unloads_61 : decode cX10_unloads 61 = .ok (.istore_n 1, 1) := by decide +kernel
theorem dX10_unloads_62 : decode cX10_unloads 62 = .ok (.iload_n 1, 1) := by decide +kernel
theorem dX10_unloads_63 : decode cX10_unloads 63 = .ok (.ifCond .eq 11, 3) := by decide +kernel
theorem dX10_unloads_66 : decode cX10_unloads 66 = .ok (.aload_n 0, 1) := by decide +kernel
theorem dX10_unloads_67 : decode cX10_unloads 67 = .ok (.iload_n 2, 1) := by decide +kernel
theorem dX10_unloads_68 : decode cX10_unloads 68 = .ok (.invokevirtual 177, 3) := by decide +kernel
theorem dX10_unloads_71 : decode cX10_unloads 71 = .ok (.goto 13, 3) := by decide +kernel
theorem dX10_unloads_74 : decode cX10_unloads 74 = .ok (.aload_n 0, 1) := by decide +kernel
theorem dX10_unloads_75 : decode cX10_unloads 75 = .ok (.getfield 96, 3) := by decide +kernel
theorem dX10_unloads_78 : decode cX10_unloads 78 = .ok (.iload_n 2, 1) := by decide +kernel
theorem dX10_unloads_79 : decode cX10_unloads 79 = .ok (.dup2, 1) := by decide +kernel
theorem dX10_unloads_80 : decode cX10_unloads 80 = .ok (.iaload, 1) := by decide +kernel
theorem dX10_unloads_81 : decode cX10_unloads 81 = .ok (.iconst 1, 1) := by decide +kernel
theorem dX10_unloads_82 : decode cX10_unloads 82 = .ok (.iadd, 1) := by decide +kernel
theorem dX10_unloads_83 : decode cX10_unloads 83 = .ok (.iastore, 1) := by decide +kernel
theorem dX10_unloads_84 : decode cX10_unloads 84 = .ok (.iinc 2 1, 3) := by decide +kernel
theorem dX10_unloads_87 : decode cX10_unloads 87 = .ok (.goto (-83), 3) := by decide +kernel
theorem dX10_unloads_90 : decode cX10_unloads 90 = .ok (.return_, 1) := by decide +kernel
theorem dX10_brings_0 : decode cX10_brings 0 = .ok (.aload_n 0, 1) := by decide +kernel
theorem dX10_brings_1 : decode cX10_brings 1 = .ok (.getfield 84, 3) := by decide +kernel
theorem dX10_brings_4 : decode cX10_brings 4 = .ok (.iload_n 1, 1) := by decide +kernel
theorem dX10_brings_5 : decode cX10_brings 5 = .ok (.iaload, 1) := by decide +kernel
theorem dX10_brings_6 : decode cX10_brings 6 = .ok (.istore_n 2, 1) := by decide +kernel
theorem dX10_brings_7 : decode cX10_brings 7 = .ok (.aload_n 0, 1) := by decide +kernel
theorem dX10_brings_8 : decode cX10_brings 8 = .ok (.getfield 90, 3) := by decide +kernel
theorem dX10_brings_11 : decode cX10_brings 11 = .ok (.iload_n 1, 1) := by decide +kernel
theorem dX10_brings_12 : decode cX10_brings 12 = .ok (.iaload, 1) := by decide +kernel
theorem dX10_brings_13 : decode cX10_brings 13 = .ok (.ifCond .le 125, 3) := by decide +kernel
theorem dX10_brings_16 : decode cX10_brings 16 = .ok (.aload_n 0, 1) := by decide +kernel
theorem dX10_brings_17 : decode cX10_brings 17 = .ok (.getfield 102, 3) := by decide +kernel
theorem dX10_brings_20 : decode cX10_brings 20 = .ok (.aload_n 0, 1) := by decide +kernel
theorem dX10_brings_21 : decode cX10_brings 21 = .ok (.getfield 165, 3) := by decide +kernel
theorem dX10_brings_24 : decode cX10_brings 24 = .ok (.iload_n 2, 1) := by decide +kernel
theorem dX10_brings_25 : decode cX10_brings 25 = .ok (.iastore, 1) := by decide +kernel
theorem dX10_brings_26 : decode cX10_brings 26 = .ok (.aload_n 0, 1) := by decide +kernel
theorem dX10_brings_27 : decode cX10_brings 27 = .ok (.getfield 105, 3) := by decide +kernel
theorem dX10_brings_30 : decode cX10_brings 30 = .ok (.aload_n 0, 1) := by decide +kernel
theorem dX10_brings_31 : decode cX10_brings 31 = .ok (.getfield 165, 3) := by decide +kernel
theorem dX10_brings_34 : decode cX10_brings 34 = .ok (.aload_n 0, 1) := by decide +kernel
theorem dX10_brings_35 : decode cX10_brings 35 = .ok (.getfield 90, 3) := by decide +kernel
theorem dX10_brings_38 : decode cX10_brings 38 = .ok (.iload_n 1, 1) := by decide +kernel
theorem dX10_brings_39 : decode cX10_brings 39 = .ok (.iaload, 1) := by decide +kernel
theorem dX10_brings_40 : decode cX10_brings 40 = .ok (.iastore, 1) := by decide +kernel
theorem dX10_brings_41 : decode cX10_brings 41 = .ok (.aload_n 0, 1) := by decide +kernel
theorem dX10_brings_42 : decode cX10_brings 42 = .ok (.getfield 108, 3) := by decide +kernel
theorem dX10_brings_45 : decode cX10_brings 45 = .ok (.aload_n 0, 1) := by decide +kernel
theorem dX10_brings_46 : decode cX10_brings 46 = .ok (.getfield 165, 3) := by decide +kernel
theorem dX10_brings_49 : decode cX10_brings 49 = .ok (.aload_n 0, 1) := by decide +kernel
theorem dX10_brings_50 : decode cX10_brings 50 = .ok (.getfield 93, 3) := by decide +kernel
theorem dX10_brings_53 : decode cX10_brings 53 = .ok (.iload_n 1, 1) := by decide +kernel
theorem dX10_brings_54 : decode cX10_brings 54 = .ok (.iaload, 1) := by decide +kernel
theorem dX10_brings_55 : decode cX10_brings 55 = .ok (.iastore, 1) := by decide +kernel
theorem dX10_brings_56 : decode cX10_brings 56 = .ok (.aload_n 0, 1) := by decide +kernel
theorem dX10_brings_57 : decode cX10_brings 57 = .ok (.dup, 1) := by decide +kernel
theorem dX10_brings_58 : decode cX10_brings 58 = .ok (.getfield 165, 3) := by decide +kernel
theorem dX10_brings_61 : decode cX10_brings 61 = .ok (.iconst 1, 1) := by decide +kernel
theorem dX10_brings_62 : decode cX10_brings 62 = .ok (.iadd, 1) := by decide +kernel
theorem dX10_brings_63 : decode cX10_brings 63 = .ok (.putfield 165, 3) := by decide +kernel
theorem dX10_brings_66 : decode cX10_brings 66 = .ok (.aload_n 0, 1) := by decide +kernel
theorem dX10_brings_67 : decode cX10_brings 67 = .ok (.getfield 16, 3) := by decide +kernel
theorem dX10_brings_70 : decode cX10_brings 70 = .ok (.aload_n 0, 1) := by decide +kernel
theorem dX10_brings_71 : decode cX10_brings 71 = .ok (.getfield 32, 3) := by decide +kernel
theorem dX10_brings_74 : decode cX10_brings 74 = .ok (.iload_n 2, 1) := by decide +kernel
theorem dX10_brings_75 : decode cX10_brings 75 = .ok (.iaload, 1) := by decide +kernel
theorem dX10_brings_76 : decode cX10_brings 76 = .ok (.dup2, 1) := by decide +kernel
theorem dX10_brings_77 : decode cX10_brings 77 = .ok (.iaload, 1) := by decide +kernel
theorem dX10_brings_78 : decode cX10_brings 78 = .ok (.aload_n 0, 1) := by decide +kernel
theorem dX10_brings_79 : decode cX10_brings 79 = .ok (.getfield 90, 3) := by decide +kernel
theorem dX10_brings_82 : decode cX10_brings 82 = .ok (.iload_n 1, 1) := by decide +kernel
theorem dX10_brings_83 : decode cX10_brings 83 = .ok (.iaload, 1) := by decide +kernel
theorem dX10_brings_84 : decode cX10_brings 84 = .ok (.aload_n 0, 1) := by decide +kernel
theorem dX10_brings_85 : decode cX10_brings 85 = .ok (.getfield 25, 3) := by decide +kernel
theorem dX10_brings_88 : decode cX10_brings 88 = .ok (.bipush 9, 2) := by decide +kernel
theorem dX10_brings_90 : decode cX10_brings 90 = .ok (.aload_n 0, 1) := by decide +kernel
theorem dX10_brings_91 : decode cX10_brings 91 = .ok (.getfield 93, 3) := by decide +kernel
theorem dX10_brings_94 : decode cX10_brings 94 = .ok (.iload_n 1, 1) := by decide +kernel
theorem dX10_brings_95 : decode cX10_brings 95 = .ok (.iaload, 1) := by decide +kernel
theorem dX10_brings_96 : decode cX10_brings 96 = .ok (.aload_n 0, 1) := by decide +kernel
theorem dX10_brings_97 : decode cX10_brings 97 = .ok (.getfield 90, 3) := by decide +kernel
theorem dX10_brings_100 : decode cX10_brings 100 = .ok (.iload_n 1, 1) := by decide +kernel
theorem dX10_brings_101 : decode cX10_brings 101 = .ok (.iaload, 1) := by decide +kernel
theorem dX10_brings_102 : decode cX10_brings 102 = .ok (.idiv, 1) := by decide +kernel
theorem dX10_brings_103 : decode cX10_brings 103 = .ok (.bipush 25, 2) := by decide +kernel
theorem dX10_brings_105 : decode cX10_brings 105 = .ok (.idiv, 1) := by decide +kernel
theorem dX10_brings_106 : decode cX10_brings 106 = .ok (.invokestatic 168, 3) := by decide +kernel
theorem dX10_brings_109 : decode cX10_brings 109 = .ok (.iaload, 1) := by decide +kernel
theorem dX10_brings_110 : decode cX10_brings 110 = .ok (.imul, 1) := by decide +kernel
theorem dX10_brings_111 : decode cX10_brings 111 = .ok (.iadd, 1) := by decide +kernel
theorem dX10_brings_112 : decode cX10_brings 112 = .ok (.iastore, 1) := by decide +kernel
theorem dX10_brings_113 : decode cX10_brings 113 = .ok (.aload_n 0, 1) := by decide +kernel
theorem dX10_brings_114 : decode cX10_brings 114 = .ok (.getfield 59, 3) := by decide +kernel
theorem dX10_brings_117 : decode cX10_brings 117 = .ok (.iload_n 2, 1) := by decide +kernel
theorem dX10_brings_118 : decode cX10_brings 118 = .ok (.dup2, 1) := by decide +kernel
theorem dX10_brings_119 : decode cX10_brings 119 = .ok (.iaload, 1) := by decide +kernel
theorem dX10_brings_120 : decode cX10_brings 120 = .ok (.aload_n 0, 1) := by decide +kernel
theorem dX10_brings_121 : decode cX10_brings 121 = .ok (.getfield 90, 3) := by decide +kernel
theorem dX10_brings_124 : decode cX10_brings 124 = .ok (.iload_n 1, 1) := by decide +kernel
theorem dX10_brings_125 : decode cX10_brings 125 = .ok (.iaload, 1) := by decide +kernel
theorem dX10_brings_126 : decode cX10_brings 126 = .ok (.iadd, 1) := by decide +kernel
theorem dX10_brings_127 : decode cX10_brings 127 = .ok (.iastore, 1) := by decide +kernel
theorem dX10_brings_128 : decode cX10_brings 128 = .ok (.aload_n 0, 1) := by decide +kernel
theorem dX10_brings_129 : decode cX10_brings 129 = .ok (.getfield 99, 3) := by decide +kernel
theorem dX10_brings_132 : decode cX10_brings 132 = .ok (.iload_n 1, 1) := by decide +kernel
theorem dX10_brings_133 : decode cX10_brings 133 = .ok (.dup2, 1) := by decide +kernel
theorem dX10_brings_134 : decode cX10_brings 134 = .ok (.iaload, 1) := by decide +kernel
theorem dX10_brings_135 : decode cX10_brings 135 = .ok (.iconst 1, 1) := by decide +kernel
theorem dX10_brings_136 : decode cX10_brings 136 = .ok (.iadd, 1) := by decide +kernel
theorem dX10_brings_137 : decode cX10_brings 137 = .ok (.iastore, 1) := by decide +kernel
theorem dX10_brings_138 : decode cX10_brings 138 = .ok (.aload_n 0, 1) := by decide +kernel
theorem dX10_brings_139 : decode cX10_brings 139 = .ok (.getfield 81, 3) := by decide +kernel
theorem dX10_brings_142 : decode cX10_brings 142 = .ok (.iload_n 1, 1) := by decide +kernel
theorem dX10_brings_143 : decode cX10_brings 143 = .ok (.iconst 0, 1) := by decide +kernel
theorem dX10_brings_144 : decode cX10_brings 144 = .ok (.iastore, 1) := by decide +kernel
theorem dX10_brings_145 : decode cX10_brings 145 = .ok (.aload_n 0, 1) := by decide +kernel
theorem dX10_brings_146 : decode cX10_brings 146 = .ok (.getfield 84, 3) := by decide +kernel
theorem dX10_brings_149 : decode cX10_brings 149 = .ok (.iload_n 1, 1) := by decide +kernel
theorem dX10_brings_150 : decode cX10_brings 150 = .ok (.bipush (-9), 2) := by decide +kernel
theorem dX10_brings_152 : decode cX10_brings 152 = .ok (.iastore, 1) := by decide +kernel
theorem dX10_brings_153 : decode cX10_brings 153 = .ok (.aload_n 0, 1) := by decide +kernel
theorem dX10_brings_154 : decode cX10_brings 154 = .ok (.getfield 90, 3) := by decide +kernel
theorem dX10_brings_157 : decode cX10_brings 157 = .ok (.iload_n 1, 1) := by decide +kernel
theorem dX10_brings_158 : decode cX10_brings 158 = .ok (.iconst 0, 1) := by decide +kernel
theorem dX10_brings_159 : decode cX10_brings 159 = .ok (.iastore, 1) := by decide +kernel
theorem dX10_brings_160 : decode cX10_brings 160 = .ok (.aload_n 0, 1) := by decide +kernel
theorem dX10_brings_161 : decode cX10_brings 161 = .ok (.getfield 93, 3) := by decide +kernel
theorem dX10_brings_164 : decode cX10_brings 164 = .ok (.iload_n 1, 1) := by decide +kernel
theorem dX10_brings_165 : decode cX10_brings 165 = .ok (.iconst 0, 1) := by decide +kernel
theorem dX10_brings_166 : decode cX10_brings 166 = .ok (.iastore, 1) := by decide +kernel
theorem dX10_brings_167 : decode cX10_brings 167 = .ok (.return_, 1) := by decide +kernel
theorem dX10_eats_0 : decode cX10_eats 0 = .ok (.aload_n 0, 1) := by decide +kernel
theorem dX10_eats_1 : decode cX10_eats 1 = .ok (.getfield 158, 3) := by decide +kernel
theorem dX10_eats_4 : decode cX10_eats 4 = .ok (.istore_n 1, 1) := by decide +kernel
theorem dX10_eats_5 : decode cX10_eats 5 = .ok (.iconst 0, 1) := by decide +kernel
theorem dX10_eats_6 : decode cX10_eats 6 = .ok (.istore_n 2, 1) := by decide +kernel
theorem dX10_eats_7 : decode cX10_eats 7 = .ok (.aload_n 0, 1) := by decide +kernel
theorem dX10_eats_8 : decode cX10_eats 8 = .ok (.getfield 165, 3) := by decide +kernel
theorem dX10_eats_11 : decode cX10_eats 11 = .ok (.ifCond .le 159, 3) := by decide +kernel
theorem dX10_eats_14 : decode cX10_eats 14 = .ok (.iload_n 1, 1) := by decide +kernel
theorem dX10_eats_15 : decode cX10_eats 15 = .ok (.aload_n 0, 1) := by decide +kernel
theorem dX10_eats_16 : decode cX10_eats 16 = .ok (.getfield 62, 3) := by decide +kernel
theorem dX10_eats_19 : decode cX10_eats 19 = .ok (.aload_n 0, 1) := by decide +kernel
theorem dX10_eats_20 : decode cX10_eats 20 = .ok (.getfield 102, 3) := by decide +kernel
theorem dX10_eats_23 : decode cX10_eats 23 = .ok (.iconst 0, 1) := by decide +kernel
theorem dX10_eats_24 : decode cX10_eats 24 = .ok (.iaload, 1) := by decide +kernel
theorem dX10_eats_25 : decode cX10_eats 25 = .ok (.baload, 1) := by decide +kernel
theorem dX10_eats_26 : decode cX10_eats 26 = .ok (.ifCond .eq 7, 3) := by decide +kernel
theorem dX10_eats_29 : decode cX10_eats 29 = .ok (.iconst 2, 1) := by decide +kernel
theorem dX10_eats_30 : decode cX10_eats 30 = .ok (.goto 4, 3) := by decide +kernel
theorem dX10_eats_33 : decode cX10_eats 33 = .ok (.iconst 1, 1) := by decide +kernel
theorem dX10_eats_34 : decode cX10_eats 34 = .ok (.if_icmp .lt 136, 3) := by decide +kernel
theorem dX10_eats_37 : decode cX10_eats 37 = .ok (.iload_n 1, 1) := by decide +kernel
theorem dX10_eats_38 : decode cX10_eats 38 = .ok (.aload_n 0, 1) := by decide +kernel
theorem dX10_eats_39 : decode cX10_eats 39 = .ok (.getfield 62, 3) := by decide +kernel
theorem dX10_eats_42 : decode cX10_eats 42 = .ok (.aload_n 0, 1) := by decide +kernel
theorem dX10_eats_43 : decode cX10_eats 43 = .ok (.getfield 102, 3) := by decide +kernel
theorem dX10_eats_46 : decode cX10_eats 46 = .ok (.iconst 0, 1) := by decide +kernel
theorem dX10_eats_47 : decode cX10_eats 47 = .ok (.iaload, 1) := by decide +kernel
theorem dX10_eats_48 : decode cX10_eats 48 = .ok (.baload, 1) := by decide +kernel
theorem dX10_eats_49 : decode cX10_eats 49 = .ok (.ifCond .eq 7, 3) := by decide +kernel
theorem dX10_eats_52 : decode cX10_eats 52 = .ok (.iconst 2, 1) := by decide +kernel
theorem dX10_eats_53 : decode cX10_eats 53 = .ok (.goto 4, 3) := by decide +kernel
theorem dX10_eats_56 : decode cX10_eats 56 = .ok (.iconst 1, 1) := by decide +kernel
theorem dX10_eats_57 : decode cX10_eats 57 = .ok (.isub, 1) := by decide +kernel
theorem dX10_eats_58 : decode cX10_eats 58 = .ok (.istore_n 1, 1) := by decide +kernel
theorem dX10_eats_59 : decode cX10_eats 59 = .ok (.aload_n 0, 1) := by decide +kernel
theorem dX10_eats_60 : decode cX10_eats 60 = .ok (.getfield 105, 3) := by decide +kernel
theorem dX10_eats_63 : decode cX10_eats 63 = .ok (.iconst 0, 1) := by decide +kernel
theorem dX10_eats_64 : decode cX10_eats 64 = .ok (.dup2, 1) := by decide +kernel
theorem dX10_eats_65 : decode cX10_eats 65 = .ok (.iaload, 1) := by decide +kernel
theorem dX10_eats_66 : decode cX10_eats 66 = .ok (.iconst 1, 1) := by decide +kernel
theorem dX10_eats_67 : decode cX10_eats 67 = .ok (.isub, 1) := by decide +kernel
theorem dX10_eats_68 : decode cX10_eats 68 = .ok (.iastore, 1) := by decide +kernel
theorem dX10_eats_69 : decode cX10_eats 69 = .ok (.iinc 2 1, 3) := by decide +kernel
theorem dX10_eats_72 : decode cX10_eats 72 = .ok (.aload_n 0, 1) := by decide +kernel
theorem dX10_eats_73 : decode cX10_eats 73 = .ok (.getfield 105, 3) := by decide +kernel
theorem dX10_eats_76 : decode cX10_eats 76 = .ok (.iconst 0, 1) := by decide +kernel
theorem dX10_eats_77 : decode cX10_eats 77 = .ok (.iaload, 1) := by decide +kernel
theorem dX10_eats_78 : decode cX10_eats 78 = .ok (.ifCond .le 6, 3) := by decide +kernel
theorem dX10_eats_81 : decode cX10_eats 81 = .ok (.goto (-74), 3) := by decide +kernel
theorem dX10_eats_84 : decode cX10_eats 84 = .ok (.aload_n 0, 1) := by decide +kernel
theorem dX10_eats_85 : decode cX10_eats 85 = .ok (.dup, 1) := by decide +kernel
theorem dX10_eats_86 : decode cX10_eats 86 = .ok (.getfield 181, 3) := by decide +kernel
theorem dX10_eats_89 : decode cX10_eats 89 = .ok (.aload_n 0, 1) := by decide +kernel
theorem dX10_eats_90 : decode cX10_eats 90 = .ok (.getfield 108, 3) := by decide +kernel
theorem dX10_eats_93 : decode cX10_eats 93 = .ok (.iconst 0, 1) := by decide +kernel
theorem dX10_eats_94 : decode cX10_eats 94 = .ok (.iaload, 1) := by decide +kernel
end
section
theorem dX10_eats_95 : decode cX10_eats 95 = .ok (.iadd, 1) := by decide +kernel
theorem dX10_eats_96 : decode cX10_eats 96 = .ok (.putfield 181, 3) := by decide +kernel
theorem dX10_eats_99 : decode cX10_eats 99 = .ok (.aload_n 0, 1) := by decide +kernel
theorem dX10_eats_100 : decode cX10_eats 100 = .ok (.dup, 1) := by decide +kernel
theorem dX10_eats_101 : decode cX10_eats 101 = .ok (.getfield 165, 3) := by decide +kernel
theorem dX10_eats_104 : decode cX10_eats 104 = .ok (.iconst 1, 1) := by decide +kernel
theorem dX10_eats_105 : decode cX10_eats 105 = .ok (.isub, 1) := by decide +kernel
theorem dX10_eats_106 : decode cX10_eats 106 = .ok (.putfield 165, 3) := by decide +kernel
theorem dX10_eats_109 : decode cX10_eats 109 = .ok (.iconst 0, 1) := by decide +kernel
theorem dX10_eats_110 : decode cX10_eats 110 = .ok (.istore_n 3, 1) := by decide +kernel
theorem dX10_eats_111 : decode cX10_eats 111 = .ok (.iload_n 3, 1) := by decide +kernel
theorem dX10_eats_112 : decode cX10_eats 112 = .ok (.aload_n 0, 1) := by decide +kernel
theorem dX10_eats_113 : decode cX10_eats 113 = .ok (.getfield 165, 3) := by decide +kernel
theorem dX10_eats_116 : decode cX10_eats 116 = .ok (.if_icmp .ge 51, 3) := by decide +kernel
theorem dX10_eats_119 : decode cX10_eats 119 = .ok (.aload_n 0, 1) := by decide +kernel
theorem dX10_eats_120 : decode cX10_eats 120 = .ok (.getfield 102, 3) := by decide +kernel
theorem dX10_eats_123 : decode cX10_eats 123 = .ok (.iload_n 3, 1) := by decide +kernel
theorem dX10_eats_124 : decode cX10_eats 124 = .ok (.aload_n 0, 1) := by decide +kernel
theorem dX10_eats_125 : decode cX10_eats 125 = .ok (.getfield 102, 3) := by decide +kernel
theorem dX10_eats_128 : decode cX10_eats 128 = .ok (.iload_n 3, 1) := by decide +kernel
theorem dX10_eats_129 : decode cX10_eats 129 = .ok (.iconst 1, 1) := by decide +kernel
theorem dX10_eats_130 : decode cX10_eats 130 = .ok (.iadd, 1) := by decide +kernel
theorem dX10_eats_131 : decode cX10_eats 131 = .ok (.iaload, 1) := by decide +kernel
theorem dX10_eats_132 : decode cX10_eats 132 = .ok (.iastore, 1) := by decide +kernel
theorem dX10_eats_133 : decode cX10_eats 133 = .ok (.aload_n 0, 1) := by decide +kernel
theorem dX10_eats_134 : decode cX10_eats 134 = .ok (.getfield 105, 3) := by decide +kernel
theorem dX10_eats_137 : decode cX10_eats 137 = .ok (.iload_n 3, 1) := by decide +kernel
theorem dX10_eats_138 : decode cX10_eats 138 = .ok (.aload_n 0, 1) := by decide +kernel
theorem dX10_eats_139 : decode cX10_eats 139 = .ok (.getfield 105, 3) := by decide +kernel
theorem dX10_eats_142 : decode cX10_eats 142 = .ok (.iload_n 3, 1) := by decide +kernel
theorem dX10_eats_143 : decode cX10_eats 143 = .ok (.iconst 1, 1) := by decide +kernel
theorem dX10_eats_144 : decode cX10_eats 144 = .ok (.iadd, 1) := by decide +kernel
theorem dX10_eats_145 : decode cX10_eats 145 = .ok (.iaload, 1) := by decide +kernel
theorem dX10_eats_146 : decode cX10_eats 146 = .ok (.iastore, 1) := by decide +kernel
theorem dX10_eats_147 : decode cX10_eats 147 = .ok (.aload_n 0, 1) := by decide +kernel
theorem dX10_eats_148 : decode cX10_eats 148 = .ok (.getfield 108, 3) := by decide +kernel
theorem dX10_eats_151 : decode cX10_eats 151 = .ok (.iload_n 3, 1) := by decide +kernel
theorem dX10_eats_152 : decode cX10_eats 152 = .ok (.aload_n 0, 1) := by decide +kernel
theorem dX10_eats_153 : decode cX10_eats 153 = .ok (.getfield 108, 3) := by decide +kernel
theorem dX10_eats_156 : decode cX10_eats 156 = .ok (.iload_n 3, 1) := by decide +kernel
theorem dX10_eats_157 : decode cX10_eats 157 = .ok (.iconst 1, 1) := by decide +kernel
theorem dX10_eats_158 : decode cX10_eats 158 = .ok (.iadd, 1) := by decide +kernel
theorem dX10_eats_159 : decode cX10_eats 159 = .ok (.iaload, 1) := by decide +kernel
theorem dX10_eats_160 : decode cX10_eats 160 = .ok (.iastore, 1) := by decide +kernel
theorem dX10_eats_161 : decode cX10_eats 161 = .ok (.iinc 3 1, 3) := by decide +kernel
theorem dX10_eats_164 : decode cX10_eats 164 = .ok (.goto (-53), 3) := by decide +kernel
theorem dX10_eats_167 : decode cX10_eats 167 = .ok (.goto (-160), 3) := by decide +kernel
theorem dX10_eats_170 : decode cX10_eats 170 = .ok (.aload_n 0, 1) := by decide +kernel
theorem dX10_eats_171 : decode cX10_eats 171 = .ok (.getfield 165, 3) := by decide +kernel
theorem dX10_eats_174 : decode cX10_eats 174 = .ok (.ifCond .ne 27, 3) := by decide +kernel
theorem dX10_eats_177 : decode cX10_eats 177 = .ok (.iload_n 1, 1) := by decide +kernel
theorem dX10_eats_178 : decode cX10_eats 178 = .ok (.ifCond .le 23, 3) := by decide +kernel
theorem dX10_eats_181 : decode cX10_eats 181 = .ok (.aload_n 0, 1) := by decide +kernel
theorem dX10_eats_182 : decode cX10_eats 182 = .ok (.dup, 1) := by decide +kernel
theorem dX10_eats_183 : decode cX10_eats 183 = .ok (.getfield 184, 3) := by decide +kernel
theorem dX10_eats_186 : decode cX10_eats 186 = .ok (.iload_n 1, 1) := by decide +kernel
theorem dX10_eats_187 : decode cX10_eats 187 = .ok (.iadd, 1) := by decide +kernel
theorem dX10_eats_188 : decode cX10_eats 188 = .ok (.putfield 184, 3) := by decide +kernel
theorem dX10_eats_191 : decode cX10_eats 191 = .ok (.aload_n 0, 1) := by decide +kernel
theorem dX10_eats_192 : decode cX10_eats 192 = .ok (.dup, 1) := by decide +kernel
theorem dX10_eats_193 : decode cX10_eats 193 = .ok (.getfield 187, 3) := by decide +kernel
theorem dX10_eats_196 : decode cX10_eats 196 = .ok (.iconst 1, 1) := by decide +kernel
theorem dX10_eats_197 : decode cX10_eats 197 = .ok (.iadd, 1) := by decide +kernel
theorem dX10_eats_198 : decode cX10_eats 198 = .ok (.putfield 187, 3) := by decide +kernel
theorem dX10_eats_201 : decode cX10_eats 201 = .ok (.aload_n 0, 1) := by decide +kernel
theorem dX10_eats_202 : decode cX10_eats 202 = .ok (.dup, 1) := by decide +kernel
theorem dX10_eats_203 : decode cX10_eats 203 = .ok (.getfield 190, 3) := by decide +kernel
theorem dX10_eats_206 : decode cX10_eats 206 = .ok (.iload_n 2, 1) := by decide +kernel
theorem dX10_eats_207 : decode cX10_eats 207 = .ok (.iadd, 1) := by decide +kernel
theorem dX10_eats_208 : decode cX10_eats 208 = .ok (.putfield 190, 3) := by decide +kernel
theorem dX10_eats_211 : decode cX10_eats 211 = .ok (.iload_n 2, 1) := by decide +kernel
theorem dX10_eats_212 : decode cX10_eats 212 = .ok (.ireturn, 1) := by decide +kernel
theorem dX10_wasteOf_0 : decode cX10_wasteOf 0 = .ok (.aload_n 0, 1) := by decide +kernel
theorem dX10_wasteOf_1 : decode cX10_wasteOf 1 = .ok (.getfield 69, 3) := by decide +kernel
theorem dX10_wasteOf_4 : decode cX10_wasteOf 4 = .ok (.iload_n 1, 1) := by decide +kernel
theorem dX10_wasteOf_5 : decode cX10_wasteOf 5 = .ok (.baload, 1) := by decide +kernel
theorem dX10_wasteOf_6 : decode cX10_wasteOf 6 = .ok (.ifCond .eq 5, 3) := by decide +kernel
theorem dX10_wasteOf_9 : decode cX10_wasteOf 9 = .ok (.iconst 0, 1) := by decide +kernel
theorem dX10_wasteOf_10 : decode cX10_wasteOf 10 = .ok (.ireturn, 1) := by decide +kernel
theorem dX10_wasteOf_11 : decode cX10_wasteOf 11 = .ok (.aload_n 0, 1) := by decide +kernel
theorem dX10_wasteOf_12 : decode cX10_wasteOf 12 = .ok (.getfield 22, 3) := by decide +kernel
theorem dX10_wasteOf_15 : decode cX10_wasteOf 15 = .ok (.aload_n 0, 1) := by decide +kernel
theorem dX10_wasteOf_16 : decode cX10_wasteOf 16 = .ok (.getfield 19, 3) := by decide +kernel
theorem dX10_wasteOf_19 : decode cX10_wasteOf 19 = .ok (.iload_n 3, 1) := by decide +kernel
theorem dX10_wasteOf_20 : decode cX10_wasteOf 20 = .ok (.iaload, 1) := by decide +kernel
theorem dX10_wasteOf_21 : decode cX10_wasteOf 21 = .ok (.iaload, 1) := by decide +kernel
theorem dX10_wasteOf_22 : decode cX10_wasteOf 22 = .ok (.istore 4, 2) := by decide +kernel
theorem dX10_wasteOf_24 : decode cX10_wasteOf 24 = .ok (.aload_n 0, 1) := by decide +kernel
theorem dX10_wasteOf_25 : decode cX10_wasteOf 25 = .ok (.getfield 50, 3) := by decide +kernel
theorem dX10_wasteOf_28 : decode cX10_wasteOf 28 = .ok (.iload_n 1, 1) := by decide +kernel
theorem dX10_wasteOf_29 : decode cX10_wasteOf 29 = .ok (.iaload, 1) := by decide +kernel
theorem dX10_wasteOf_30 : decode cX10_wasteOf 30 = .ok (.bipush (-9), 2) := by decide +kernel
theorem dX10_wasteOf_32 : decode cX10_wasteOf 32 = .ok (.if_icmp .eq 18, 3) := by decide +kernel
theorem dX10_wasteOf_35 : decode cX10_wasteOf 35 = .ok (.sipush 1000, 3) := by decide +kernel
theorem dX10_wasteOf_38 : decode cX10_wasteOf 38 = .ok (.iconst 3, 1) := by decide +kernel
theorem dX10_wasteOf_39 : decode cX10_wasteOf 39 = .ok (.iload 4, 2) := by decide +kernel
theorem dX10_wasteOf_41 : decode cX10_wasteOf 41 = .ok (.imul, 1) := by decide +kernel
theorem dX10_wasteOf_42 : decode cX10_wasteOf 42 = .ok (.invokestatic 168, 3) := by decide +kernel
theorem dX10_wasteOf_45 : decode cX10_wasteOf 45 = .ok (.istore 4, 2) := by decide +kernel
theorem dX10_wasteOf_47 : decode cX10_wasteOf 47 = .ok (.goto 18, 3) := by decide +kernel
theorem dX10_wasteOf_50 : decode cX10_wasteOf 50 = .ok (.aload_n 0, 1) := by decide +kernel
theorem dX10_wasteOf_51 : decode cX10_wasteOf 51 = .ok (.getfield 66, 3) := by decide +kernel
theorem dX10_wasteOf_54 : decode cX10_wasteOf 54 = .ok (.iload_n 1, 1) := by decide +kernel
theorem dX10_wasteOf_55 : decode cX10_wasteOf 55 = .ok (.baload, 1) := by decide +kernel
theorem dX10_wasteOf_56 : decode cX10_wasteOf 56 = .ok (.ifCond .eq 9, 3) := by decide +kernel
theorem dX10_wasteOf_59 : decode cX10_wasteOf 59 = .ok (.iload 4, 2) := by decide +kernel
theorem dX10_wasteOf_61 : decode cX10_wasteOf 61 = .ok (.iconst 2, 1) := by decide +kernel
theorem dX10_wasteOf_62 : decode cX10_wasteOf 62 = .ok (.idiv, 1) := by decide +kernel
theorem dX10_wasteOf_63 : decode cX10_wasteOf 63 = .ok (.istore 4, 2) := by decide +kernel
theorem dX10_wasteOf_65 : decode cX10_wasteOf 65 = .ok (.iload_n 2, 1) := by decide +kernel
theorem dX10_wasteOf_66 : decode cX10_wasteOf 66 = .ok (.i2l, 1) := by decide +kernel
theorem dX10_wasteOf_67 : decode cX10_wasteOf 67 = .ok (.iload 4, 2) := by decide +kernel
theorem dX10_wasteOf_69 : decode cX10_wasteOf 69 = .ok (.i2l, 1) := by decide +kernel
theorem dX10_wasteOf_70 : decode cX10_wasteOf 70 = .ok (.lmul, 1) := by decide +kernel
theorem dX10_wasteOf_71 : decode cX10_wasteOf 71 = .ok (.ldc2_w 193, 3) := by decide +kernel
theorem dX10_wasteOf_74 : decode cX10_wasteOf 74 = .ok (.ldiv, 1) := by decide +kernel
theorem dX10_wasteOf_75 : decode cX10_wasteOf 75 = .ok (.l2i, 1) := by decide +kernel
theorem dX10_wasteOf_76 : decode cX10_wasteOf 76 = .ok (.ireturn, 1) := by decide +kernel
theorem dX10_ends_0 : decode cX10_ends 0 = .ok (.iconst 0, 1) := by decide +kernel
theorem dX10_ends_1 : decode cX10_ends 1 = .ok (.istore_n 1, 1) := by decide +kernel
theorem dX10_ends_2 : decode cX10_ends 2 = .ok (.iload_n 1, 1) := by decide +kernel
theorem dX10_ends_3 : decode cX10_ends 3 = .ok (.aload_n 0, 1) := by decide +kernel
theorem dX10_ends_4 : decode cX10_ends 4 = .ok (.getfield 128, 3) := by decide +kernel
theorem dX10_ends_7 : decode cX10_ends 7 = .ok (.if_icmp .ge 70, 3) := by decide +kernel
theorem dX10_ends_10 : decode cX10_ends 10 = .ok (.aload_n 0, 1) := by decide +kernel
theorem dX10_ends_11 : decode cX10_ends 11 = .ok (.getfield 138, 3) := by decide +kernel
theorem dX10_ends_14 : decode cX10_ends 14 = .ok (.bipush 24, 2) := by decide +kernel
theorem dX10_ends_16 : decode cX10_ends 16 = .ok (.irem, 1) := by decide +kernel
theorem dX10_ends_17 : decode cX10_ends 17 = .ok (.ifCond .ne 60, 3) := by decide +kernel
theorem dX10_ends_20 : decode cX10_ends 20 = .ok (.aload_n 0, 1) := by decide +kernel
theorem dX10_ends_21 : decode cX10_ends 21 = .ok (.iload_n 1, 1) := by decide +kernel
theorem dX10_ends_22 : decode cX10_ends 22 = .ok (.aload_n 0, 1) := by decide +kernel
theorem dX10_ends_23 : decode cX10_ends 23 = .ok (.getfield 47, 3) := by decide +kernel
theorem dX10_ends_26 : decode cX10_ends 26 = .ok (.iload_n 1, 1) := by decide +kernel
theorem dX10_ends_27 : decode cX10_ends 27 = .ok (.iaload, 1) := by decide +kernel
theorem dX10_ends_28 : decode cX10_ends 28 = .ok (.aload_n 0, 1) := by decide +kernel
theorem dX10_ends_29 : decode cX10_ends 29 = .ok (.getfield 138, 3) := by decide +kernel
theorem dX10_ends_32 : decode cX10_ends 32 = .ok (.bipush 24, 2) := by decide +kernel
theorem dX10_ends_34 : decode cX10_ends 34 = .ok (.idiv, 1) := by decide +kernel
theorem dX10_ends_35 : decode cX10_ends 35 = .ok (.iconst 1, 1) := by decide +kernel
theorem dX10_ends_36 : decode cX10_ends 36 = .ok (.isub, 1) := by decide +kernel
theorem dX10_ends_37 : decode cX10_ends 37 = .ok (.invokevirtual 195, 3) := by decide +kernel
theorem dX10_ends_40 : decode cX10_ends 40 = .ok (.istore_n 2, 1) := by decide +kernel
theorem dX10_ends_41 : decode cX10_ends 41 = .ok (.aload_n 0, 1) := by decide +kernel
theorem dX10_ends_42 : decode cX10_ends 42 = .ok (.getfield 47, 3) := by decide +kernel
theorem dX10_ends_45 : decode cX10_ends 45 = .ok (.iload_n 1, 1) := by decide +kernel
theorem dX10_ends_46 : decode cX10_ends 46 = .ok (.dup2, 1) := by decide +kernel
theorem dX10_ends_47 : decode cX10_ends 47 = .ok (.iaload, 1) := by decide +kernel
theorem dX10_ends_48 : decode cX10_ends 48 = .ok (.iload_n 2, 1) := by decide +kernel
theorem dX10_ends_49 : decode cX10_ends 49 = .ok (.isub, 1) := by decide +kernel
theorem dX10_ends_50 : decode cX10_ends 50 = .ok (.iastore, 1) := by decide +kernel
theorem dX10_ends_51 : decode cX10_ends 51 = .ok (.aload_n 0, 1) := by decide +kernel
theorem dX10_ends_52 : decode cX10_ends 52 = .ok (.getfield 53, 3) := by decide +kernel
theorem dX10_ends_55 : decode cX10_ends 55 = .ok (.iload_n 1, 1) := by decide +kernel
theorem dX10_ends_56 : decode cX10_ends 56 = .ok (.dup2, 1) := by decide +kernel
theorem dX10_ends_57 : decode cX10_ends 57 = .ok (.iaload, 1) := by decide +kernel
theorem dX10_ends_58 : decode cX10_ends 58 = .ok (.iload_n 2, 1) := by decide +kernel
theorem dX10_ends_59 : decode cX10_ends 59 = .ok (.iadd, 1) := by decide +kernel
theorem dX10_ends_60 : decode cX10_ends 60 = .ok (.iastore, 1) := by decide +kernel
theorem dX10_ends_61 : decode cX10_ends 61 = .ok (.aload_n 0, 1) := by decide +kernel
theorem dX10_ends_62 : decode cX10_ends 62 = .ok (.dup, 1) := by decide +kernel
theorem dX10_ends_63 : decode cX10_ends 63 = .ok (.getfield 199, 3) := by decide +kernel
theorem dX10_ends_66 : decode cX10_ends 66 = .ok (.iload_n 2, 1) := by decide +kernel
theorem dX10_ends_67 : decode cX10_ends 67 = .ok (.iadd, 1) := by decide +kernel
theorem dX10_ends_68 : decode cX10_ends 68 = .ok (.putfield 199, 3) := by decide +kernel
theorem dX10_ends_71 : decode cX10_ends 71 = .ok (.iinc 1 1, 3) := by decide +kernel
theorem dX10_ends_74 : decode cX10_ends 74 = .ok (.goto (-72), 3) := by decide +kernel
theorem dX10_ends_77 : decode cX10_ends 77 = .ok (.iconst 0, 1) := by decide +kernel
theorem dX10_ends_78 : decode cX10_ends 78 = .ok (.istore_n 1, 1) := by decide +kernel
theorem dX10_ends_79 : decode cX10_ends 79 = .ok (.iload_n 1, 1) := by decide +kernel
theorem dX10_ends_80 : decode cX10_ends 80 = .ok (.aload_n 0, 1) := by decide +kernel
theorem dX10_ends_81 : decode cX10_ends 81 = .ok (.getfield 128, 3) := by decide +kernel
theorem dX10_ends_84 : decode cX10_ends 84 = .ok (.if_icmp .ge 98, 3) := by decide +kernel
theorem dX10_ends_87 : decode cX10_ends 87 = .ok (.aload_n 0, 1) := by decide +kernel
theorem dX10_ends_88 : decode cX10_ends 88 = .ok (.getfield 50, 3) := by decide +kernel
theorem dX10_ends_91 : decode cX10_ends 91 = .ok (.iload_n 1, 1) := by decide +kernel
theorem dX10_ends_92 : decode cX10_ends 92 = .ok (.iaload, 1) := by decide +kernel
theorem dX10_ends_93 : decode cX10_ends 93 = .ok (.bipush (-9), 2) := by decide +kernel
theorem dX10_ends_95 : decode cX10_ends 95 = .ok (.if_icmp .eq 81, 3) := by decide +kernel
theorem dX10_ends_98 : decode cX10_ends 98 = .ok (.aload_n 0, 1) := by decide +kernel
theorem dX10_ends_99 : decode cX10_ends 99 = .ok (.getfield 138, 3) := by decide +kernel
theorem dX10_ends_102 : decode cX10_ends 102 = .ok (.aload_n 0, 1) := by decide +kernel
theorem dX10_ends_103 : decode cX10_ends 103 = .ok (.getfield 50, 3) := by decide +kernel
theorem dX10_ends_106 : decode cX10_ends 106 = .ok (.iload_n 1, 1) := by decide +kernel
theorem dX10_ends_107 : decode cX10_ends 107 = .ok (.iaload, 1) := by decide +kernel
theorem dX10_ends_108 : decode cX10_ends 108 = .ok (.isub, 1) := by decide +kernel
theorem dX10_ends_109 : decode cX10_ends 109 = .ok (.bipush 72, 2) := by decide +kernel
theorem dX10_ends_111 : decode cX10_ends 111 = .ok (.if_icmp .ge 6, 3) := by decide +kernel
theorem dX10_ends_114 : decode cX10_ends 114 = .ok (.goto 62, 3) := by decide +kernel
theorem dX10_ends_117 : decode cX10_ends 117 = .ok (.aload_n 0, 1) := by decide +kernel
theorem dX10_ends_118 : decode cX10_ends 118 = .ok (.getfield 56, 3) := by decide +kernel
theorem dX10_ends_121 : decode cX10_ends 121 = .ok (.iload_n 1, 1) := by decide +kernel
theorem dX10_ends_122 : decode cX10_ends 122 = .ok (.dup2, 1) := by decide +kernel
theorem dX10_ends_123 : decode cX10_ends 123 = .ok (.iaload, 1) := by decide +kernel
theorem dX10_ends_124 : decode cX10_ends 124 = .ok (.aload_n 0, 1) := by decide +kernel
theorem dX10_ends_125 : decode cX10_ends 125 = .ok (.getfield 44, 3) := by decide +kernel
theorem dX10_ends_128 : decode cX10_ends 128 = .ok (.iload_n 1, 1) := by decide +kernel
theorem dX10_ends_129 : decode cX10_ends 129 = .ok (.iaload, 1) := by decide +kernel
theorem dX10_ends_130 : decode cX10_ends 130 = .ok (.iadd, 1) := by decide +kernel
theorem dX10_ends_131 : decode cX10_ends 131 = .ok (.iastore, 1) := by decide +kernel
theorem dX10_ends_132 : decode cX10_ends 132 = .ok (.aload_n 0, 1) := by decide +kernel
theorem dX10_ends_133 : decode cX10_ends 133 = .ok (.dup, 1) := by decide +kernel
theorem dX10_ends_134 : decode cX10_ends 134 = .ok (.getfield 202, 3) := by decide +kernel
theorem dX10_ends_137 : decode cX10_ends 137 = .ok (.aload_n 0, 1) := by decide +kernel
theorem dX10_ends_138 : decode cX10_ends 138 = .ok (.getfield 44, 3) := by decide +kernel
theorem dX10_ends_141 : decode cX10_ends 141 = .ok (.iload_n 1, 1) := by decide +kernel
theorem dX10_ends_142 : decode cX10_ends 142 = .ok (.iaload, 1) := by decide +kernel
theorem dX10_ends_143 : decode cX10_ends 143 = .ok (.iadd, 1) := by decide +kernel
theorem dX10_ends_144 : decode cX10_ends 144 = .ok (.putfield 202, 3) := by decide +kernel
theorem dX10_ends_147 : decode cX10_ends 147 = .ok (.aload_n 0, 1) := by decide +kernel
theorem dX10_ends_148 : decode cX10_ends 148 = .ok (.getfield 44, 3) := by decide +kernel
theorem dX10_ends_151 : decode cX10_ends 151 = .ok (.iload_n 1, 1) := by decide +kernel
theorem dX10_ends_152 : decode cX10_ends 152 = .ok (.iconst 0, 1) := by decide +kernel
theorem dX10_ends_153 : decode cX10_ends 153 = .ok (.iastore, 1) := by decide +kernel
theorem dX10_ends_154 : decode cX10_ends 154 = .ok (.aload_n 0, 1) := by decide +kernel
theorem dX10_ends_155 : decode cX10_ends 155 = .ok (.getfield 47, 3) := by decide +kernel
theorem dX10_ends_158 : decode cX10_ends 158 = .ok (.iload_n 1, 1) := by decide +kernel
theorem dX10_ends_159 : decode cX10_ends 159 = .ok (.iconst 0, 1) := by decide +kernel
theorem dX10_ends_160 : decode cX10_ends 160 = .ok (.iastore, 1) := by decide +kernel
theorem dX10_ends_161 : decode cX10_ends 161 = .ok (.aload_n 0, 1) := by decide +kernel
theorem dX10_ends_162 : decode cX10_ends 162 = .ok (.getfield 50, 3) := by decide +kernel
theorem dX10_ends_165 : decode cX10_ends 165 = .ok (.iload_n 1, 1) := by decide +kernel
theorem dX10_ends_166 : decode cX10_ends 166 = .ok (.bipush (-9), 2) := by decide +kernel
theorem dX10_ends_168 : decode cX10_ends 168 = .ok (.iastore, 1) := by decide +kernel
theorem dX10_ends_169 : decode cX10_ends 169 = .ok (.aload_n 0, 1) := by decide +kernel
theorem dX10_ends_170 : decode cX10_ends 170 = .ok (.getfield 66, 3) := by decide +kernel
theorem dX10_ends_173 : decode cX10_ends 173 = .ok (.iload_n 1, 1) := by decide +kernel
theorem dX10_ends_174 : decode cX10_ends 174 = .ok (.iconst 0, 1) := by decide +kernel
theorem dX10_ends_175 : decode cX10_ends 175 = .ok (.bastore, 1) := by decide +kernel
theorem dX10_ends_176 : decode cX10_ends 176 = .ok (.iinc 1 1, 3) := by decide +kernel
theorem dX10_ends_179 : decode cX10_ends 179 = .ok (.goto (-100), 3) := by decide +kernel
theorem dX10_ends_182 : decode cX10_ends 182 = .ok (.return_, 1) := by decide +kernel
theorem dX10_hours_0 : decode cX10_hours 0 = .ok (.iload_n 1, 1) := by decide +kernel
theorem dX10_hours_1 : decode cX10_hours 1 = .ok (.iconst 1, 1) := by decide +kernel
theorem dX10_hours_2 : decode cX10_hours 2 = .ok (.if_icmp .ge 10, 3) := by decide +kernel
theorem dX10_hours_5 : decode cX10_hours 5 = .ok (.aload_n 0, 1) := by decide +kernel
theorem dX10_hours_6 : decode cX10_hours 6 = .ok (.bipush (-4), 2) := by decide +kernel
theorem dX10_hours_8 : decode cX10_hours 8 = .ok (.invokevirtual 124, 3) := by decide +kernel
theorem dX10_hours_11 : decode cX10_hours 11 = .ok (.ireturn, 1) := by decide +kernel
theorem dX10_hours_12 : decode cX10_hours 12 = .ok (.iload_n 1, 1) := by decide +kernel
theorem dX10_hours_13 : decode cX10_hours 13 = .ok (.sipush 2400, 3) := by decide +kernel
theorem dX10_hours_16 : decode cX10_hours 16 = .ok (.aload_n 0, 1) := by decide +kernel
theorem dX10_hours_17 : decode cX10_hours 17 = .ok (.getfield 138, 3) := by decide +kernel
theorem dX10_hours_20 : decode cX10_hours 20 = .ok (.isub, 1) := by decide +kernel
theorem dX10_hours_21 : decode cX10_hours 21 = .ok (.if_icmp .le 10, 3) := by decide +kernel
theorem dX10_hours_24 : decode cX10_hours 24 = .ok (.aload_n 0, 1) := by decide +kernel
theorem dX10_hours_25 : decode cX10_hours 25 = .ok (.bipush (-6), 2) := by decide +kernel
theorem dX10_hours_27 : decode cX10_hours 27 = .ok (.invokevirtual 124, 3) := by decide +kernel
theorem dX10_hours_30 : decode cX10_hours 30 = .ok (.ireturn, 1) := by decide +kernel
theorem dX10_hours_31 : decode cX10_hours 31 = .ok (.iconst 0, 1) := by decide +kernel
theorem dX10_hours_32 : decode cX10_hours 32 = .ok (.istore_n 2, 1) := by decide +kernel
theorem dX10_hours_33 : decode cX10_hours 33 = .ok (.iconst 0, 1) := by decide +kernel
theorem dX10_hours_34 : decode cX10_hours 34 = .ok (.istore_n 3, 1) := by decide +kernel
theorem dX10_hours_35 : decode cX10_hours 35 = .ok (.iload_n 3, 1) := by decide +kernel
theorem dX10_hours_36 : decode cX10_hours 36 = .ok (.iload_n 1, 1) := by decide +kernel
theorem dX10_hours_37 : decode cX10_hours 37 = .ok (.if_icmp .ge 69, 3) := by decide +kernel
theorem dX10_hours_40 : decode cX10_hours 40 = .ok (.aload_n 0, 1) := by decide +kernel
theorem dX10_hours_41 : decode cX10_hours 41 = .ok (.dup, 1) := by decide +kernel
theorem dX10_hours_42 : decode cX10_hours 42 = .ok (.getfield 138, 3) := by decide +kernel
theorem dX10_hours_45 : decode cX10_hours 45 = .ok (.iconst 1, 1) := by decide +kernel
theorem dX10_hours_46 : decode cX10_hours 46 = .ok (.iadd, 1) := by decide +kernel
theorem dX10_hours_47 : decode cX10_hours 47 = .ok (.putfield 138, 3) := by decide +kernel
theorem dX10_hours_50 : decode cX10_hours 50 = .ok (.aload_n 0, 1) := by decide +kernel
theorem dX10_hours_51 : decode cX10_hours 51 = .ok (.getfield 161, 3) := by decide +kernel
theorem dX10_hours_54 : decode cX10_hours 54 = .ok (.ifCond .ne 7, 3) := by decide +kernel
theorem dX10_hours_57 : decode cX10_hours 57 = .ok (.aload_n 0, 1) := by decide +kernel
theorem dX10_hours_58 : decode cX10_hours 58 = .ok (.invokevirtual 205, 3) := by decide +kernel
theorem dX10_hours_61 : decode cX10_hours 61 = .ok (.iconst 0, 1) := by decide +kernel
theorem dX10_hours_62 : decode cX10_hours 62 = .ok (.istore 4, 2) := by decide +kernel
theorem dX10_hours_64 : decode cX10_hours 64 = .ok (.iload 4, 2) := by decide +kernel
theorem dX10_hours_66 : decode cX10_hours 66 = .ok (.aload_n 0, 1) := by decide +kernel
theorem dX10_hours_67 : decode cX10_hours 67 = .ok (.getfield 131, 3) := by decide +kernel
theorem dX10_hours_70 : decode cX10_hours 70 = .ok (.if_icmp .ge 15, 3) := by decide +kernel
theorem dX10_hours_73 : decode cX10_hours 73 = .ok (.aload_n 0, 1) := by decide +kernel
theorem dX10_hours_74 : decode cX10_hours 74 = .ok (.iload 4, 2) := by decide +kernel
theorem dX10_hours_76 : decode cX10_hours 76 = .ok (.invokevirtual 208, 3) := by decide +kernel
theorem dX10_hours_79 : decode cX10_hours 79 = .ok (.iinc 4 1, 3) := by decide +kernel
theorem dX10_hours_82 : decode cX10_hours 82 = .ok (.goto (-18), 3) := by decide +kernel
theorem dX10_hours_85 : decode cX10_hours 85 = .ok (.aload_n 0, 1) := by decide +kernel
theorem dX10_hours_86 : decode cX10_hours 86 = .ok (.invokevirtual 211, 3) := by decide +kernel
theorem dX10_hours_89 : decode cX10_hours 89 = .ok (.iload_n 2, 1) := by decide +kernel
theorem dX10_hours_90 : decode cX10_hours 90 = .ok (.aload_n 0, 1) := by decide +kernel
theorem dX10_hours_91 : decode cX10_hours 91 = .ok (.invokevirtual 214, 3) := by decide +kernel
theorem dX10_hours_94 : decode cX10_hours 94 = .ok (.iadd, 1) := by decide +kernel
theorem dX10_hours_95 : decode cX10_hours 95 = .ok (.istore_n 2, 1) := by decide +kernel
theorem dX10_hours_96 : decode cX10_hours 96 = .ok (.aload_n 0, 1) := by decide +kernel
theorem dX10_hours_97 : decode cX10_hours 97 = .ok (.invokevirtual 217, 3) := by decide +kernel
theorem dX10_hours_100 : decode cX10_hours 100 = .ok (.iinc 3 1, 3) := by decide +kernel
theorem dX10_hours_103 : decode cX10_hours 103 = .ok (.goto (-68), 3) := by decide +kernel
theorem dX10_hours_106 : decode cX10_hours 106 = .ok (.iload_n 2, 1) := by decide +kernel
theorem dX10_hours_107 : decode cX10_hours 107 = .ok (.ireturn, 1) := by decide +kernel
theorem dX10_owed_0 : decode cX10_owed 0 = .ok (.iload_n 1, 1) := by decide +kernel
theorem dX10_owed_1 : decode cX10_owed 1 = .ok (.bipush 6, 2) := by decide +kernel
theorem dX10_owed_3 : decode cX10_owed 3 = .ok (.invokestatic 120, 3) := by decide +kernel
theorem dX10_owed_6 : decode cX10_owed 6 = .ok (.ifCond .eq 14, 3) := by decide +kernel
theorem dX10_owed_9 : decode cX10_owed 9 = .ok (.aload_n 0, 1) := by decide +kernel
theorem dX10_owed_10 : decode cX10_owed 10 = .ok (.iload_n 1, 1) := by decide +kernel
theorem dX10_owed_11 : decode cX10_owed 11 = .ok (.invokevirtual 151, 3) := by decide +kernel
theorem dX10_owed_14 : decode cX10_owed 14 = .ok (.ldc 220, 2) := by decide +kernel
theorem dX10_owed_16 : decode cX10_owed 16 = .ok (.iadd, 1) := by decide +kernel
theorem dX10_owed_17 : decode cX10_owed 17 = .ok (.goto 8, 3) := by decide +kernel
theorem dX10_owed_20 : decode cX10_owed 20 = .ok (.aload_n 0, 1) := by decide +kernel
theorem dX10_owed_21 : decode cX10_owed 21 = .ok (.iconst (-1), 1) := by decide +kernel
theorem dX10_owed_22 : decode cX10_owed 22 = .ok (.invokevirtual 124, 3) := by decide +kernel
theorem dX10_owed_25 : decode cX10_owed 25 = .ok (.ireturn, 1) := by decide +kernel
theorem dX10_next_0 : decode cX10_next 0 = .ok (.aload_n 0, 1) := by decide +kernel
theorem dX10_next_1 : decode cX10_next 1 = .ok (.invokevirtual 154, 3) := by decide +kernel
theorem dX10_next_4 : decode cX10_next 4 = .ok (.ireturn, 1) := by decide +kernel
theorem dX10_knows_0 : decode cX10_knows 0 = .ok (.aload_n 0, 1) := by decide +kernel
theorem dX10_knows_1 : decode cX10_knows 1 = .ok (.iconst 0, 1) := by decide +kernel
theorem dX10_knows_2 : decode cX10_knows 2 = .ok (.putfield 221, 3) := by decide +kernel
theorem dX10_knows_5 : decode cX10_knows 5 = .ok (.iconst 0, 1) := by decide +kernel
theorem dX10_knows_6 : decode cX10_knows 6 = .ok (.istore_n 1, 1) := by decide +kernel
theorem dX10_knows_7 : decode cX10_knows 7 = .ok (.iload_n 1, 1) := by decide +kernel
theorem dX10_knows_8 : decode cX10_knows 8 = .ok (.aload_n 0, 1) := by decide +kernel
theorem dX10_knows_9 : decode cX10_knows 9 = .ok (.getfield 128, 3) := by decide +kernel
theorem dX10_knows_12 : decode cX10_knows 12 = .ok (.if_icmp .ge 52, 3) := by decide +kernel
theorem dX10_knows_15 : decode cX10_knows 15 = .ok (.aload_n 0, 1) := by decide +kernel
theorem dX10_knows_16 : decode cX10_knows 16 = .ok (.getfield 44, 3) := by decide +kernel
theorem dX10_knows_19 : decode cX10_knows 19 = .ok (.iload_n 1, 1) := by decide +kernel
theorem dX10_knows_20 : decode cX10_knows 20 = .ok (.iaload, 1) := by decide +kernel
theorem dX10_knows_21 : decode cX10_knows 21 = .ok (.ifCond .ne 6, 3) := by decide +kernel
theorem dX10_knows_24 : decode cX10_knows 24 = .ok (.goto 34, 3) := by decide +kernel
theorem dX10_knows_27 : decode cX10_knows 27 = .ok (.aload_n 0, 1) := by decide +kernel
theorem dX10_knows_28 : decode cX10_knows 28 = .ok (.getfield 221, 3) := by decide +kernel
theorem dX10_knows_31 : decode cX10_knows 31 = .ok (.bipush 8, 2) := by decide +kernel
theorem dX10_knows_33 : decode cX10_knows 33 = .ok (.if_icmp .ne 5, 3) := by decide +kernel
theorem dX10_knows_36 : decode cX10_knows 36 = .ok (.iconst 0, 1) := by decide +kernel
theorem dX10_knows_37 : decode cX10_knows 37 = .ok (.ireturn, 1) := by decide +kernel
theorem dX10_knows_38 : decode cX10_knows 38 = .ok (.aload_n 0, 1) := by decide +kernel
theorem dX10_knows_39 : decode cX10_knows 39 = .ok (.getfield 111, 3) := by decide +kernel
theorem dX10_knows_42 : decode cX10_knows 42 = .ok (.aload_n 0, 1) := by decide +kernel
theorem dX10_knows_43 : decode cX10_knows 43 = .ok (.getfield 221, 3) := by decide +kernel
theorem dX10_knows_46 : decode cX10_knows 46 = .ok (.iload_n 1, 1) := by decide +kernel
theorem dX10_knows_47 : decode cX10_knows 47 = .ok (.iastore, 1) := by decide +kernel
theorem dX10_knows_48 : decode cX10_knows 48 = .ok (.aload_n 0, 1) := by decide +kernel
theorem dX10_knows_49 : decode cX10_knows 49 = .ok (.dup, 1) := by decide +kernel
theorem dX10_knows_50 : decode cX10_knows 50 = .ok (.getfield 221, 3) := by decide +kernel
theorem dX10_knows_53 : decode cX10_knows 53 = .ok (.iconst 1, 1) := by decide +kernel
theorem dX10_knows_54 : decode cX10_knows 54 = .ok (.iadd, 1) := by decide +kernel
theorem dX10_knows_55 : decode cX10_knows 55 = .ok (.putfield 221, 3) := by decide +kernel
theorem dX10_knows_58 : decode cX10_knows 58 = .ok (.iinc 1 1, 3) := by decide +kernel
theorem dX10_knows_61 : decode cX10_knows 61 = .ok (.goto (-54), 3) := by decide +kernel
theorem dX10_knows_64 : decode cX10_knows 64 = .ok (.aload_n 0, 1) := by decide +kernel
theorem dX10_knows_65 : decode cX10_knows 65 = .ok (.getfield 158, 3) := by decide +kernel
theorem dX10_knows_68 : decode cX10_knows 68 = .ok (.ifCond .ne 5, 3) := by decide +kernel
theorem dX10_knows_71 : decode cX10_knows 71 = .ok (.iconst 0, 1) := by decide +kernel
theorem dX10_knows_72 : decode cX10_knows 72 = .ok (.ireturn, 1) := by decide +kernel
theorem dX10_knows_73 : decode cX10_knows 73 = .ok (.iconst 0, 1) := by decide +kernel
theorem dX10_knows_74 : decode cX10_knows 74 = .ok (.istore_n 1, 1) := by decide +kernel
theorem dX10_knows_75 : decode cX10_knows 75 = .ok (.iload_n 1, 1) := by decide +kernel
theorem dX10_knows_76 : decode cX10_knows 76 = .ok (.aload_n 0, 1) := by decide +kernel
theorem dX10_knows_77 : decode cX10_knows 77 = .ok (.getfield 221, 3) := by decide +kernel
theorem dX10_knows_80 : decode cX10_knows 80 = .ok (.if_icmp .ge 60, 3) := by decide +kernel
theorem dX10_knows_83 : decode cX10_knows 83 = .ok (.aload_n 0, 1) := by decide +kernel
theorem dX10_knows_84 : decode cX10_knows 84 = .ok (.getfield 44, 3) := by decide +kernel
theorem dX10_knows_87 : decode cX10_knows 87 = .ok (.aload_n 0, 1) := by decide +kernel
theorem dX10_knows_88 : decode cX10_knows 88 = .ok (.getfield 111, 3) := by decide +kernel
theorem dX10_knows_91 : decode cX10_knows 91 = .ok (.iload_n 1, 1) := by decide +kernel
theorem dX10_knows_92 : decode cX10_knows 92 = .ok (.iaload, 1) := by decide +kernel
theorem dX10_knows_93 : decode cX10_knows 93 = .ok (.iaload, 1) := by decide +kernel
theorem dX10_knows_94 : decode cX10_knows 94 = .ok (.aload_n 0, 1) := by decide +kernel
theorem dX10_knows_95 : decode cX10_knows 95 = .ok (.getfield 62, 3) := by decide +kernel
theorem dX10_knows_98 : decode cX10_knows 98 = .ok (.aload_n 0, 1) := by decide +kernel
theorem dX10_knows_99 : decode cX10_knows 99 = .ok (.getfield 111, 3) := by decide +kernel
theorem dX10_knows_102 : decode cX10_knows 102 = .ok (.iload_n 1, 1) := by decide +kernel
theorem dX10_knows_103 : decode cX10_knows 103 = .ok (.iaload, 1) := by decide +kernel
theorem dX10_knows_104 : decode cX10_knows 104 = .ok (.baload, 1) := by decide +kernel
theorem dX10_knows_105 : decode cX10_knows 105 = .ok (.ifCond .eq 7, 3) := by decide +kernel
theorem dX10_knows_108 : decode cX10_knows 108 = .ok (.iconst 2, 1) := by decide +kernel
theorem dX10_knows_109 : decode cX10_knows 109 = .ok (.goto 4, 3) := by decide +kernel
theorem dX10_knows_112 : decode cX10_knows 112 = .ok (.iconst 1, 1) := by decide +kernel
theorem dX10_knows_113 : decode cX10_knows 113 = .ok (.imul, 1) := by decide +kernel
theorem dX10_knows_114 : decode cX10_knows 114 = .ok (.istore_n 2, 1) := by decide +kernel
theorem dX10_knows_115 : decode cX10_knows 115 = .ok (.aload_n 0, 1) := by decide +kernel
theorem dX10_knows_116 : decode cX10_knows 116 = .ok (.getfield 114, 3) := by decide +kernel
theorem dX10_knows_119 : decode cX10_knows 119 = .ok (.iload_n 1, 1) := by decide +kernel
theorem dX10_knows_120 : decode cX10_knows 120 = .ok (.iload_n 2, 1) := by decide +kernel
theorem dX10_knows_121 : decode cX10_knows 121 = .ok (.aload_n 0, 1) := by decide +kernel
theorem dX10_knows_122 : decode cX10_knows 122 = .ok (.getfield 158, 3) := by decide +kernel
theorem dX10_knows_125 : decode cX10_knows 125 = .ok (.iadd, 1) := by decide +kernel
theorem dX10_knows_126 : decode cX10_knows 126 = .ok (.iconst 1, 1) := by decide +kernel
theorem dX10_knows_127 : decode cX10_knows 127 = .ok (.isub, 1) := by decide +kernel
theorem dX10_knows_128 : decode cX10_knows 128 = .ok (.aload_n 0, 1) := by decide +kernel
theorem dX10_knows_129 : decode cX10_knows 129 = .ok (.getfield 158, 3) := by decide +kernel
theorem dX10_knows_132 : decode cX10_knows 132 = .ok (.idiv, 1) := by decide +kernel
theorem dX10_knows_133 : decode cX10_knows 133 = .ok (.iastore, 1) := by decide +kernel
theorem dX10_knows_134 : decode cX10_knows 134 = .ok (.iinc 1 1, 3) := by decide +kernel
theorem dX10_knows_137 : decode cX10_knows 137 = .ok (.goto (-62), 3) := by decide +kernel
theorem dX10_knows_140 : decode cX10_knows 140 = .ok (.aload_n 0, 1) := by decide +kernel
theorem dX10_knows_141 : decode cX10_knows 141 = .ok (.getfield 117, 3) := by decide +kernel
theorem dX10_knows_144 : decode cX10_knows 144 = .ok (.iconst 1, 1) := by decide +kernel
theorem dX10_knows_145 : decode cX10_knows 145 = .ok (.aload_n 0, 1) := by decide +kernel
theorem dX10_knows_146 : decode cX10_knows 146 = .ok (.getfield 221, 3) := by decide +kernel
theorem dX10_knows_149 : decode cX10_knows 149 = .ok (.ishl, 1) := by decide +kernel
theorem dX10_knows_150 : decode cX10_knows 150 = .ok (.iconst 1, 1) := by decide +kernel
theorem dX10_knows_151 : decode cX10_knows 151 = .ok (.isub, 1) := by decide +kernel
theorem dX10_knows_152 : decode cX10_knows 152 = .ok (.iconst 0, 1) := by decide +kernel
theorem dX10_knows_153 : decode cX10_knows 153 = .ok (.iastore, 1) := by decide +kernel
theorem dX10_knows_154 : decode cX10_knows 154 = .ok (.iconst 1, 1) := by decide +kernel
theorem dX10_knows_155 : decode cX10_knows 155 = .ok (.aload_n 0, 1) := by decide +kernel
theorem dX10_knows_156 : decode cX10_knows 156 = .ok (.getfield 221, 3) := by decide +kernel
theorem dX10_knows_159 : decode cX10_knows 159 = .ok (.ishl, 1) := by decide +kernel
theorem dX10_knows_160 : decode cX10_knows 160 = .ok (.iconst 2, 1) := by decide +kernel
theorem dX10_knows_161 : decode cX10_knows 161 = .ok (.isub, 1) := by decide +kernel
theorem dX10_knows_162 : decode cX10_knows 162 = .ok (.istore_n 1, 1) := by decide +kernel
theorem dX10_knows_163 : decode cX10_knows 163 = .ok (.iload_n 1, 1) := by decide +kernel
theorem dX10_knows_164 : decode cX10_knows 164 = .ok (.ifCond .lt 82, 3) := by decide +kernel
theorem dX10_knows_167 : decode cX10_knows 167 = .ok (.iconst (-1), 1) := by decide +kernel
theorem dX10_knows_168 : decode cX10_knows 168 = .ok (.istore_n 2, 1) := by decide +kernel
theorem dX10_knows_169 : decode cX10_knows 169 = .ok (.iconst 0, 1) := by decide +kernel
theorem dX10_knows_170 : decode cX10_knows 170 = .ok (.istore_n 3, 1) := by decide +kernel
theorem dX10_knows_171 : decode cX10_knows 171 = .ok (.iload_n 3, 1) := by decide +kernel
theorem dX10_knows_172 : decode cX10_knows 172 = .ok (.aload_n 0, 1) := by decide +kernel
theorem dX10_knows_173 : decode cX10_knows 173 = .ok (.getfield 221, 3) := by decide +kernel
theorem dX10_knows_176 : decode cX10_knows 176 = .ok (.if_icmp .ge 57, 3) := by decide +kernel
theorem dX10_knows_179 : decode cX10_knows 179 = .ok (.iload_n 1, 1) := by decide +kernel
theorem dX10_knows_180 : decode cX10_knows 180 = .ok (.iload_n 3, 1) := by decide +kernel
theorem dX10_knows_181 : decode cX10_knows 181 = .ok (.ishr, 1) := by decide +kernel
theorem dX10_knows_182 : decode cX10_knows 182 = .ok (.iconst 1, 1) := by decide +kernel
theorem dX10_knows_183 : decode cX10_knows 183 = .ok (.iand, 1) := by decide +kernel
theorem dX10_knows_184 : decode cX10_knows 184 = .ok (.iconst 1, 1) := by decide +kernel
theorem dX10_knows_185 : decode cX10_knows 185 = .ok (.if_icmp .ne 6, 3) := by decide +kernel
theorem dX10_knows_188 : decode cX10_knows 188 = .ok (.goto 39, 3) := by decide +kernel
theorem dX10_knows_191 : decode cX10_knows 191 = .ok (.aload_n 0, 1) := by decide +kernel
theorem dX10_knows_192 : decode cX10_knows 192 = .ok (.iload_n 1, 1) := by decide +kernel
theorem dX10_knows_193 : decode cX10_knows 193 = .ok (.iload_n 3, 1) := by decide +kernel
theorem dX10_knows_194 : decode cX10_knows 194 = .ok (.invokevirtual 224, 3) := by decide +kernel
theorem dX10_knows_197 : decode cX10_knows 197 = .ok (.aload_n 0, 1) := by decide +kernel
theorem dX10_knows_198 : decode cX10_knows 198 = .ok (.getfield 117, 3) := by decide +kernel
theorem dX10_knows_201 : decode cX10_knows 201 = .ok (.iload_n 1, 1) := by decide +kernel
theorem dX10_knows_202 : decode cX10_knows 202 = .ok (.iconst 1, 1) := by decide +kernel
theorem dX10_knows_203 : decode cX10_knows 203 = .ok (.iload_n 3, 1) := by decide +kernel
theorem dX10_knows_204 : decode cX10_knows 204 = .ok (.ishl, 1) := by decide +kernel
theorem dX10_knows_205 : decode cX10_knows 205 = .ok (.ior, 1) := by decide +kernel
theorem dX10_knows_206 : decode cX10_knows 206 = .ok (.iaload, 1) := by decide +kernel
theorem dX10_knows_207 : decode cX10_knows 207 = .ok (.iadd, 1) := by decide +kernel
theorem dX10_knows_208 : decode cX10_knows 208 = .ok (.istore 4, 2) := by decide +kernel
theorem dX10_knows_210 : decode cX10_knows 210 = .ok (.iload_n 2, 1) := by decide +kernel
theorem dX10_knows_211 : decode cX10_knows 211 = .ok (.ifCond .lt 9, 3) := by decide +kernel
theorem dX10_knows_214 : decode cX10_knows 214 = .ok (.iload 4, 2) := by decide +kernel
theorem dX10_knows_216 : decode cX10_knows 216 = .ok (.iload_n 2, 1) := by decide +kernel
theorem dX10_knows_217 : decode cX10_knows 217 = .ok (.if_icmp .ge 8, 3) := by decide +kernel
theorem dX10_knows_220 : decode cX10_knows 220 = .ok (.iload 4, 2) := by decide +kernel
theorem dX10_knows_222 : decode cX10_knows 222 = .ok (.goto 4, 3) := by decide +kernel
theorem dX10_knows_225 : decode cX10_knows 225 = .ok (.iload_n 2, 1) := by decide +kernel
theorem dX10_knows_226 : decode cX10_knows 226 = .ok (.istore_n 2, 1) := by decide +kernel
theorem dX10_knows_227 : decode cX10_knows 227 = .ok (.iinc 3 1, 3) := by decide +kernel
theorem dX10_knows_230 : decode cX10_knows 230 = .ok (.goto (-59), 3) := by decide +kernel
theorem dX10_knows_233 : decode cX10_knows 233 = .ok (.aload_n 0, 1) := by decide +kernel
theorem dX10_knows_234 : decode cX10_knows 234 = .ok (.getfield 117, 3) := by decide +kernel
theorem dX10_knows_237 : decode cX10_knows 237 = .ok (.iload_n 1, 1) := by decide +kernel
theorem dX10_knows_238 : decode cX10_knows 238 = .ok (.iload_n 2, 1) := by decide +kernel
theorem dX10_knows_239 : decode cX10_knows 239 = .ok (.iastore, 1) := by decide +kernel
theorem dX10_knows_240 : decode cX10_knows 240 = .ok (.iinc 1 (-1), 3) := by decide +kernel
theorem dX10_knows_243 : decode cX10_knows 243 = .ok (.goto (-80), 3) := by decide +kernel
theorem dX10_knows_246 : decode cX10_knows 246 = .ok (.iconst 1, 1) := by decide +kernel
theorem dX10_knows_247 : decode cX10_knows 247 = .ok (.ireturn, 1) := by decide +kernel
theorem dX10_lies_0 : decode cX10_lies 0 = .ok (.aload_n 0, 1) := by decide +kernel
theorem dX10_lies_1 : decode cX10_lies 1 = .ok (.getfield 138, 3) := by decide +kernel
theorem dX10_lies_4 : decode cX10_lies 4 = .ok (.istore_n 3, 1) := by decide +kernel
theorem dX10_lies_5 : decode cX10_lies 5 = .ok (.iconst 0, 1) := by decide +kernel
theorem dX10_lies_6 : decode cX10_lies 6 = .ok (.istore 4, 2) := by decide +kernel
theorem dX10_lies_8 : decode cX10_lies 8 = .ok (.iload 4, 2) := by decide +kernel
theorem dX10_lies_10 : decode cX10_lies 10 = .ok (.aload_n 0, 1) := by decide +kernel
theorem dX10_lies_11 : decode cX10_lies 11 = .ok (.getfield 221, 3) := by decide +kernel
theorem dX10_lies_14 : decode cX10_lies 14 = .ok (.if_icmp .ge 33, 3) := by decide +kernel
theorem dX10_lies_17 : decode cX10_lies 17 = .ok (.iload_n 3, 1) := by decide +kernel
theorem dX10_lies_18 : decode cX10_lies 18 = .ok (.iload_n 1, 1) := by decide +kernel
theorem dX10_lies_19 : decode cX10_lies 19 = .ok (.iload 4, 2) := by decide +kernel
theorem dX10_lies_21 : decode cX10_lies 21 = .ok (.ishr, 1) := by decide +kernel
theorem dX10_lies_22 : decode cX10_lies 22 = .ok (.iconst 1, 1) := by decide +kernel
theorem dX10_lies_23 : decode cX10_lies 23 = .ok (.iand, 1) := by decide +kernel
theorem dX10_lies_24 : decode cX10_lies 24 = .ok (.iconst 1, 1) := by decide +kernel
theorem dX10_lies_25 : decode cX10_lies 25 = .ok (.if_icmp .ne 13, 3) := by decide +kernel
theorem dX10_lies_28 : decode cX10_lies 28 = .ok (.aload_n 0, 1) := by decide +kernel
theorem dX10_lies_29 : decode cX10_lies 29 = .ok (.getfield 114, 3) := by decide +kernel
theorem dX10_lies_32 : decode cX10_lies 32 = .ok (.iload 4, 2) := by decide +kernel
theorem dX10_lies_34 : decode cX10_lies 34 = .ok (.iaload, 1) := by decide +kernel
theorem dX10_lies_35 : decode cX10_lies 35 = .ok (.goto 4, 3) := by decide +kernel
theorem dX10_lies_38 : decode cX10_lies 38 = .ok (.iconst 0, 1) := by decide +kernel
theorem dX10_lies_39 : decode cX10_lies 39 = .ok (.iadd, 1) := by decide +kernel
theorem dX10_lies_40 : decode cX10_lies 40 = .ok (.istore_n 3, 1) := by decide +kernel
theorem dX10_lies_41 : decode cX10_lies 41 = .ok (.iinc 4 1, 3) := by decide +kernel
theorem dX10_lies_44 : decode cX10_lies 44 = .ok (.goto (-36), 3) := by decide +kernel
theorem dX10_lies_47 : decode cX10_lies 47 = .ok (.aload_n 0, 1) := by decide +kernel
theorem dX10_lies_48 : decode cX10_lies 48 = .ok (.getfield 111, 3) := by decide +kernel
theorem dX10_lies_51 : decode cX10_lies 51 = .ok (.iload_n 2, 1) := by decide +kernel
theorem dX10_lies_52 : decode cX10_lies 52 = .ok (.iaload, 1) := by decide +kernel
theorem dX10_lies_53 : decode cX10_lies 53 = .ok (.istore 4, 2) := by decide +kernel
theorem dX10_lies_55 : decode cX10_lies 55 = .ok (.aload_n 0, 1) := by decide +kernel
theorem dX10_lies_56 : decode cX10_lies 56 = .ok (.getfield 47, 3) := by decide +kernel
theorem dX10_lies_59 : decode cX10_lies 59 = .ok (.iload 4, 2) := by decide +kernel
theorem dX10_lies_61 : decode cX10_lies 61 = .ok (.iaload, 1) := by decide +kernel
theorem dX10_lies_62 : decode cX10_lies 62 = .ok (.istore 5, 2) := by decide +kernel
theorem dX10_lies_64 : decode cX10_lies 64 = .ok (.aload_n 0, 1) := by decide +kernel
theorem dX10_lies_65 : decode cX10_lies 65 = .ok (.getfield 138, 3) := by decide +kernel
theorem dX10_lies_68 : decode cX10_lies 68 = .ok (.bipush 24, 2) := by decide +kernel
theorem dX10_lies_70 : decode cX10_lies 70 = .ok (.idiv, 1) := by decide +kernel
theorem dX10_lies_71 : decode cX10_lies 71 = .ok (.iconst 1, 1) := by decide +kernel
theorem dX10_lies_72 : decode cX10_lies 72 = .ok (.iadd, 1) := by decide +kernel
theorem dX10_lies_73 : decode cX10_lies 73 = .ok (.bipush 24, 2) := by decide +kernel
theorem dX10_lies_75 : decode cX10_lies 75 = .ok (.imul, 1) := by decide +kernel
theorem dX10_lies_76 : decode cX10_lies 76 = .ok (.istore 6, 2) := by decide +kernel
theorem dX10_lies_78 : decode cX10_lies 78 = .ok (.iload 6, 2) := by decide +kernel
theorem dX10_lies_80 : decode cX10_lies 80 = .ok (.iload_n 3, 1) := by decide +kernel
theorem dX10_lies_81 : decode cX10_lies 81 = .ok (.if_icmp .gt 37, 3) := by decide +kernel
theorem dX10_lies_84 : decode cX10_lies 84 = .ok (.iload 6, 2) := by decide +kernel
theorem dX10_lies_86 : decode cX10_lies 86 = .ok (.sipush 2400, 3) := by decide +kernel
theorem dX10_lies_89 : decode cX10_lies 89 = .ok (.if_icmp .gt 29, 3) := by decide +kernel
theorem dX10_lies_92 : decode cX10_lies 92 = .ok (.iload 5, 2) := by decide +kernel
theorem dX10_lies_94 : decode cX10_lies 94 = .ok (.aload_n 0, 1) := by decide +kernel
theorem dX10_lies_95 : decode cX10_lies 95 = .ok (.iload 4, 2) := by decide +kernel
theorem dX10_lies_97 : decode cX10_lies 97 = .ok (.iload 5, 2) := by decide +kernel
theorem dX10_lies_99 : decode cX10_lies 99 = .ok (.iload 6, 2) := by decide +kernel
theorem dX10_lies_101 : decode cX10_lies 101 = .ok (.bipush 24, 2) := by decide +kernel
theorem dX10_lies_103 : decode cX10_lies 103 = .ok (.idiv, 1) := by decide +kernel
theorem dX10_lies_104 : decode cX10_lies 104 = .ok (.iconst 1, 1) := by decide +kernel
theorem dX10_lies_105 : decode cX10_lies 105 = .ok (.isub, 1) := by decide +kernel
theorem dX10_lies_106 : decode cX10_lies 106 = .ok (.invokevirtual 195, 3) := by decide +kernel
theorem dX10_lies_109 : decode cX10_lies 109 = .ok (.isub, 1) := by decide +kernel
theorem dX10_lies_110 : decode cX10_lies 110 = .ok (.istore 5, 2) := by decide +kernel
theorem dX10_lies_112 : decode cX10_lies 112 = .ok (.iinc 6 24, 3) := by decide +kernel
theorem dX10_lies_115 : decode cX10_lies 115 = .ok (.goto (-37), 3) := by decide +kernel
theorem dX10_lies_118 : decode cX10_lies 118 = .ok (.aload_n 0, 1) := by decide +kernel
theorem dX10_lies_119 : decode cX10_lies 119 = .ok (.getfield 47, 3) := by decide +kernel
theorem dX10_lies_122 : decode cX10_lies 122 = .ok (.iload 4, 2) := by decide +kernel
theorem dX10_lies_124 : decode cX10_lies 124 = .ok (.iaload, 1) := by decide +kernel
theorem dX10_lies_125 : decode cX10_lies 125 = .ok (.iload 5, 2) := by decide +kernel
theorem dX10_lies_127 : decode cX10_lies 127 = .ok (.isub, 1) := by decide +kernel
theorem dX10_lies_128 : decode cX10_lies 128 = .ok (.ireturn, 1) := by decide +kernel
theorem dX10_best_0 : decode cX10_best 0 = .ok (.aload_n 0, 1) := by decide +kernel
theorem dX10_best_1 : decode cX10_best 1 = .ok (.invokevirtual 227, 3) := by decide +kernel
theorem dX10_best_4 : decode cX10_best 4 = .ok (.ifCond .eq 12, 3) := by decide +kernel
theorem dX10_best_7 : decode cX10_best 7 = .ok (.aload_n 0, 1) := by decide +kernel
theorem dX10_best_8 : decode cX10_best 8 = .ok (.getfield 117, 3) := by decide +kernel
theorem dX10_best_11 : decode cX10_best 11 = .ok (.iconst 0, 1) := by decide +kernel
theorem dX10_best_12 : decode cX10_best 12 = .ok (.iaload, 1) := by decide +kernel
theorem dX10_best_13 : decode cX10_best 13 = .ok (.goto 9, 3) := by decide +kernel
theorem dX10_best_16 : decode cX10_best 16 = .ok (.aload_n 0, 1) := by decide +kernel
theorem dX10_best_17 : decode cX10_best 17 = .ok (.bipush (-3), 2) := by decide +kernel
theorem dX10_best_19 : decode cX10_best 19 = .ok (.invokevirtual 124, 3) := by decide +kernel
theorem dX10_best_22 : decode cX10_best 22 = .ok (.ireturn, 1) := by decide +kernel
theorem dX10_order_0 : decode cX10_order 0 = .ok (.aload_n 0, 1) := by decide +kernel
theorem dX10_order_1 : decode cX10_order 1 = .ok (.invokevirtual 227, 3) := by decide +kernel
theorem dX10_order_4 : decode cX10_order 4 = .ok (.ifCond .ne 10, 3) := by decide +kernel
theorem dX10_order_7 : decode cX10_order 7 = .ok (.aload_n 0, 1) := by decide +kernel
theorem dX10_order_8 : decode cX10_order 8 = .ok (.bipush (-3), 2) := by decide +kernel
theorem dX10_order_10 : decode cX10_order 10 = .ok (.invokevirtual 124, 3) := by decide +kernel
theorem dX10_order_13 : decode cX10_order 13 = .ok (.ireturn, 1) := by decide +kernel
theorem dX10_order_14 : decode cX10_order 14 = .ok (.iload_n 1, 1) := by decide +kernel
theorem dX10_order_15 : decode cX10_order 15 = .ok (.aload_n 0, 1) := by decide +kernel
theorem dX10_order_16 : decode cX10_order 16 = .ok (.getfield 221, 3) := by decide +kernel
theorem dX10_order_19 : decode cX10_order 19 = .ok (.invokestatic 120, 3) := by decide +kernel
theorem dX10_order_22 : decode cX10_order 22 = .ok (.ifCond .ne 6, 3) := by decide +kernel
theorem dX10_order_25 : decode cX10_order 25 = .ok (.bipush (-9), 2) := by decide +kernel
theorem dX10_order_27 : decode cX10_order 27 = .ok (.ireturn, 1) := by decide +kernel
theorem dX10_order_28 : decode cX10_order 28 = .ok (.iconst 0, 1) := by decide +kernel
theorem dX10_order_29 : decode cX10_order 29 = .ok (.istore_n 2, 1) := by decide +kernel
theorem dX10_order_30 : decode cX10_order 30 = .ok (.bipush (-9), 2) := by decide +kernel
theorem dX10_order_32 : decode cX10_order 32 = .ok (.istore_n 3, 1) := by decide +kernel
theorem dX10_order_33 : decode cX10_order 33 = .ok (.iconst 0, 1) := by decide +kernel
theorem dX10_order_34 : decode cX10_order 34 = .ok (.istore 4, 2) := by decide +kernel
theorem dX10_order_36 : decode cX10_order 36 = .ok (.iload 4, 2) := by decide +kernel
theorem dX10_order_38 : decode cX10_order 38 = .ok (.iload_n 1, 1) := by decide +kernel
theorem dX10_order_39 : decode cX10_order 39 = .ok (.if_icmp .gt 71, 3) := by decide +kernel
theorem dX10_order_42 : decode cX10_order 42 = .ok (.iconst 0, 1) := by decide +kernel
theorem dX10_order_43 : decode cX10_order 43 = .ok (.istore 5, 2) := by decide +kernel
theorem dX10_order_45 : decode cX10_order 45 = .ok (.iload_n 2, 1) := by decide +kernel
theorem dX10_order_46 : decode cX10_order 46 = .ok (.iload 5, 2) := by decide +kernel
theorem dX10_order_48 : decode cX10_order 48 = .ok (.ishr, 1) := by decide +kernel
theorem dX10_order_49 : decode cX10_order 49 = .ok (.iconst 1, 1) := by decide +kernel
theorem dX10_order_50 : decode cX10_order 50 = .ok (.iand, 1) := by decide +kernel
theorem dX10_order_51 : decode cX10_order 51 = .ok (.iconst 1, 1) := by decide +kernel
theorem dX10_order_52 : decode cX10_order 52 = .ok (.if_icmp .eq 31, 3) := by decide +kernel
theorem dX10_order_55 : decode cX10_order 55 = .ok (.aload_n 0, 1) := by decide +kernel
theorem dX10_order_56 : decode cX10_order 56 = .ok (.iload_n 2, 1) := by decide +kernel
theorem dX10_order_57 : decode cX10_order 57 = .ok (.iload 5, 2) := by decide +kernel
theorem dX10_order_59 : decode cX10_order 59 = .ok (.invokevirtual 224, 3) := by decide +kernel
theorem dX10_order_62 : decode cX10_order 62 = .ok (.aload_n 0, 1) := by decide +kernel
theorem dX10_order_63 : decode cX10_order 63 = .ok (.getfield 117, 3) := by decide +kernel
theorem dX10_order_66 : decode cX10_order 66 = .ok (.iload_n 2, 1) := by decide +kernel
theorem dX10_order_67 : decode cX10_order 67 = .ok (.iconst 1, 1) := by decide +kernel
theorem dX10_order_68 : decode cX10_order 68 = .ok (.iload 5, 2) := by decide +kernel
theorem dX10_order_70 : decode cX10_order 70 = .ok (.ishl, 1) := by decide +kernel
theorem dX10_order_71 : decode cX10_order 71 = .ok (.ior, 1) := by decide +kernel
theorem dX10_order_72 : decode cX10_order 72 = .ok (.iaload, 1) := by decide +kernel
theorem dX10_order_73 : decode cX10_order 73 = .ok (.iadd, 1) := by decide +kernel
theorem dX10_order_74 : decode cX10_order 74 = .ok (.aload_n 0, 1) := by decide +kernel
theorem dX10_order_75 : decode cX10_order 75 = .ok (.getfield 117, 3) := by decide +kernel
theorem dX10_order_78 : decode cX10_order 78 = .ok (.iload_n 2, 1) := by decide +kernel
theorem dX10_order_79 : decode cX10_order 79 = .ok (.iaload, 1) := by decide +kernel
theorem dX10_order_80 : decode cX10_order 80 = .ok (.if_icmp .eq 9, 3) := by decide +kernel
theorem dX10_order_83 : decode cX10_order 83 = .ok (.iinc 5 1, 3) := by decide +kernel
theorem dX10_order_86 : decode cX10_order 86 = .ok (.goto (-41), 3) := by decide +kernel
theorem dX10_order_89 : decode cX10_order 89 = .ok (.aload_n 0, 1) := by decide +kernel
theorem dX10_order_90 : decode cX10_order 90 = .ok (.getfield 111, 3) := by decide +kernel
theorem dX10_order_93 : decode cX10_order 93 = .ok (.iload 5, 2) := by decide +kernel
theorem dX10_order_95 : decode cX10_order 95 = .ok (.iaload, 1) := by decide +kernel
theorem dX10_order_96 : decode cX10_order 96 = .ok (.istore_n 3, 1) := by decide +kernel
theorem dX10_order_97 : decode cX10_order 97 = .ok (.iload_n 2, 1) := by decide +kernel
theorem dX10_order_98 : decode cX10_order 98 = .ok (.iconst 1, 1) := by decide +kernel
theorem dX10_order_99 : decode cX10_order 99 = .ok (.iload 5, 2) := by decide +kernel
theorem dX10_order_101 : decode cX10_order 101 = .ok (.ishl, 1) := by decide +kernel
theorem dX10_order_102 : decode cX10_order 102 = .ok (.ior, 1) := by decide +kernel
theorem dX10_order_103 : decode cX10_order 103 = .ok (.istore_n 2, 1) := by decide +kernel
theorem dX10_order_104 : decode cX10_order 104 = .ok (.iinc 4 1, 3) := by decide +kernel
theorem dX10_order_107 : decode cX10_order 107 = .ok (.goto (-71), 3) := by decide +kernel
theorem dX10_order_110 : decode cX10_order 110 = .ok (.iload_n 3, 1) := by decide +kernel
theorem dX10_order_111 : decode cX10_order 111 = .ok (.ireturn, 1) := by decide +kernel
theorem dX10_fieldOf_0 : decode cX10_fieldOf 0 = .ok (.aload_n 0, 1) := by decide +kernel
theorem dX10_fieldOf_1 : decode cX10_fieldOf 1 = .ok (.iload_n 1, 1) := by decide +kernel
theorem dX10_fieldOf_2 : decode cX10_fieldOf 2 = .ok (.invokevirtual 134, 3) := by decide +kernel
theorem dX10_fieldOf_5 : decode cX10_fieldOf 5 = .ok (.ifCond .ne 9, 3) := by decide +kernel
theorem dX10_fieldOf_8 : decode cX10_fieldOf 8 = .ok (.aload_n 0, 1) := by decide +kernel
theorem dX10_fieldOf_9 : decode cX10_fieldOf 9 = .ok (.iconst (-1), 1) := by decide +kernel
theorem dX10_fieldOf_10 : decode cX10_fieldOf 10 = .ok (.invokevirtual 124, 3) := by decide +kernel
theorem dX10_fieldOf_13 : decode cX10_fieldOf 13 = .ok (.ireturn, 1) := by decide +kernel
theorem dX10_fieldOf_14 : decode cX10_fieldOf 14 = .ok (.iconst 0, 1) := by decide +kernel
theorem dX10_fieldOf_15 : decode cX10_fieldOf 15 = .ok (.istore_n 3, 1) := by decide +kernel
theorem dX10_fieldOf_16 : decode cX10_fieldOf 16 = .ok (.iload_n 2, 1) := by decide +kernel
theorem dX10_fieldOf_17 : decode cX10_fieldOf 17 = .ok (.tableswitch 195 0 10 #[59, 66, 73, 80, 95, 110, 117, 124, 131, 138, 145], 59) := by decide +kernel
theorem dX10_fieldOf_76 : decode cX10_fieldOf 76 = .ok (.aload_n 0, 1) := by decide +kernel
theorem dX10_fieldOf_77 : decode cX10_fieldOf 77 = .ok (.getfield 35, 3) := by decide +kernel
theorem dX10_fieldOf_80 : decode cX10_fieldOf 80 = .ok (.iload_n 1, 1) := by decide +kernel
theorem dX10_fieldOf_81 : decode cX10_fieldOf 81 = .ok (.iaload, 1) := by decide +kernel
theorem dX10_fieldOf_82 : decode cX10_fieldOf 82 = .ok (.ireturn, 1) := by decide +kernel
theorem dX10_fieldOf_83 : decode cX10_fieldOf 83 = .ok (.aload_n 0, 1) := by decide +kernel
theorem dX10_fieldOf_84 : decode cX10_fieldOf 84 = .ok (.getfield 44, 3) := by decide +kernel
theorem dX10_fieldOf_87 : decode cX10_fieldOf 87 = .ok (.iload_n 1, 1) := by decide +kernel
theorem dX10_fieldOf_88 : decode cX10_fieldOf 88 = .ok (.iaload, 1) := by decide +kernel
theorem dX10_fieldOf_89 : decode cX10_fieldOf 89 = .ok (.ireturn, 1) := by decide +kernel
theorem dX10_fieldOf_90 : decode cX10_fieldOf 90 = .ok (.aload_n 0, 1) := by decide +kernel
theorem dX10_fieldOf_91 : decode cX10_fieldOf 91 = .ok (.getfield 47, 3) := by decide +kernel
theorem dX10_fieldOf_94 : decode cX10_fieldOf 94 = .ok (.iload_n 1, 1) := by decide +kernel
theorem dX10_fieldOf_95 : decode cX10_fieldOf 95 = .ok (.iaload, 1) := by decide +kernel
theorem dX10_fieldOf_96 : decode cX10_fieldOf 96 = .ok (.ireturn, 1) := by decide +kernel
theorem dX10_fieldOf_97 : decode cX10_fieldOf 97 = .ok (.aload_n 0, 1) := by decide +kernel
theorem dX10_fieldOf_98 : decode cX10_fieldOf 98 = .ok (.getfield 66, 3) := by decide +kernel
theorem dX10_fieldOf_101 : decode cX10_fieldOf 101 = .ok (.iload_n 1, 1) := by decide +kernel
theorem dX10_fieldOf_102 : decode cX10_fieldOf 102 = .ok (.baload, 1) := by decide +kernel
theorem dX10_fieldOf_103 : decode cX10_fieldOf 103 = .ok (.ifCond .eq 7, 3) := by decide +kernel
theorem dX10_fieldOf_106 : decode cX10_fieldOf 106 = .ok (.iconst 1, 1) := by decide +kernel
theorem dX10_fieldOf_107 : decode cX10_fieldOf 107 = .ok (.goto 4, 3) := by decide +kernel
theorem dX10_fieldOf_110 : decode cX10_fieldOf 110 = .ok (.iconst 0, 1) := by decide +kernel
theorem dX10_fieldOf_111 : decode cX10_fieldOf 111 = .ok (.ireturn, 1) := by decide +kernel
theorem dX10_fieldOf_112 : decode cX10_fieldOf 112 = .ok (.aload_n 0, 1) := by decide +kernel
theorem dX10_fieldOf_113 : decode cX10_fieldOf 113 = .ok (.getfield 69, 3) := by decide +kernel
theorem dX10_fieldOf_116 : decode cX10_fieldOf 116 = .ok (.iload_n 1, 1) := by decide +kernel
theorem dX10_fieldOf_117 : decode cX10_fieldOf 117 = .ok (.baload, 1) := by decide +kernel
theorem dX10_fieldOf_118 : decode cX10_fieldOf 118 = .ok (.ifCond .eq 7, 3) := by decide +kernel
theorem dX10_fieldOf_121 : decode cX10_fieldOf 121 = .ok (.iconst 1, 1) := by decide +kernel
theorem dX10_fieldOf_122 : decode cX10_fieldOf 122 = .ok (.goto 4, 3) := by decide +kernel
theorem dX10_fieldOf_125 : decode cX10_fieldOf 125 = .ok (.iconst 0, 1) := by decide +kernel
theorem dX10_fieldOf_126 : decode cX10_fieldOf 126 = .ok (.ireturn, 1) := by decide +kernel
theorem dX10_fieldOf_127 : decode cX10_fieldOf 127 = .ok (.aload_n 0, 1) := by decide +kernel
theorem dX10_fieldOf_128 : decode cX10_fieldOf 128 = .ok (.getfield 50, 3) := by decide +kernel
theorem dX10_fieldOf_131 : decode cX10_fieldOf 131 = .ok (.iload_n 1, 1) := by decide +kernel
theorem dX10_fieldOf_132 : decode cX10_fieldOf 132 = .ok (.iaload, 1) := by decide +kernel
theorem dX10_fieldOf_133 : decode cX10_fieldOf 133 = .ok (.ireturn, 1) := by decide +kernel
theorem dX10_fieldOf_134 : decode cX10_fieldOf 134 = .ok (.aload_n 0, 1) := by decide +kernel
theorem dX10_fieldOf_135 : decode cX10_fieldOf 135 = .ok (.getfield 53, 3) := by decide +kernel
theorem dX10_fieldOf_138 : decode cX10_fieldOf 138 = .ok (.iload_n 1, 1) := by decide +kernel
theorem dX10_fieldOf_139 : decode cX10_fieldOf 139 = .ok (.iaload, 1) := by decide +kernel
theorem dX10_fieldOf_140 : decode cX10_fieldOf 140 = .ok (.ireturn, 1) := by decide +kernel
theorem dX10_fieldOf_141 : decode cX10_fieldOf 141 = .ok (.aload_n 0, 1) := by decide +kernel
theorem dX10_fieldOf_142 : decode cX10_fieldOf 142 = .ok (.getfield 56, 3) := by decide +kernel
theorem dX10_fieldOf_145 : decode cX10_fieldOf 145 = .ok (.iload_n 1, 1) := by decide +kernel
theorem dX10_fieldOf_146 : decode cX10_fieldOf 146 = .ok (.iaload, 1) := by decide +kernel
theorem dX10_fieldOf_147 : decode cX10_fieldOf 147 = .ok (.ireturn, 1) := by decide +kernel
theorem dX10_fieldOf_148 : decode cX10_fieldOf 148 = .ok (.aload_n 0, 1) := by decide +kernel
theorem dX10_fieldOf_149 : decode cX10_fieldOf 149 = .ok (.getfield 59, 3) := by decide +kernel
theorem dX10_fieldOf_152 : decode cX10_fieldOf 152 = .ok (.iload_n 1, 1) := by decide +kernel
theorem dX10_fieldOf_153 : decode cX10_fieldOf 153 = .ok (.iaload, 1) := by decide +kernel
theorem dX10_fieldOf_154 : decode cX10_fieldOf 154 = .ok (.ireturn, 1) := by decide +kernel
theorem dX10_fieldOf_155 : decode cX10_fieldOf 155 = .ok (.aload_n 0, 1) := by decide +kernel
theorem dX10_fieldOf_156 : decode cX10_fieldOf 156 = .ok (.getfield 32, 3) := by decide +kernel
theorem dX10_fieldOf_159 : decode cX10_fieldOf 159 = .ok (.iload_n 1, 1) := by decide +kernel
theorem dX10_fieldOf_160 : decode cX10_fieldOf 160 = .ok (.iaload, 1) := by decide +kernel
theorem dX10_fieldOf_161 : decode cX10_fieldOf 161 = .ok (.ireturn, 1) := by decide +kernel
theorem dX10_fieldOf_162 : decode cX10_fieldOf 162 = .ok (.iconst 0, 1) := by decide +kernel
theorem dX10_fieldOf_163 : decode cX10_fieldOf 163 = .ok (.istore 4, 2) := by decide +kernel
theorem dX10_fieldOf_165 : decode cX10_fieldOf 165 = .ok (.iload 4, 2) := by decide +kernel
theorem dX10_fieldOf_167 : decode cX10_fieldOf 167 = .ok (.aload_n 0, 1) := by decide +kernel
theorem dX10_fieldOf_168 : decode cX10_fieldOf 168 = .ok (.getfield 131, 3) := by decide +kernel
theorem dX10_fieldOf_171 : decode cX10_fieldOf 171 = .ok (.if_icmp .ge 39, 3) := by decide +kernel
theorem dX10_fieldOf_174 : decode cX10_fieldOf 174 = .ok (.iload_n 3, 1) := by decide +kernel
theorem dX10_fieldOf_175 : decode cX10_fieldOf 175 = .ok (.aload_n 0, 1) := by decide +kernel
theorem dX10_fieldOf_176 : decode cX10_fieldOf 176 = .ok (.getfield 81, 3) := by decide +kernel
theorem dX10_fieldOf_179 : decode cX10_fieldOf 179 = .ok (.iload 4, 2) := by decide +kernel
theorem dX10_fieldOf_181 : decode cX10_fieldOf 181 = .ok (.iaload, 1) := by decide +kernel
theorem dX10_fieldOf_182 : decode cX10_fieldOf 182 = .ok (.iconst 1, 1) := by decide +kernel
theorem dX10_fieldOf_183 : decode cX10_fieldOf 183 = .ok (.if_icmp .ne 18, 3) := by decide +kernel
theorem dX10_fieldOf_186 : decode cX10_fieldOf 186 = .ok (.aload_n 0, 1) := by decide +kernel
theorem dX10_fieldOf_187 : decode cX10_fieldOf 187 = .ok (.getfield 84, 3) := by decide +kernel
theorem dX10_fieldOf_190 : decode cX10_fieldOf 190 = .ok (.iload 4, 2) := by decide +kernel
theorem dX10_fieldOf_192 : decode cX10_fieldOf 192 = .ok (.iaload, 1) := by decide +kernel
theorem dX10_fieldOf_193 : decode cX10_fieldOf 193 = .ok (.iload_n 1, 1) := by decide +kernel
theorem dX10_fieldOf_194 : decode cX10_fieldOf 194 = .ok (.if_icmp .ne 7, 3) := by decide +kernel
theorem dX10_fieldOf_197 : decode cX10_fieldOf 197 = .ok (.iconst 1, 1) := by decide +kernel
theorem dX10_fieldOf_198 : decode cX10_fieldOf 198 = .ok (.goto 4, 3) := by decide +kernel
theorem dX10_fieldOf_201 : decode cX10_fieldOf 201 = .ok (.iconst 0, 1) := by decide +kernel
theorem dX10_fieldOf_202 : decode cX10_fieldOf 202 = .ok (.iadd, 1) := by decide +kernel
theorem dX10_fieldOf_203 : decode cX10_fieldOf 203 = .ok (.istore_n 3, 1) := by decide +kernel
theorem dX10_fieldOf_204 : decode cX10_fieldOf 204 = .ok (.iinc 4 1, 3) := by decide +kernel
theorem dX10_fieldOf_207 : decode cX10_fieldOf 207 = .ok (.goto (-42), 3) := by decide +kernel
theorem dX10_fieldOf_210 : decode cX10_fieldOf 210 = .ok (.iload_n 3, 1) := by decide +kernel
theorem dX10_fieldOf_211 : decode cX10_fieldOf 211 = .ok (.ireturn, 1) := by decide +kernel
theorem dX10_fieldOf_212 : decode cX10_fieldOf 212 = .ok (.aload_n 0, 1) := by decide +kernel
theorem dX10_fieldOf_213 : decode cX10_fieldOf 213 = .ok (.bipush (-2), 2) := by decide +kernel
theorem dX10_fieldOf_215 : decode cX10_fieldOf 215 = .ok (.invokevirtual 124, 3) := by decide +kernel
theorem dX10_fieldOf_218 : decode cX10_fieldOf 218 = .ok (.ireturn, 1) := by decide +kernel
theorem dX10_lorryOf_0 : decode cX10_lorryOf 0 = .ok (.aload_n 0, 1) := by decide +kernel
theorem dX10_lorryOf_1 : decode cX10_lorryOf 1 = .ok (.iload_n 1, 1) := by decide +kernel
theorem dX10_lorryOf_2 : decode cX10_lorryOf 2 = .ok (.invokevirtual 141, 3) := by decide +kernel
theorem dX10_lorryOf_5 : decode cX10_lorryOf 5 = .ok (.ifCond .ne 9, 3) := by decide +kernel
theorem dX10_lorryOf_8 : decode cX10_lorryOf 8 = .ok (.aload_n 0, 1) := by decide +kernel
theorem dX10_lorryOf_9 : decode cX10_lorryOf 9 = .ok (.iconst (-1), 1) := by decide +kernel
theorem dX10_lorryOf_10 : decode cX10_lorryOf 10 = .ok (.invokevirtual 124, 3) := by decide +kernel
theorem dX10_lorryOf_13 : decode cX10_lorryOf 13 = .ok (.ireturn, 1) := by decide +kernel
theorem dX10_lorryOf_14 : decode cX10_lorryOf 14 = .ok (.iload_n 2, 1) := by decide +kernel
theorem dX10_lorryOf_15 : decode cX10_lorryOf 15 = .ok (.tableswitch 115 0 6 #[41, 48, 55, 87, 94, 101, 108], 41) := by decide +kernel
theorem dX10_lorryOf_56 : decode cX10_lorryOf 56 = .ok (.aload_n 0, 1) := by decide +kernel
theorem dX10_lorryOf_57 : decode cX10_lorryOf 57 = .ok (.getfield 81, 3) := by decide +kernel
theorem dX10_lorryOf_60 : decode cX10_lorryOf 60 = .ok (.iload_n 1, 1) := by decide +kernel
theorem dX10_lorryOf_61 : decode cX10_lorryOf 61 = .ok (.iaload, 1) := by decide +kernel
theorem dX10_lorryOf_62 : decode cX10_lorryOf 62 = .ok (.ireturn, 1) := by decide +kernel
theorem dX10_lorryOf_63 : decode cX10_lorryOf 63 = .ok (.aload_n 0, 1) := by decide +kernel
theorem dX10_lorryOf_64 : decode cX10_lorryOf 64 = .ok (.getfield 84, 3) := by decide +kernel
theorem dX10_lorryOf_67 : decode cX10_lorryOf 67 = .ok (.iload_n 1, 1) := by decide +kernel
theorem dX10_lorryOf_68 : decode cX10_lorryOf 68 = .ok (.iaload, 1) := by decide +kernel
theorem dX10_lorryOf_69 : decode cX10_lorryOf 69 = .ok (.ireturn, 1) := by decide +kernel
theorem dX10_lorryOf_70 : decode cX10_lorryOf 70 = .ok (.aload_n 0, 1) := by decide +kernel
theorem dX10_lorryOf_71 : decode cX10_lorryOf 71 = .ok (.getfield 81, 3) := by decide +kernel
theorem dX10_lorryOf_74 : decode cX10_lorryOf 74 = .ok (.iload_n 1, 1) := by decide +kernel
theorem dX10_lorryOf_75 : decode cX10_lorryOf 75 = .ok (.iaload, 1) := by decide +kernel
theorem dX10_lorryOf_76 : decode cX10_lorryOf 76 = .ok (.iconst 1, 1) := by decide +kernel
theorem dX10_lorryOf_77 : decode cX10_lorryOf 77 = .ok (.if_icmp .eq 13, 3) := by decide +kernel
theorem dX10_lorryOf_80 : decode cX10_lorryOf 80 = .ok (.aload_n 0, 1) := by decide +kernel
theorem dX10_lorryOf_81 : decode cX10_lorryOf 81 = .ok (.getfield 81, 3) := by decide +kernel
theorem dX10_lorryOf_84 : decode cX10_lorryOf 84 = .ok (.iload_n 1, 1) := by decide +kernel
theorem dX10_lorryOf_85 : decode cX10_lorryOf 85 = .ok (.iaload, 1) := by decide +kernel
theorem dX10_lorryOf_86 : decode cX10_lorryOf 86 = .ok (.iconst 2, 1) := by decide +kernel
theorem dX10_lorryOf_87 : decode cX10_lorryOf 87 = .ok (.if_icmp .ne 12, 3) := by decide +kernel
theorem dX10_lorryOf_90 : decode cX10_lorryOf 90 = .ok (.aload_n 0, 1) := by decide +kernel
theorem dX10_lorryOf_91 : decode cX10_lorryOf 91 = .ok (.getfield 87, 3) := by decide +kernel
theorem dX10_lorryOf_94 : decode cX10_lorryOf 94 = .ok (.iload_n 1, 1) := by decide +kernel
theorem dX10_lorryOf_95 : decode cX10_lorryOf 95 = .ok (.iaload, 1) := by decide +kernel
theorem dX10_lorryOf_96 : decode cX10_lorryOf 96 = .ok (.goto 5, 3) := by decide +kernel
theorem dX10_lorryOf_99 : decode cX10_lorryOf 99 = .ok (.bipush (-9), 2) := by decide +kernel
theorem dX10_lorryOf_101 : decode cX10_lorryOf 101 = .ok (.ireturn, 1) := by decide +kernel
theorem dX10_lorryOf_102 : decode cX10_lorryOf 102 = .ok (.aload_n 0, 1) := by decide +kernel
theorem dX10_lorryOf_103 : decode cX10_lorryOf 103 = .ok (.getfield 90, 3) := by decide +kernel
theorem dX10_lorryOf_106 : decode cX10_lorryOf 106 = .ok (.iload_n 1, 1) := by decide +kernel
theorem dX10_lorryOf_107 : decode cX10_lorryOf 107 = .ok (.iaload, 1) := by decide +kernel
theorem dX10_lorryOf_108 : decode cX10_lorryOf 108 = .ok (.ireturn, 1) := by decide +kernel
theorem dX10_lorryOf_109 : decode cX10_lorryOf 109 = .ok (.aload_n 0, 1) := by decide +kernel
theorem dX10_lorryOf_110 : decode cX10_lorryOf 110 = .ok (.getfield 93, 3) := by decide +kernel
theorem dX10_lorryOf_113 : decode cX10_lorryOf 113 = .ok (.iload_n 1, 1) := by decide +kernel
theorem dX10_lorryOf_114 : decode cX10_lorryOf 114 = .ok (.iaload, 1) := by decide +kernel
theorem dX10_lorryOf_115 : decode cX10_lorryOf 115 = .ok (.ireturn, 1) := by decide +kernel
theorem dX10_lorryOf_116 : decode cX10_lorryOf 116 = .ok (.aload_n 0, 1) := by decide +kernel
theorem dX10_lorryOf_117 : decode cX10_lorryOf 117 = .ok (.getfield 96, 3) := by decide +kernel
theorem dX10_lorryOf_120 : decode cX10_lorryOf 120 = .ok (.iload_n 1, 1) := by decide +kernel
theorem dX10_lorryOf_121 : decode cX10_lorryOf 121 = .ok (.iaload, 1) := by decide +kernel
theorem dX10_lorryOf_122 : decode cX10_lorryOf 122 = .ok (.ireturn, 1) := by decide +kernel
theorem dX10_lorryOf_123 : decode cX10_lorryOf 123 = .ok (.aload_n 0, 1) := by decide +kernel
theorem dX10_lorryOf_124 : decode cX10_lorryOf 124 = .ok (.getfield 99, 3) := by decide +kernel
theorem dX10_lorryOf_127 : decode cX10_lorryOf 127 = .ok (.iload_n 1, 1) := by decide +kernel
theorem dX10_lorryOf_128 : decode cX10_lorryOf 128 = .ok (.iaload, 1) := by decide +kernel
theorem dX10_lorryOf_129 : decode cX10_lorryOf 129 = .ok (.ireturn, 1) := by decide +kernel
theorem dX10_lorryOf_130 : decode cX10_lorryOf 130 = .ok (.aload_n 0, 1) := by decide +kernel
theorem dX10_lorryOf_131 : decode cX10_lorryOf 131 = .ok (.bipush (-2), 2) := by decide +kernel
theorem dX10_lorryOf_133 : decode cX10_lorryOf 133 = .ok (.invokevirtual 124, 3) := by decide +kernel
theorem dX10_lorryOf_136 : decode cX10_lorryOf 136 = .ok (.ireturn, 1) := by decide +kernel
theorem dX10_load_0 : decode cX10_load 0 = .ok (.iload_n 1, 1) := by decide +kernel
theorem dX10_load_1 : decode cX10_load 1 = .ok (.aload_n 0, 1) := by decide +kernel
theorem dX10_load_2 : decode cX10_load 2 = .ok (.getfield 165, 3) := by decide +kernel
theorem dX10_load_5 : decode cX10_load 5 = .ok (.invokestatic 120, 3) := by decide +kernel
theorem dX10_load_8 : decode cX10_load 8 = .ok (.ifCond .ne 6, 3) := by decide +kernel
theorem dX10_load_11 : decode cX10_load 11 = .ok (.bipush (-9), 2) := by decide +kernel
theorem dX10_load_13 : decode cX10_load 13 = .ok (.ireturn, 1) := by decide +kernel
theorem dX10_load_14 : decode cX10_load 14 = .ok (.iload_n 2, 1) := by decide +kernel
theorem dX10_load_15 : decode cX10_load 15 = .ok (.ifCond .ne 12, 3) := by decide +kernel
theorem dX10_load_18 : decode cX10_load 18 = .ok (.aload_n 0, 1) := by decide +kernel
theorem dX10_load_19 : decode cX10_load 19 = .ok (.getfield 102, 3) := by decide +kernel
theorem dX10_load_22 : decode cX10_load 22 = .ok (.iload_n 1, 1) := by decide +kernel
theorem dX10_load_23 : decode cX10_load 23 = .ok (.iaload, 1) := by decide +kernel
theorem dX10_load_24 : decode cX10_load 24 = .ok (.goto 33, 3) := by decide +kernel
theorem dX10_load_27 : decode cX10_load 27 = .ok (.iload_n 2, 1) := by decide +kernel
theorem dX10_load_28 : decode cX10_load 28 = .ok (.iconst 1, 1) := by decide +kernel
theorem dX10_load_29 : decode cX10_load 29 = .ok (.if_icmp .ne 12, 3) := by decide +kernel
theorem dX10_load_32 : decode cX10_load 32 = .ok (.aload_n 0, 1) := by decide +kernel
theorem dX10_load_33 : decode cX10_load 33 = .ok (.getfield 105, 3) := by decide +kernel
theorem dX10_load_36 : decode cX10_load 36 = .ok (.iload_n 1, 1) := by decide +kernel
theorem dX10_load_37 : decode cX10_load 37 = .ok (.iaload, 1) := by decide +kernel
theorem dX10_load_38 : decode cX10_load 38 = .ok (.goto 19, 3) := by decide +kernel
theorem dX10_load_41 : decode cX10_load 41 = .ok (.iload_n 2, 1) := by decide +kernel
theorem dX10_load_42 : decode cX10_load 42 = .ok (.iconst 2, 1) := by decide +kernel
theorem dX10_load_43 : decode cX10_load 43 = .ok (.if_icmp .ne 12, 3) := by decide +kernel
theorem dX10_load_46 : decode cX10_load 46 = .ok (.aload_n 0, 1) := by decide +kernel
theorem dX10_load_47 : decode cX10_load 47 = .ok (.getfield 108, 3) := by decide +kernel
theorem dX10_load_50 : decode cX10_load 50 = .ok (.iload_n 1, 1) := by decide +kernel
theorem dX10_load_51 : decode cX10_load 51 = .ok (.iaload, 1) := by decide +kernel
theorem dX10_load_52 : decode cX10_load 52 = .ok (.goto 5, 3) := by decide +kernel
theorem dX10_load_55 : decode cX10_load 55 = .ok (.bipush (-9), 2) := by decide +kernel
theorem dX10_load_57 : decode cX10_load 57 = .ok (.ireturn, 1) := by decide +kernel
theorem dX10_coins_0 : decode cX10_coins 0 = .ok (.iload_n 1, 1) := by decide +kernel
theorem dX10_coins_1 : decode cX10_coins 1 = .ok (.bipush 6, 2) := by decide +kernel
theorem dX10_coins_3 : decode cX10_coins 3 = .ok (.invokestatic 120, 3) := by decide +kernel
theorem dX10_coins_6 : decode cX10_coins 6 = .ok (.ifCond .eq 12, 3) := by decide +kernel
theorem dX10_coins_9 : decode cX10_coins 9 = .ok (.aload_n 0, 1) := by decide +kernel
theorem dX10_coins_10 : decode cX10_coins 10 = .ok (.getfield 16, 3) := by decide +kernel
theorem dX10_coins_13 : decode cX10_coins 13 = .ok (.iload_n 1, 1) := by decide +kernel
theorem dX10_coins_14 : decode cX10_coins 14 = .ok (.iaload, 1) := by decide +kernel
theorem dX10_coins_15 : decode cX10_coins 15 = .ok (.goto 8, 3) := by decide +kernel
theorem dX10_coins_18 : decode cX10_coins 18 = .ok (.aload_n 0, 1) := by decide +kernel
theorem dX10_coins_19 : decode cX10_coins 19 = .ok (.iconst (-1), 1) := by decide +kernel
theorem dX10_coins_20 : decode cX10_coins 20 = .ok (.invokevirtual 124, 3) := by decide +kernel
theorem dX10_coins_23 : decode cX10_coins 23 = .ok (.ireturn, 1) := by decide +kernel
theorem dX10_count_0 : decode cX10_count 0 = .ok (.iload_n 1, 1) := by decide +kernel
theorem dX10_count_1 : decode cX10_count 1 = .ok (.bipush 10, 2) := by decide +kernel
theorem dX10_count_3 : decode cX10_count 3 = .ok (.if_icmp .le 19, 3) := by decide +kernel
theorem dX10_count_6 : decode cX10_count 6 = .ok (.iload_n 1, 1) := by decide +kernel
theorem dX10_count_7 : decode cX10_count 7 = .ok (.bipush 17, 2) := by decide +kernel
theorem dX10_count_9 : decode cX10_count 9 = .ok (.if_icmp .ge 13, 3) := by decide +kernel
theorem dX10_count_12 : decode cX10_count 12 = .ok (.aload_n 0, 1) := by decide +kernel
theorem dX10_count_13 : decode cX10_count 13 = .ok (.getfield 7, 3) := by decide +kernel
theorem dX10_count_16 : decode cX10_count 16 = .ok (.iload_n 1, 1) := by decide +kernel
theorem dX10_count_17 : decode cX10_count 17 = .ok (.bipush 10, 2) := by decide +kernel
theorem dX10_count_19 : decode cX10_count 19 = .ok (.isub, 1) := by decide +kernel
theorem dX10_count_20 : decode cX10_count 20 = .ok (.iaload, 1) := by decide +kernel
theorem dX10_count_21 : decode cX10_count 21 = .ok (.ireturn, 1) := by decide +kernel
theorem dX10_count_22 : decode cX10_count 22 = .ok (.iload_n 1, 1) := by decide +kernel
theorem dX10_count_23 : decode cX10_count 23 = .ok (.tableswitch 148 0 17 #[85, 90, 95, 100, 105, 110, 115, 120, 125, 130, 148, 148, 148, 148, 148, 148, 148, 135], 85) := by decide +kernel
theorem dX10_count_108 : decode cX10_count 108 = .ok (.aload_n 0, 1) := by decide +kernel
theorem dX10_count_109 : decode cX10_count 109 = .ok (.getfield 138, 3) := by decide +kernel
theorem dX10_count_112 : decode cX10_count 112 = .ok (.ireturn, 1) := by decide +kernel
theorem dX10_count_113 : decode cX10_count 113 = .ok (.aload_n 0, 1) := by decide +kernel
theorem dX10_count_114 : decode cX10_count 114 = .ok (.getfield 128, 3) := by decide +kernel
theorem dX10_count_117 : decode cX10_count 117 = .ok (.ireturn, 1) := by decide +kernel
theorem dX10_count_118 : decode cX10_count 118 = .ok (.aload_n 0, 1) := by decide +kernel
theorem dX10_count_119 : decode cX10_count 119 = .ok (.getfield 131, 3) := by decide +kernel
theorem dX10_count_122 : decode cX10_count 122 = .ok (.ireturn, 1) := by decide +kernel
theorem dX10_count_123 : decode cX10_count 123 = .ok (.aload_n 0, 1) := by decide +kernel
theorem dX10_count_124 : decode cX10_count 124 = .ok (.invokevirtual 174, 3) := by decide +kernel
theorem dX10_count_127 : decode cX10_count 127 = .ok (.ireturn, 1) := by decide +kernel
theorem dX10_count_128 : decode cX10_count 128 = .ok (.aload_n 0, 1) := by decide +kernel
theorem dX10_count_129 : decode cX10_count 129 = .ok (.getfield 190, 3) := by decide +kernel
theorem dX10_count_132 : decode cX10_count 132 = .ok (.ireturn, 1) := by decide +kernel
theorem dX10_count_133 : decode cX10_count 133 = .ok (.aload_n 0, 1) := by decide +kernel
theorem dX10_count_134 : decode cX10_count 134 = .ok (.getfield 181, 3) := by decide +kernel
theorem dX10_count_137 : decode cX10_count 137 = .ok (.ireturn, 1) := by decide +kernel
theorem dX10_count_138 : decode cX10_count 138 = .ok (.aload_n 0, 1) := by decide +kernel
theorem dX10_count_139 : decode cX10_count 139 = .ok (.getfield 187, 3) := by decide +kernel
theorem dX10_count_142 : decode cX10_count 142 = .ok (.ireturn, 1) := by decide +kernel
theorem dX10_count_143 : decode cX10_count 143 = .ok (.aload_n 0, 1) := by decide +kernel
theorem dX10_count_144 : decode cX10_count 144 = .ok (.getfield 184, 3) := by decide +kernel
theorem dX10_count_147 : decode cX10_count 147 = .ok (.ireturn, 1) := by decide +kernel
theorem dX10_count_148 : decode cX10_count 148 = .ok (.aload_n 0, 1) := by decide +kernel
theorem dX10_count_149 : decode cX10_count 149 = .ok (.getfield 199, 3) := by decide +kernel
theorem dX10_count_152 : decode cX10_count 152 = .ok (.ireturn, 1) := by decide +kernel
theorem dX10_count_153 : decode cX10_count 153 = .ok (.aload_n 0, 1) := by decide +kernel
theorem dX10_count_154 : decode cX10_count 154 = .ok (.getfield 202, 3) := by decide +kernel
theorem dX10_count_157 : decode cX10_count 157 = .ok (.ireturn, 1) := by decide +kernel
theorem dX10_count_158 : decode cX10_count 158 = .ok (.aload_n 0, 1) := by decide +kernel
theorem dX10_count_159 : decode cX10_count 159 = .ok (.getfield 161, 3) := by decide +kernel
theorem dX10_count_162 : decode cX10_count 162 = .ok (.ifCond .eq 7, 3) := by decide +kernel
theorem dX10_count_165 : decode cX10_count 165 = .ok (.iconst 1, 1) := by decide +kernel
theorem dX10_count_166 : decode cX10_count 166 = .ok (.goto 4, 3) := by decide +kernel
theorem dX10_count_169 : decode cX10_count 169 = .ok (.iconst 0, 1) := by decide +kernel
theorem dX10_count_170 : decode cX10_count 170 = .ok (.ireturn, 1) := by decide +kernel
theorem dX10_count_171 : decode cX10_count 171 = .ok (.bipush (-9), 2) := by decide +kernel
theorem dX10_count_173 : decode cX10_count 173 = .ok (.ireturn, 1) := by decide +kernel
theorem dJ9_max_7cf53_0 : decode cJ9_max_7cf53 0 = .ok (.iload_n 0, 1) := by decide +kernel
theorem dJ9_max_7cf53_1 : decode cJ9_max_7cf53 1 = .ok (.iload_n 1, 1) := by decide +kernel
theorem dJ9_max_7cf53_2 : decode cJ9_max_7cf53 2 = .ok (.if_icmp .lt 7, 3) := by decide +kernel
theorem dJ9_max_7cf53_5 : decode cJ9_max_7cf53 5 = .ok (.iload_n 0, 1) := by decide +kernel
theorem dJ9_max_7cf53_6 : decode cJ9_max_7cf53 6 = .ok (.goto 4, 3) := by decide +kernel
theorem dJ9_max_7cf53_9 : decode cJ9_max_7cf53 9 = .ok (.iload_n 1, 1) := by decide +kernel
theorem dJ9_max_7cf53_10 : decode cJ9_max_7cf53 10 = .ok (.ireturn, 1) := by decide +kernel
theorem dJ9_min_7cf53_0 : decode cJ9_min_7cf53 0 = .ok (.iload_n 0, 1) := by decide +kernel
theorem dJ9_min_7cf53_1 : decode cJ9_min_7cf53 1 = .ok (.iload_n 1, 1) := by decide +kernel
theorem dJ9_min_7cf53_2 : decode cJ9_min_7cf53 2 = .ok (.if_icmp .gt 7, 3) := by decide +kernel
theorem dJ9_min_7cf53_5 : decode cJ9_min_7cf53 5 = .ok (.iload_n 0, 1) := by decide +kernel
theorem dJ9_min_7cf53_6 : decode cJ9_min_7cf53 6 = .ok (.goto 4, 3) := by decide +kernel
theorem dJ9_min_7cf53_9 : decode cJ9_min_7cf53 9 = .ok (.iload_n 1, 1) := by decide +kernel
theorem dJ9_min_7cf53_10 : decode cJ9_min_7cf53 10 = .ok (.ireturn, 1) := by decide +kernel
theorem dJxa1e45_init_da8c8_0 : decode cJxa1e45_init_da8c8 0 = .ok (.aload_n 0, 1) := by decide +kernel
theorem dJxa1e45_init_da8c8_1 : decode cJxa1e45_init_da8c8 1 = .ok (.invokespecial 1, 3) := by decide +kernel
theorem dJxa1e45_init_da8c8_4 : decode cJxa1e45_init_da8c8 4 = .ok (.return_, 1) := by decide +kernel
theorem dJxc12de_init_da8c8_0 : decode cJxc12de_init_da8c8 0 = .ok (.aload_n 0, 1) := by decide +kernel
theorem dJxc12de_init_da8c8_1 : decode cJxc12de_init_da8c8 1 = .ok (.invokespecial 1, 3) := by decide +kernel
theorem dJxc12de_init_da8c8_4 : decode cJxc12de_init_da8c8 4 = .ok (.aload_n 0, 1) := by decide +kernel
theorem dJxc12de_init_da8c8_5 : decode cJxc12de_init_da8c8 5 = .ok (.iconst 0, 1) := by decide +kernel
theorem dJxc12de_init_da8c8_6 : decode cJxc12de_init_da8c8 6 = .ok (.putfield 7, 3) := by decide +kernel
theorem dJxc12de_init_da8c8_9 : decode cJxc12de_init_da8c8 9 = .ok (.return_, 1) := by decide +kernel
theorem dJx4a65c_init_da8c8_0 : decode cJx4a65c_init_da8c8 0 = .ok (.aload_n 0, 1) := by decide +kernel
theorem dJx4a65c_init_da8c8_1 : decode cJx4a65c_init_da8c8 1 = .ok (.invokespecial 1, 3) := by decide +kernel
theorem dJx4a65c_init_da8c8_4 : decode cJx4a65c_init_da8c8 4 = .ok (.aload_n 0, 1) := by decide +kernel
end
section
theorem dJx4a65c_init_da8c8_5 : decode cJx4a65c_init_da8c8 5 = .ok (.getstatic 39, 3) := by decide +kernel
theorem dJx4a65c_init_da8c8_8 : decode cJx4a65c_init_da8c8 8 = .ok (.putfield 9, 3) := by decide +kernel
theorem dJx4a65c_init_da8c8_11 : decode cJx4a65c_init_da8c8 11 = .ok (.return_, 1) := by decide +kernel
theorem dJx4a65c_grow_92f84_0 : decode cJx4a65c_grow_92f84 0 = .ok (.aload_n 0, 1) := by decide +kernel
theorem dJx4a65c_grow_92f84_1 : decode cJx4a65c_grow_92f84 1 = .ok (.getfield 9, 3) := by decide +kernel
theorem dJx4a65c_grow_92f84_4 : decode cJx4a65c_grow_92f84 4 = .ok (.arraylength, 1) := by decide +kernel
theorem dJx4a65c_grow_92f84_5 : decode cJx4a65c_grow_92f84 5 = .ok (.istore_n 2, 1) := by decide +kernel
theorem dJx4a65c_grow_92f84_6 : decode cJx4a65c_grow_92f84 6 = .ok (.iload_n 2, 1) := by decide +kernel
theorem dJx4a65c_grow_92f84_7 : decode cJx4a65c_grow_92f84 7 = .ok (.ifCond .gt 13, 3) := by decide +kernel
theorem dJx4a65c_grow_92f84_10 : decode cJx4a65c_grow_92f84 10 = .ok (.aload_n 0, 1) := by decide +kernel
theorem dJx4a65c_grow_92f84_11 : decode cJx4a65c_grow_92f84 11 = .ok (.getfield 9, 3) := by decide +kernel
theorem dJx4a65c_grow_92f84_14 : decode cJx4a65c_grow_92f84 14 = .ok (.getstatic 39, 3) := by decide +kernel
theorem dJx4a65c_grow_92f84_17 : decode cJx4a65c_grow_92f84 17 = .ok (.if_acmp .eq 28, 3) := by decide +kernel
theorem dJx4a65c_grow_92f84_20 : decode cJx4a65c_grow_92f84 20 = .ok (.iload_n 2, 1) := by decide +kernel
theorem dJx4a65c_grow_92f84_21 : decode cJx4a65c_grow_92f84 21 = .ok (.iload_n 1, 1) := by decide +kernel
theorem dJx4a65c_grow_92f84_22 : decode cJx4a65c_grow_92f84 22 = .ok (.iload_n 2, 1) := by decide +kernel
theorem dJx4a65c_grow_92f84_23 : decode cJx4a65c_grow_92f84 23 = .ok (.isub, 1) := by decide +kernel
theorem dJx4a65c_grow_92f84_24 : decode cJx4a65c_grow_92f84 24 = .ok (.iload_n 2, 1) := by decide +kernel
theorem dJx4a65c_grow_92f84_25 : decode cJx4a65c_grow_92f84 25 = .ok (.iconst 1, 1) := by decide +kernel
theorem dJx4a65c_grow_92f84_26 : decode cJx4a65c_grow_92f84 26 = .ok (.ishr, 1) := by decide +kernel
theorem dJx4a65c_grow_92f84_27 : decode cJx4a65c_grow_92f84 27 = .ok (.invokestatic 73, 3) := by decide +kernel
theorem dJx4a65c_grow_92f84_30 : decode cJx4a65c_grow_92f84 30 = .ok (.istore_n 3, 1) := by decide +kernel
theorem dJx4a65c_grow_92f84_31 : decode cJx4a65c_grow_92f84 31 = .ok (.aload_n 0, 1) := by decide +kernel
theorem dJx4a65c_grow_92f84_32 : decode cJx4a65c_grow_92f84 32 = .ok (.aload_n 0, 1) := by decide +kernel
theorem dJx4a65c_grow_92f84_33 : decode cJx4a65c_grow_92f84 33 = .ok (.getfield 9, 3) := by decide +kernel
theorem dJx4a65c_grow_92f84_36 : decode cJx4a65c_grow_92f84 36 = .ok (.iload_n 3, 1) := by decide +kernel
theorem dJx4a65c_grow_92f84_37 : decode cJx4a65c_grow_92f84 37 = .ok (.invokestatic 66, 3) := by decide +kernel
theorem dJx4a65c_grow_92f84_40 : decode cJx4a65c_grow_92f84 40 = .ok (.dup_x1, 1) := by decide +kernel
theorem dJx4a65c_grow_92f84_41 : decode cJx4a65c_grow_92f84 41 = .ok (.putfield 9, 3) := by decide +kernel
theorem dJx4a65c_grow_92f84_44 : decode cJx4a65c_grow_92f84 44 = .ok (.areturn, 1) := by decide +kernel
theorem dJx4a65c_grow_92f84_45 : decode cJx4a65c_grow_92f84 45 = .ok (.aload_n 0, 1) := by decide +kernel
theorem dJx4a65c_grow_92f84_46 : decode cJx4a65c_grow_92f84 46 = .ok (.bipush 10, 2) := by decide +kernel
theorem dJx4a65c_grow_92f84_48 : decode cJx4a65c_grow_92f84 48 = .ok (.iload_n 1, 1) := by decide +kernel
theorem dJx4a65c_grow_92f84_49 : decode cJx4a65c_grow_92f84 49 = .ok (.invokestatic 79, 3) := by decide +kernel
theorem dJx4a65c_grow_92f84_52 : decode cJx4a65c_grow_92f84 52 = .ok (.anewarray 7, 3) := by decide +kernel
theorem dJx4a65c_grow_92f84_55 : decode cJx4a65c_grow_92f84 55 = .ok (.dup_x1, 1) := by decide +kernel
theorem dJx4a65c_grow_92f84_56 : decode cJx4a65c_grow_92f84 56 = .ok (.putfield 9, 3) := by decide +kernel
theorem dJx4a65c_grow_92f84_59 : decode cJx4a65c_grow_92f84 59 = .ok (.areturn, 1) := by decide +kernel
theorem dJx4a65c_grow_d5877_0 : decode cJx4a65c_grow_d5877 0 = .ok (.aload_n 0, 1) := by decide +kernel
theorem dJx4a65c_grow_d5877_1 : decode cJx4a65c_grow_d5877 1 = .ok (.aload_n 0, 1) := by decide +kernel
theorem dJx4a65c_grow_d5877_2 : decode cJx4a65c_grow_d5877 2 = .ok (.getfield 48, 3) := by decide +kernel
theorem dJx4a65c_grow_d5877_5 : decode cJx4a65c_grow_d5877 5 = .ok (.iconst 1, 1) := by decide +kernel
theorem dJx4a65c_grow_d5877_6 : decode cJx4a65c_grow_d5877 6 = .ok (.iadd, 1) := by decide +kernel
theorem dJx4a65c_grow_d5877_7 : decode cJx4a65c_grow_d5877 7 = .ok (.invokevirtual 69, 3) := by decide +kernel
theorem dJx4a65c_grow_d5877_10 : decode cJx4a65c_grow_d5877 10 = .ok (.areturn, 1) := by decide +kernel
theorem dJx4a65c_size_8abf5_0 : decode cJx4a65c_size_8abf5 0 = .ok (.aload_n 0, 1) := by decide +kernel
theorem dJx4a65c_size_8abf5_1 : decode cJx4a65c_size_8abf5 1 = .ok (.getfield 48, 3) := by decide +kernel
theorem dJx4a65c_size_8abf5_4 : decode cJx4a65c_size_8abf5 4 = .ok (.ireturn, 1) := by decide +kernel
theorem dJx4a65c_isEmpty_aae02_0 : decode cJx4a65c_isEmpty_aae02 0 = .ok (.aload_n 0, 1) := by decide +kernel
theorem dJx4a65c_isEmpty_aae02_1 : decode cJx4a65c_isEmpty_aae02 1 = .ok (.getfield 48, 3) := by decide +kernel
theorem dJx4a65c_isEmpty_aae02_4 : decode cJx4a65c_isEmpty_aae02 4 = .ok (.ifCond .ne 7, 3) := by decide +kernel
theorem dJx4a65c_isEmpty_aae02_7 : decode cJx4a65c_isEmpty_aae02 7 = .ok (.iconst 1, 1) := by decide +kernel
theorem dJx4a65c_isEmpty_aae02_8 : decode cJx4a65c_isEmpty_aae02 8 = .ok (.goto 4, 3) := by decide +kernel
theorem dJx4a65c_isEmpty_aae02_11 : decode cJx4a65c_isEmpty_aae02 11 = .ok (.iconst 0, 1) := by decide +kernel
theorem dJx4a65c_isEmpty_aae02_12 : decode cJx4a65c_isEmpty_aae02 12 = .ok (.ireturn, 1) := by decide +kernel
theorem dJx4a65c_elementData_915e3_0 : decode cJx4a65c_elementData_915e3 0 = .ok (.aload_n 0, 1) := by decide +kernel
theorem dJx4a65c_elementData_915e3_1 : decode cJx4a65c_elementData_915e3 1 = .ok (.getfield 9, 3) := by decide +kernel
theorem dJx4a65c_elementData_915e3_4 : decode cJx4a65c_elementData_915e3 4 = .ok (.iload_n 1, 1) := by decide +kernel
theorem dJx4a65c_elementData_915e3_5 : decode cJx4a65c_elementData_915e3 5 = .ok (.aaload, 1) := by decide +kernel
theorem dJx4a65c_elementData_915e3_6 : decode cJx4a65c_elementData_915e3 6 = .ok (.areturn, 1) := by decide +kernel
theorem dJx4a65c_get_915e3_0 : decode cJx4a65c_get_915e3 0 = .ok (.iload_n 1, 1) := by decide +kernel
theorem dJx4a65c_get_915e3_1 : decode cJx4a65c_get_915e3 1 = .ok (.aload_n 0, 1) := by decide +kernel
theorem dJx4a65c_get_915e3_2 : decode cJx4a65c_get_915e3 2 = .ok (.getfield 48, 3) := by decide +kernel
theorem dJx4a65c_get_915e3_5 : decode cJx4a65c_get_915e3 5 = .ok (.invokestatic 118, 3) := by decide +kernel
theorem dJx4a65c_get_915e3_8 : decode cJx4a65c_get_915e3 8 = .ok (.pop, 1) := by decide +kernel
theorem dJx4a65c_get_915e3_9 : decode cJx4a65c_get_915e3 9 = .ok (.aload_n 0, 1) := by decide +kernel
theorem dJx4a65c_get_915e3_10 : decode cJx4a65c_get_915e3 10 = .ok (.iload_n 1, 1) := by decide +kernel
theorem dJx4a65c_get_915e3_11 : decode cJx4a65c_get_915e3 11 = .ok (.invokevirtual 123, 3) := by decide +kernel
theorem dJx4a65c_get_915e3_14 : decode cJx4a65c_get_915e3 14 = .ok (.areturn, 1) := by decide +kernel
theorem dJx4a65c_add_72be8_0 : decode cJx4a65c_add_72be8 0 = .ok (.iload_n 3, 1) := by decide +kernel
theorem dJx4a65c_add_72be8_1 : decode cJx4a65c_add_72be8 1 = .ok (.aload_n 2, 1) := by decide +kernel
theorem dJx4a65c_add_72be8_2 : decode cJx4a65c_add_72be8 2 = .ok (.arraylength, 1) := by decide +kernel
theorem dJx4a65c_add_72be8_3 : decode cJx4a65c_add_72be8 3 = .ok (.if_icmp .ne 8, 3) := by decide +kernel
theorem dJx4a65c_add_72be8_6 : decode cJx4a65c_add_72be8 6 = .ok (.aload_n 0, 1) := by decide +kernel
theorem dJx4a65c_add_72be8_7 : decode cJx4a65c_add_72be8 7 = .ok (.invokevirtual 129, 3) := by decide +kernel
theorem dJx4a65c_add_72be8_10 : decode cJx4a65c_add_72be8 10 = .ok (.astore_n 2, 1) := by decide +kernel
theorem dJx4a65c_add_72be8_11 : decode cJx4a65c_add_72be8 11 = .ok (.aload_n 2, 1) := by decide +kernel
theorem dJx4a65c_add_72be8_12 : decode cJx4a65c_add_72be8 12 = .ok (.iload_n 3, 1) := by decide +kernel
theorem dJx4a65c_add_72be8_13 : decode cJx4a65c_add_72be8 13 = .ok (.aload_n 1, 1) := by decide +kernel
theorem dJx4a65c_add_72be8_14 : decode cJx4a65c_add_72be8 14 = .ok (.aastore, 1) := by decide +kernel
theorem dJx4a65c_add_72be8_15 : decode cJx4a65c_add_72be8 15 = .ok (.aload_n 0, 1) := by decide +kernel
theorem dJx4a65c_add_72be8_16 : decode cJx4a65c_add_72be8 16 = .ok (.iload_n 3, 1) := by decide +kernel
theorem dJx4a65c_add_72be8_17 : decode cJx4a65c_add_72be8 17 = .ok (.iconst 1, 1) := by decide +kernel
theorem dJx4a65c_add_72be8_18 : decode cJx4a65c_add_72be8 18 = .ok (.iadd, 1) := by decide +kernel
theorem dJx4a65c_add_72be8_19 : decode cJx4a65c_add_72be8 19 = .ok (.putfield 48, 3) := by decide +kernel
theorem dJx4a65c_add_72be8_22 : decode cJx4a65c_add_72be8 22 = .ok (.return_, 1) := by decide +kernel
theorem dJx4a65c_add_9ea2d_0 : decode cJx4a65c_add_9ea2d 0 = .ok (.aload_n 0, 1) := by decide +kernel
theorem dJx4a65c_add_9ea2d_1 : decode cJx4a65c_add_9ea2d 1 = .ok (.dup, 1) := by decide +kernel
theorem dJx4a65c_add_9ea2d_2 : decode cJx4a65c_add_9ea2d 2 = .ok (.getfield 63, 3) := by decide +kernel
theorem dJx4a65c_add_9ea2d_5 : decode cJx4a65c_add_9ea2d 5 = .ok (.iconst 1, 1) := by decide +kernel
theorem dJx4a65c_add_9ea2d_6 : decode cJx4a65c_add_9ea2d 6 = .ok (.iadd, 1) := by decide +kernel
theorem dJx4a65c_add_9ea2d_7 : decode cJx4a65c_add_9ea2d 7 = .ok (.putfield 63, 3) := by decide +kernel
theorem dJx4a65c_add_9ea2d_10 : decode cJx4a65c_add_9ea2d 10 = .ok (.aload_n 0, 1) := by decide +kernel
theorem dJx4a65c_add_9ea2d_11 : decode cJx4a65c_add_9ea2d 11 = .ok (.aload_n 1, 1) := by decide +kernel
theorem dJx4a65c_add_9ea2d_12 : decode cJx4a65c_add_9ea2d 12 = .ok (.aload_n 0, 1) := by decide +kernel
theorem dJx4a65c_add_9ea2d_13 : decode cJx4a65c_add_9ea2d 13 = .ok (.getfield 9, 3) := by decide +kernel
theorem dJx4a65c_add_9ea2d_16 : decode cJx4a65c_add_9ea2d 16 = .ok (.aload_n 0, 1) := by decide +kernel
theorem dJx4a65c_add_9ea2d_17 : decode cJx4a65c_add_9ea2d 17 = .ok (.getfield 48, 3) := by decide +kernel
theorem dJx4a65c_add_9ea2d_20 : decode cJx4a65c_add_9ea2d 20 = .ok (.invokevirtual 131, 3) := by decide +kernel
theorem dJx4a65c_add_9ea2d_23 : decode cJx4a65c_add_9ea2d 23 = .ok (.iconst 1, 1) := by decide +kernel
theorem dJx4a65c_add_9ea2d_24 : decode cJx4a65c_add_9ea2d 24 = .ok (.ireturn, 1) := by decide +kernel
theorem dJx4a65c_remove_915e3_0 : decode cJx4a65c_remove_915e3 0 = .ok (.iload_n 1, 1) := by decide +kernel
theorem dJx4a65c_remove_915e3_1 : decode cJx4a65c_remove_915e3 1 = .ok (.aload_n 0, 1) := by decide +kernel
theorem dJx4a65c_remove_915e3_2 : decode cJx4a65c_remove_915e3 2 = .ok (.getfield 48, 3) := by decide +kernel
theorem dJx4a65c_remove_915e3_5 : decode cJx4a65c_remove_915e3 5 = .ok (.invokestatic 118, 3) := by decide +kernel
theorem dJx4a65c_remove_915e3_8 : decode cJx4a65c_remove_915e3 8 = .ok (.pop, 1) := by decide +kernel
theorem dJx4a65c_remove_915e3_9 : decode cJx4a65c_remove_915e3 9 = .ok (.aload_n 0, 1) := by decide +kernel
theorem dJx4a65c_remove_915e3_10 : decode cJx4a65c_remove_915e3 10 = .ok (.getfield 9, 3) := by decide +kernel
theorem dJx4a65c_remove_915e3_13 : decode cJx4a65c_remove_915e3 13 = .ok (.astore_n 2, 1) := by decide +kernel
theorem dJx4a65c_remove_915e3_14 : decode cJx4a65c_remove_915e3 14 = .ok (.aload_n 2, 1) := by decide +kernel
theorem dJx4a65c_remove_915e3_15 : decode cJx4a65c_remove_915e3 15 = .ok (.iload_n 1, 1) := by decide +kernel
theorem dJx4a65c_remove_915e3_16 : decode cJx4a65c_remove_915e3 16 = .ok (.aaload, 1) := by decide +kernel
theorem dJx4a65c_remove_915e3_17 : decode cJx4a65c_remove_915e3 17 = .ok (.astore_n 3, 1) := by decide +kernel
theorem dJx4a65c_remove_915e3_18 : decode cJx4a65c_remove_915e3 18 = .ok (.aload_n 0, 1) := by decide +kernel
theorem dJx4a65c_remove_915e3_19 : decode cJx4a65c_remove_915e3 19 = .ok (.aload_n 2, 1) := by decide +kernel
theorem dJx4a65c_remove_915e3_20 : decode cJx4a65c_remove_915e3 20 = .ok (.iload_n 1, 1) := by decide +kernel
theorem dJx4a65c_remove_915e3_21 : decode cJx4a65c_remove_915e3 21 = .ok (.invokevirtual 144, 3) := by decide +kernel
theorem dJx4a65c_remove_915e3_24 : decode cJx4a65c_remove_915e3 24 = .ok (.aload_n 3, 1) := by decide +kernel
theorem dJx4a65c_remove_915e3_25 : decode cJx4a65c_remove_915e3 25 = .ok (.areturn, 1) := by decide +kernel
theorem dJx4a65c_fastRemove_b59b0_0 : decode cJx4a65c_fastRemove_b59b0 0 = .ok (.aload_n 0, 1) := by decide +kernel
theorem dJx4a65c_fastRemove_b59b0_1 : decode cJx4a65c_fastRemove_b59b0 1 = .ok (.dup, 1) := by decide +kernel
theorem dJx4a65c_fastRemove_b59b0_2 : decode cJx4a65c_fastRemove_b59b0 2 = .ok (.getfield 63, 3) := by decide +kernel
theorem dJx4a65c_fastRemove_b59b0_5 : decode cJx4a65c_fastRemove_b59b0 5 = .ok (.iconst 1, 1) := by decide +kernel
theorem dJx4a65c_fastRemove_b59b0_6 : decode cJx4a65c_fastRemove_b59b0 6 = .ok (.iadd, 1) := by decide +kernel
theorem dJx4a65c_fastRemove_b59b0_7 : decode cJx4a65c_fastRemove_b59b0 7 = .ok (.putfield 63, 3) := by decide +kernel
theorem dJx4a65c_fastRemove_b59b0_10 : decode cJx4a65c_fastRemove_b59b0 10 = .ok (.aload_n 0, 1) := by decide +kernel
theorem dJx4a65c_fastRemove_b59b0_11 : decode cJx4a65c_fastRemove_b59b0 11 = .ok (.getfield 48, 3) := by decide +kernel
theorem dJx4a65c_fastRemove_b59b0_14 : decode cJx4a65c_fastRemove_b59b0 14 = .ok (.iconst 1, 1) := by decide +kernel
theorem dJx4a65c_fastRemove_b59b0_15 : decode cJx4a65c_fastRemove_b59b0 15 = .ok (.isub, 1) := by decide +kernel
theorem dJx4a65c_fastRemove_b59b0_16 : decode cJx4a65c_fastRemove_b59b0 16 = .ok (.dup, 1) := by decide +kernel
theorem dJx4a65c_fastRemove_b59b0_17 : decode cJx4a65c_fastRemove_b59b0 17 = .ok (.istore_n 3, 1) := by decide +kernel
theorem dJx4a65c_fastRemove_b59b0_18 : decode cJx4a65c_fastRemove_b59b0 18 = .ok (.iload_n 2, 1) := by decide +kernel
theorem dJx4a65c_fastRemove_b59b0_19 : decode cJx4a65c_fastRemove_b59b0 19 = .ok (.if_icmp .le 15, 3) := by decide +kernel
theorem dJx4a65c_fastRemove_b59b0_22 : decode cJx4a65c_fastRemove_b59b0 22 = .ok (.aload_n 1, 1) := by decide +kernel
theorem dJx4a65c_fastRemove_b59b0_23 : decode cJx4a65c_fastRemove_b59b0 23 = .ok (.iload_n 2, 1) := by decide +kernel
theorem dJx4a65c_fastRemove_b59b0_24 : decode cJx4a65c_fastRemove_b59b0 24 = .ok (.iconst 1, 1) := by decide +kernel
theorem dJx4a65c_fastRemove_b59b0_25 : decode cJx4a65c_fastRemove_b59b0 25 = .ok (.iadd, 1) := by decide +kernel
theorem dJx4a65c_fastRemove_b59b0_26 : decode cJx4a65c_fastRemove_b59b0 26 = .ok (.aload_n 1, 1) := by decide +kernel
theorem dJx4a65c_fastRemove_b59b0_27 : decode cJx4a65c_fastRemove_b59b0 27 = .ok (.iload_n 2, 1) := by decide +kernel
theorem dJx4a65c_fastRemove_b59b0_28 : decode cJx4a65c_fastRemove_b59b0 28 = .ok (.iload_n 3, 1) := by decide +kernel
theorem dJx4a65c_fastRemove_b59b0_29 : decode cJx4a65c_fastRemove_b59b0 29 = .ok (.iload_n 2, 1) := by decide +kernel
theorem dJx4a65c_fastRemove_b59b0_30 : decode cJx4a65c_fastRemove_b59b0 30 = .ok (.isub, 1) := by decide +kernel
theorem dJx4a65c_fastRemove_b59b0_31 : decode cJx4a65c_fastRemove_b59b0 31 = .ok (.invokestatic 112, 3) := by decide +kernel
theorem dJx4a65c_fastRemove_b59b0_34 : decode cJx4a65c_fastRemove_b59b0 34 = .ok (.aload_n 1, 1) := by decide +kernel
theorem dJx4a65c_fastRemove_b59b0_35 : decode cJx4a65c_fastRemove_b59b0 35 = .ok (.aload_n 0, 1) := by decide +kernel
theorem dJx4a65c_fastRemove_b59b0_36 : decode cJx4a65c_fastRemove_b59b0 36 = .ok (.iload_n 3, 1) := by decide +kernel
theorem dJx4a65c_fastRemove_b59b0_37 : decode cJx4a65c_fastRemove_b59b0 37 = .ok (.dup_x1, 1) := by decide +kernel
theorem dJx4a65c_fastRemove_b59b0_38 : decode cJx4a65c_fastRemove_b59b0 38 = .ok (.putfield 48, 3) := by decide +kernel
theorem dJx4a65c_fastRemove_b59b0_41 : decode cJx4a65c_fastRemove_b59b0 41 = .ok (.aconst_null, 1) := by decide +kernel
theorem dJx4a65c_fastRemove_b59b0_42 : decode cJx4a65c_fastRemove_b59b0 42 = .ok (.aastore, 1) := by decide +kernel
theorem dJx4a65c_fastRemove_b59b0_43 : decode cJx4a65c_fastRemove_b59b0 43 = .ok (.return_, 1) := by decide +kernel
theorem dJ7_copyOf_1904c_0 : decode cJ7_copyOf_1904c 0 = .ok (.aload_n 0, 1) := by decide +kernel
theorem dJ7_copyOf_1904c_1 : decode cJ7_copyOf_1904c 1 = .ok (.iload_n 1, 1) := by decide +kernel
theorem dJ7_copyOf_1904c_2 : decode cJ7_copyOf_1904c 2 = .ok (.aload_n 0, 1) := by decide +kernel
theorem dJ7_copyOf_1904c_3 : decode cJ7_copyOf_1904c 3 = .ok (.invokevirtual 86, 3) := by decide +kernel
theorem dJ7_copyOf_1904c_6 : decode cJ7_copyOf_1904c 6 = .ok (.invokestatic 300, 3) := by decide +kernel
theorem dJ7_copyOf_1904c_9 : decode cJ7_copyOf_1904c 9 = .ok (.areturn, 1) := by decide +kernel
theorem dJ7_copyOf_6403c_0 : decode cJ7_copyOf_6403c 0 = .ok (.aload_n 2, 1) := by decide +kernel
theorem dJ7_copyOf_6403c_1 : decode cJ7_copyOf_6403c 1 = .ok (.ldc 110, 2) := by decide +kernel
theorem dJ7_copyOf_6403c_3 : decode cJ7_copyOf_6403c 3 = .ok (.if_acmp .ne 10, 3) := by decide +kernel
theorem dJ7_copyOf_6403c_6 : decode cJ7_copyOf_6403c 6 = .ok (.iload_n 1, 1) := by decide +kernel
theorem dJ7_copyOf_6403c_7 : decode cJ7_copyOf_6403c 7 = .ok (.anewarray 2, 3) := by decide +kernel
theorem dJ7_copyOf_6403c_10 : decode cJ7_copyOf_6403c 10 = .ok (.goto 14, 3) := by decide +kernel
theorem dJ7_copyOf_6403c_13 : decode cJ7_copyOf_6403c 13 = .ok (.aload_n 2, 1) := by decide +kernel
theorem dJ7_copyOf_6403c_14 : decode cJ7_copyOf_6403c 14 = .ok (.invokevirtual 90, 3) := by decide +kernel
theorem dJ7_copyOf_6403c_17 : decode cJ7_copyOf_6403c 17 = .ok (.iload_n 1, 1) := by decide +kernel
theorem dJ7_copyOf_6403c_18 : decode cJ7_copyOf_6403c 18 = .ok (.invokestatic 95, 3) := by decide +kernel
theorem dJ7_copyOf_6403c_21 : decode cJ7_copyOf_6403c 21 = .ok (.checkcast 110, 3) := by decide +kernel
theorem dJ7_copyOf_6403c_24 : decode cJ7_copyOf_6403c 24 = .ok (.astore_n 3, 1) := by decide +kernel
theorem dJ7_copyOf_6403c_25 : decode cJ7_copyOf_6403c 25 = .ok (.aload_n 0, 1) := by decide +kernel
theorem dJ7_copyOf_6403c_26 : decode cJ7_copyOf_6403c 26 = .ok (.iconst 0, 1) := by decide +kernel
theorem dJ7_copyOf_6403c_27 : decode cJ7_copyOf_6403c 27 = .ok (.aload_n 3, 1) := by decide +kernel
theorem dJ7_copyOf_6403c_28 : decode cJ7_copyOf_6403c 28 = .ok (.iconst 0, 1) := by decide +kernel
theorem dJ7_copyOf_6403c_29 : decode cJ7_copyOf_6403c 29 = .ok (.aload_n 0, 1) := by decide +kernel
theorem dJ7_copyOf_6403c_30 : decode cJ7_copyOf_6403c 30 = .ok (.arraylength, 1) := by decide +kernel
theorem dJ7_copyOf_6403c_31 : decode cJ7_copyOf_6403c 31 = .ok (.iload_n 1, 1) := by decide +kernel
theorem dJ7_copyOf_6403c_32 : decode cJ7_copyOf_6403c 32 = .ok (.invokestatic 304, 3) := by decide +kernel
theorem dJ7_copyOf_6403c_35 : decode cJ7_copyOf_6403c 35 = .ok (.invokestatic 150, 3) := by decide +kernel
theorem dJ7_copyOf_6403c_38 : decode cJ7_copyOf_6403c 38 = .ok (.aload_n 3, 1) := by decide +kernel
theorem dJ7_copyOf_6403c_39 : decode cJ7_copyOf_6403c 39 = .ok (.areturn, 1) := by decide +kernel
theorem dJ15_checkIndex_7cf53_0 : decode cJ15_checkIndex_7cf53 0 = .ok (.iload_n 0, 1) := by decide +kernel
theorem dJ15_checkIndex_7cf53_1 : decode cJ15_checkIndex_7cf53 1 = .ok (.iload_n 1, 1) := by decide +kernel
theorem dJ15_checkIndex_7cf53_2 : decode cJ15_checkIndex_7cf53 2 = .ok (.aconst_null, 1) := by decide +kernel
theorem dJ15_checkIndex_7cf53_3 : decode cJ15_checkIndex_7cf53 3 = .ok (.invokestatic 105, 3) := by decide +kernel
theorem dJ15_checkIndex_7cf53_6 : decode cJ15_checkIndex_7cf53 6 = .ok (.ireturn, 1) := by decide +kernel
theorem dJ8_newLength_cabcc_0 : decode cJ8_newLength_cabcc 0 = .ok (.iload_n 0, 1) := by decide +kernel
theorem dJ8_newLength_cabcc_1 : decode cJ8_newLength_cabcc 1 = .ok (.iload_n 1, 1) := by decide +kernel
theorem dJ8_newLength_cabcc_2 : decode cJ8_newLength_cabcc 2 = .ok (.iload_n 2, 1) := by decide +kernel
theorem dJ8_newLength_cabcc_3 : decode cJ8_newLength_cabcc 3 = .ok (.invokestatic 194, 3) := by decide +kernel
theorem dJ8_newLength_cabcc_6 : decode cJ8_newLength_cabcc 6 = .ok (.iadd, 1) := by decide +kernel
theorem dJ8_newLength_cabcc_7 : decode cJ8_newLength_cabcc 7 = .ok (.istore_n 3, 1) := by decide +kernel
theorem dJ8_newLength_cabcc_8 : decode cJ8_newLength_cabcc 8 = .ok (.iconst 0, 1) := by decide +kernel
theorem dJ8_newLength_cabcc_9 : decode cJ8_newLength_cabcc 9 = .ok (.iload_n 3, 1) := by decide +kernel
theorem dJ8_newLength_cabcc_10 : decode cJ8_newLength_cabcc 10 = .ok (.if_icmp .ge 11, 3) := by decide +kernel
theorem dJ8_newLength_cabcc_13 : decode cJ8_newLength_cabcc 13 = .ok (.iload_n 3, 1) := by decide +kernel
theorem dJ8_newLength_cabcc_14 : decode cJ8_newLength_cabcc 14 = .ok (.ldc 200, 2) := by decide +kernel
theorem dJ8_newLength_cabcc_16 : decode cJ8_newLength_cabcc 16 = .ok (.if_icmp .gt 5, 3) := by decide +kernel
theorem dJ8_newLength_cabcc_19 : decode cJ8_newLength_cabcc 19 = .ok (.iload_n 3, 1) := by decide +kernel
theorem dJ8_newLength_cabcc_20 : decode cJ8_newLength_cabcc 20 = .ok (.ireturn, 1) := by decide +kernel
theorem dJ8_newLength_cabcc_21 : decode cJ8_newLength_cabcc 21 = .ok (.iload_n 0, 1) := by decide +kernel
theorem dJ8_newLength_cabcc_22 : decode cJ8_newLength_cabcc 22 = .ok (.iload_n 1, 1) := by decide +kernel
theorem dJ8_newLength_cabcc_23 : decode cJ8_newLength_cabcc 23 = .ok (.invokestatic 201, 3) := by decide +kernel
theorem dJ8_newLength_cabcc_26 : decode cJ8_newLength_cabcc 26 = .ok (.ireturn, 1) := by decide +kernel
theorem dJ8_hugeLength_7cf53_0 : decode cJ8_hugeLength_7cf53 0 = .ok (.iload_n 0, 1) := by decide +kernel
theorem dJ8_hugeLength_7cf53_1 : decode cJ8_hugeLength_7cf53 1 = .ok (.iload_n 1, 1) := by decide +kernel
theorem dJ8_hugeLength_7cf53_2 : decode cJ8_hugeLength_7cf53 2 = .ok (.iadd, 1) := by decide +kernel
theorem dJ8_hugeLength_7cf53_3 : decode cJ8_hugeLength_7cf53 3 = .ok (.istore_n 2, 1) := by decide +kernel
theorem dJ8_hugeLength_7cf53_4 : decode cJ8_hugeLength_7cf53 4 = .ok (.iload_n 2, 1) := by decide +kernel
theorem dJ8_hugeLength_7cf53_5 : decode cJ8_hugeLength_7cf53 5 = .ok (.ifCond .ge 44, 3) := by decide +kernel
theorem dJ8_hugeLength_7cf53_8 : decode cJ8_hugeLength_7cf53 8 = .ok (.new 204, 3) := by decide +kernel
theorem dJ8_hugeLength_7cf53_11 : decode cJ8_hugeLength_7cf53 11 = .ok (.dup, 1) := by decide +kernel
theorem dJ8_hugeLength_7cf53_12 : decode cJ8_hugeLength_7cf53 12 = .ok (.new 89, 3) := by decide +kernel
theorem dJ8_hugeLength_7cf53_15 : decode cJ8_hugeLength_7cf53 15 = .ok (.dup, 1) := by decide +kernel
theorem dJ8_hugeLength_7cf53_16 : decode cJ8_hugeLength_7cf53 16 = .ok (.invokespecial 91, 3) := by decide +kernel
theorem dJ8_hugeLength_7cf53_19 : decode cJ8_hugeLength_7cf53 19 = .ok (.ldc 206, 2) := by decide +kernel
theorem dJ8_hugeLength_7cf53_21 : decode cJ8_hugeLength_7cf53 21 = .ok (.invokevirtual 94, 3) := by decide +kernel
theorem dJ8_hugeLength_7cf53_24 : decode cJ8_hugeLength_7cf53 24 = .ok (.iload_n 0, 1) := by decide +kernel
theorem dJ8_hugeLength_7cf53_25 : decode cJ8_hugeLength_7cf53 25 = .ok (.invokevirtual 98, 3) := by decide +kernel
theorem dJ8_hugeLength_7cf53_28 : decode cJ8_hugeLength_7cf53 28 = .ok (.ldc 208, 2) := by decide +kernel
theorem dJ8_hugeLength_7cf53_30 : decode cJ8_hugeLength_7cf53 30 = .ok (.invokevirtual 94, 3) := by decide +kernel
theorem dJ8_hugeLength_7cf53_33 : decode cJ8_hugeLength_7cf53 33 = .ok (.iload_n 1, 1) := by decide +kernel
theorem dJ8_hugeLength_7cf53_34 : decode cJ8_hugeLength_7cf53 34 = .ok (.invokevirtual 98, 3) := by decide +kernel
theorem dJ8_hugeLength_7cf53_37 : decode cJ8_hugeLength_7cf53 37 = .ok (.ldc 210, 2) := by decide +kernel
theorem dJ8_hugeLength_7cf53_39 : decode cJ8_hugeLength_7cf53 39 = .ok (.invokevirtual 94, 3) := by decide +kernel
theorem dJ8_hugeLength_7cf53_42 : decode cJ8_hugeLength_7cf53 42 = .ok (.invokevirtual 101, 3) := by decide +kernel
theorem dJ8_hugeLength_7cf53_45 : decode cJ8_hugeLength_7cf53 45 = .ok (.invokespecial 212, 3) := by decide +kernel
theorem dJ8_hugeLength_7cf53_48 : decode cJ8_hugeLength_7cf53 48 = .ok (.athrow, 1) := by decide +kernel
theorem dJ8_hugeLength_7cf53_49 : decode cJ8_hugeLength_7cf53 49 = .ok (.iload_n 2, 1) := by decide +kernel
theorem dJ8_hugeLength_7cf53_50 : decode cJ8_hugeLength_7cf53 50 = .ok (.ldc 200, 2) := by decide +kernel
theorem dJ8_hugeLength_7cf53_52 : decode cJ8_hugeLength_7cf53 52 = .ok (.if_icmp .gt 6, 3) := by decide +kernel
theorem dJ8_hugeLength_7cf53_55 : decode cJ8_hugeLength_7cf53 55 = .ok (.ldc 200, 2) := by decide +kernel
theorem dJ8_hugeLength_7cf53_57 : decode cJ8_hugeLength_7cf53 57 = .ok (.ireturn, 1) := by decide +kernel
theorem dJ8_hugeLength_7cf53_58 : decode cJ8_hugeLength_7cf53 58 = .ok (.iload_n 2, 1) := by decide +kernel
theorem dJ8_hugeLength_7cf53_59 : decode cJ8_hugeLength_7cf53 59 = .ok (.ireturn, 1) := by decide +kernel
theorem dJ3_checkIndex_8e157_0 : decode cJ3_checkIndex_8e157 0 = .ok (.iload_n 0, 1) := by decide +kernel
theorem dJ3_checkIndex_8e157_1 : decode cJ3_checkIndex_8e157 1 = .ok (.ifCond .lt 8, 3) := by decide +kernel
theorem dJ3_checkIndex_8e157_4 : decode cJ3_checkIndex_8e157 4 = .ok (.iload_n 0, 1) := by decide +kernel
theorem dJ3_checkIndex_8e157_5 : decode cJ3_checkIndex_8e157 5 = .ok (.iload_n 1, 1) := by decide +kernel
theorem dJ3_checkIndex_8e157_6 : decode cJ3_checkIndex_8e157 6 = .ok (.if_icmp .lt 10, 3) := by decide +kernel
theorem dJ3_checkIndex_8e157_9 : decode cJ3_checkIndex_8e157 9 = .ok (.aload_n 2, 1) := by decide +kernel
theorem dJ3_checkIndex_8e157_10 : decode cJ3_checkIndex_8e157 10 = .ok (.iload_n 0, 1) := by decide +kernel
theorem dJ3_checkIndex_8e157_11 : decode cJ3_checkIndex_8e157 11 = .ok (.iload_n 1, 1) := by decide +kernel
theorem dJ3_checkIndex_8e157_12 : decode cJ3_checkIndex_8e157 12 = .ok (.invokestatic 95, 3) := by decide +kernel
theorem dJ3_checkIndex_8e157_15 : decode cJ3_checkIndex_8e157 15 = .ok (.athrow, 1) := by decide +kernel
theorem dJ3_checkIndex_8e157_16 : decode cJ3_checkIndex_8e157 16 = .ok (.iload_n 0, 1) := by decide +kernel
theorem dJ3_checkIndex_8e157_17 : decode cJ3_checkIndex_8e157 17 = .ok (.ireturn, 1) := by decide +kernel
theorem dL_law_0 : decode cL_law 0 = .ok (.new 7, 3) := by decide +kernel
theorem dL_law_3 : decode cL_law 3 = .ok (.dup, 1) := by decide +kernel
theorem dL_law_4 : decode cL_law 4 = .ok (.invokespecial 9, 3) := by decide +kernel
theorem dL_law_7 : decode cL_law 7 = .ok (.astore_n 1, 1) := by decide +kernel
theorem dL_law_8 : decode cL_law 8 = .ok (.new 10, 3) := by decide +kernel
theorem dL_law_11 : decode cL_law 11 = .ok (.dup, 1) := by decide +kernel
theorem dL_law_12 : decode cL_law 12 = .ok (.invokespecial 12, 3) := by decide +kernel
theorem dL_law_15 : decode cL_law 15 = .ok (.astore_n 2, 1) := by decide +kernel
theorem dL_law_16 : decode cL_law 16 = .ok (.iconst 0, 1) := by decide +kernel
theorem dL_law_17 : decode cL_law 17 = .ok (.istore_n 3, 1) := by decide +kernel
theorem dL_law_18 : decode cL_law 18 = .ok (.iload_n 3, 1) := by decide +kernel
theorem dL_law_19 : decode cL_law 19 = .ok (.aload_n 0, 1) := by decide +kernel
theorem dL_law_20 : decode cL_law 20 = .ok (.arraylength, 1) := by decide +kernel
theorem dL_law_21 : decode cL_law 21 = .ok (.bipush 6, 2) := by decide +kernel
theorem dL_law_23 : decode cL_law 23 = .ok (.isub, 1) := by decide +kernel
theorem dL_law_24 : decode cL_law 24 = .ok (.if_icmp .gt 802, 3) := by decide +kernel
theorem dL_law_27 : decode cL_law 27 = .ok (.aload_n 0, 1) := by decide +kernel
theorem dL_law_28 : decode cL_law 28 = .ok (.iload_n 3, 1) := by decide +kernel
theorem dL_law_29 : decode cL_law 29 = .ok (.iaload, 1) := by decide +kernel
theorem dL_law_30 : decode cL_law 30 = .ok (.bipush 31, 2) := by decide +kernel
theorem dL_law_32 : decode cL_law 32 = .ok (.iand, 1) := by decide +kernel
theorem dL_law_33 : decode cL_law 33 = .ok (.tableswitch 787 0 21 #[103, 136, 215, 258, 281, 314, 327, 360, 393, 426, 459, 508, 547, 570, 593, 606, 619, 642, 675, 708, 741, 764], 103) := by decide +kernel
theorem dL_law_136 : decode cL_law 136 = .ok (.aload_n 1, 1) := by decide +kernel
theorem dL_law_137 : decode cL_law 137 = .ok (.aload_n 0, 1) := by decide +kernel
theorem dL_law_138 : decode cL_law 138 = .ok (.iload_n 3, 1) := by decide +kernel
theorem dL_law_139 : decode cL_law 139 = .ok (.iconst 1, 1) := by decide +kernel
theorem dL_law_140 : decode cL_law 140 = .ok (.iadd, 1) := by decide +kernel
theorem dL_law_141 : decode cL_law 141 = .ok (.iaload, 1) := by decide +kernel
theorem dL_law_142 : decode cL_law 142 = .ok (.aload_n 0, 1) := by decide +kernel
theorem dL_law_143 : decode cL_law 143 = .ok (.iload_n 3, 1) := by decide +kernel
theorem dL_law_144 : decode cL_law 144 = .ok (.iconst 2, 1) := by decide +kernel
theorem dL_law_145 : decode cL_law 145 = .ok (.iadd, 1) := by decide +kernel
theorem dL_law_146 : decode cL_law 146 = .ok (.iaload, 1) := by decide +kernel
theorem dL_law_147 : decode cL_law 147 = .ok (.invokevirtual 13, 3) := by decide +kernel
theorem dL_law_150 : decode cL_law 150 = .ok (.aload_n 2, 1) := by decide +kernel
theorem dL_law_151 : decode cL_law 151 = .ok (.aload_n 0, 1) := by decide +kernel
theorem dL_law_152 : decode cL_law 152 = .ok (.iload_n 3, 1) := by decide +kernel
theorem dL_law_153 : decode cL_law 153 = .ok (.iconst 1, 1) := by decide +kernel
theorem dL_law_154 : decode cL_law 154 = .ok (.iadd, 1) := by decide +kernel
theorem dL_law_155 : decode cL_law 155 = .ok (.iaload, 1) := by decide +kernel
theorem dL_law_156 : decode cL_law 156 = .ok (.aload_n 0, 1) := by decide +kernel
theorem dL_law_157 : decode cL_law 157 = .ok (.iload_n 3, 1) := by decide +kernel
theorem dL_law_158 : decode cL_law 158 = .ok (.iconst 2, 1) := by decide +kernel
theorem dL_law_159 : decode cL_law 159 = .ok (.iadd, 1) := by decide +kernel
theorem dL_law_160 : decode cL_law 160 = .ok (.iaload, 1) := by decide +kernel
theorem dL_law_161 : decode cL_law 161 = .ok (.invokevirtual 17, 3) := by decide +kernel
theorem dL_law_164 : decode cL_law 164 = .ok (.if_icmp .eq 656, 3) := by decide +kernel
theorem dL_law_167 : decode cL_law 167 = .ok (.iconst 0, 1) := by decide +kernel
theorem dL_law_168 : decode cL_law 168 = .ok (.ireturn, 1) := by decide +kernel
theorem dL_law_169 : decode cL_law 169 = .ok (.aload_n 1, 1) := by decide +kernel
theorem dL_law_170 : decode cL_law 170 = .ok (.aload_n 0, 1) := by decide +kernel
theorem dL_law_171 : decode cL_law 171 = .ok (.iload_n 3, 1) := by decide +kernel
theorem dL_law_172 : decode cL_law 172 = .ok (.iconst 1, 1) := by decide +kernel
theorem dL_law_173 : decode cL_law 173 = .ok (.iadd, 1) := by decide +kernel
theorem dL_law_174 : decode cL_law 174 = .ok (.iaload, 1) := by decide +kernel
theorem dL_law_175 : decode cL_law 175 = .ok (.aload_n 0, 1) := by decide +kernel
theorem dL_law_176 : decode cL_law 176 = .ok (.iload_n 3, 1) := by decide +kernel
theorem dL_law_177 : decode cL_law 177 = .ok (.iconst 2, 1) := by decide +kernel
theorem dL_law_178 : decode cL_law 178 = .ok (.iadd, 1) := by decide +kernel
theorem dL_law_179 : decode cL_law 179 = .ok (.iaload, 1) := by decide +kernel
theorem dL_law_180 : decode cL_law 180 = .ok (.aload_n 0, 1) := by decide +kernel
theorem dL_law_181 : decode cL_law 181 = .ok (.iload_n 3, 1) := by decide +kernel
theorem dL_law_182 : decode cL_law 182 = .ok (.iconst 3, 1) := by decide +kernel
theorem dL_law_183 : decode cL_law 183 = .ok (.iadd, 1) := by decide +kernel
theorem dL_law_184 : decode cL_law 184 = .ok (.iaload, 1) := by decide +kernel
theorem dL_law_185 : decode cL_law 185 = .ok (.aload_n 0, 1) := by decide +kernel
theorem dL_law_186 : decode cL_law 186 = .ok (.iload_n 3, 1) := by decide +kernel
theorem dL_law_187 : decode cL_law 187 = .ok (.iconst 4, 1) := by decide +kernel
theorem dL_law_188 : decode cL_law 188 = .ok (.iadd, 1) := by decide +kernel
theorem dL_law_189 : decode cL_law 189 = .ok (.iaload, 1) := by decide +kernel
theorem dL_law_190 : decode cL_law 190 = .ok (.aload_n 0, 1) := by decide +kernel
theorem dL_law_191 : decode cL_law 191 = .ok (.iload_n 3, 1) := by decide +kernel
theorem dL_law_192 : decode cL_law 192 = .ok (.iconst 5, 1) := by decide +kernel
theorem dL_law_193 : decode cL_law 193 = .ok (.iadd, 1) := by decide +kernel
theorem dL_law_194 : decode cL_law 194 = .ok (.iaload, 1) := by decide +kernel
theorem dL_law_195 : decode cL_law 195 = .ok (.ifCond .eq 7, 3) := by decide +kernel
theorem dL_law_198 : decode cL_law 198 = .ok (.iconst 1, 1) := by decide +kernel
theorem dL_law_199 : decode cL_law 199 = .ok (.goto 4, 3) := by decide +kernel
theorem dL_law_202 : decode cL_law 202 = .ok (.iconst 0, 1) := by decide +kernel
theorem dL_law_203 : decode cL_law 203 = .ok (.invokevirtual 18, 3) := by decide +kernel
theorem dL_law_206 : decode cL_law 206 = .ok (.aload_n 2, 1) := by decide +kernel
theorem dL_law_207 : decode cL_law 207 = .ok (.aload_n 0, 1) := by decide +kernel
theorem dL_law_208 : decode cL_law 208 = .ok (.iload_n 3, 1) := by decide +kernel
theorem dL_law_209 : decode cL_law 209 = .ok (.iconst 1, 1) := by decide +kernel
theorem dL_law_210 : decode cL_law 210 = .ok (.iadd, 1) := by decide +kernel
theorem dL_law_211 : decode cL_law 211 = .ok (.iaload, 1) := by decide +kernel
theorem dL_law_212 : decode cL_law 212 = .ok (.aload_n 0, 1) := by decide +kernel
theorem dL_law_213 : decode cL_law 213 = .ok (.iload_n 3, 1) := by decide +kernel
theorem dL_law_214 : decode cL_law 214 = .ok (.iconst 2, 1) := by decide +kernel
theorem dL_law_215 : decode cL_law 215 = .ok (.iadd, 1) := by decide +kernel
theorem dL_law_216 : decode cL_law 216 = .ok (.iaload, 1) := by decide +kernel
theorem dL_law_217 : decode cL_law 217 = .ok (.aload_n 0, 1) := by decide +kernel
theorem dL_law_218 : decode cL_law 218 = .ok (.iload_n 3, 1) := by decide +kernel
theorem dL_law_219 : decode cL_law 219 = .ok (.iconst 3, 1) := by decide +kernel
theorem dL_law_220 : decode cL_law 220 = .ok (.iadd, 1) := by decide +kernel
theorem dL_law_221 : decode cL_law 221 = .ok (.iaload, 1) := by decide +kernel
theorem dL_law_222 : decode cL_law 222 = .ok (.aload_n 0, 1) := by decide +kernel
theorem dL_law_223 : decode cL_law 223 = .ok (.iload_n 3, 1) := by decide +kernel
theorem dL_law_224 : decode cL_law 224 = .ok (.iconst 4, 1) := by decide +kernel
theorem dL_law_225 : decode cL_law 225 = .ok (.iadd, 1) := by decide +kernel
theorem dL_law_226 : decode cL_law 226 = .ok (.iaload, 1) := by decide +kernel
theorem dL_law_227 : decode cL_law 227 = .ok (.aload_n 0, 1) := by decide +kernel
theorem dL_law_228 : decode cL_law 228 = .ok (.iload_n 3, 1) := by decide +kernel
theorem dL_law_229 : decode cL_law 229 = .ok (.iconst 5, 1) := by decide +kernel
theorem dL_law_230 : decode cL_law 230 = .ok (.iadd, 1) := by decide +kernel
theorem dL_law_231 : decode cL_law 231 = .ok (.iaload, 1) := by decide +kernel
theorem dL_law_232 : decode cL_law 232 = .ok (.ifCond .eq 7, 3) := by decide +kernel
theorem dL_law_235 : decode cL_law 235 = .ok (.iconst 1, 1) := by decide +kernel
theorem dL_law_236 : decode cL_law 236 = .ok (.goto 4, 3) := by decide +kernel
theorem dL_law_239 : decode cL_law 239 = .ok (.iconst 0, 1) := by decide +kernel
theorem dL_law_240 : decode cL_law 240 = .ok (.invokevirtual 22, 3) := by decide +kernel
theorem dL_law_243 : decode cL_law 243 = .ok (.if_icmp .eq 577, 3) := by decide +kernel
theorem dL_law_246 : decode cL_law 246 = .ok (.iconst 0, 1) := by decide +kernel
theorem dL_law_247 : decode cL_law 247 = .ok (.ireturn, 1) := by decide +kernel
theorem dL_law_248 : decode cL_law 248 = .ok (.aload_n 1, 1) := by decide +kernel
theorem dL_law_249 : decode cL_law 249 = .ok (.aload_n 0, 1) := by decide +kernel
theorem dL_law_250 : decode cL_law 250 = .ok (.iload_n 3, 1) := by decide +kernel
theorem dL_law_251 : decode cL_law 251 = .ok (.iconst 1, 1) := by decide +kernel
theorem dL_law_252 : decode cL_law 252 = .ok (.iadd, 1) := by decide +kernel
theorem dL_law_253 : decode cL_law 253 = .ok (.iaload, 1) := by decide +kernel
theorem dL_law_254 : decode cL_law 254 = .ok (.aload_n 0, 1) := by decide +kernel
theorem dL_law_255 : decode cL_law 255 = .ok (.iload_n 3, 1) := by decide +kernel
theorem dL_law_256 : decode cL_law 256 = .ok (.iconst 2, 1) := by decide +kernel
theorem dL_law_257 : decode cL_law 257 = .ok (.iadd, 1) := by decide +kernel
theorem dL_law_258 : decode cL_law 258 = .ok (.iaload, 1) := by decide +kernel
theorem dL_law_259 : decode cL_law 259 = .ok (.aload_n 0, 1) := by decide +kernel
theorem dL_law_260 : decode cL_law 260 = .ok (.iload_n 3, 1) := by decide +kernel
theorem dL_law_261 : decode cL_law 261 = .ok (.iconst 3, 1) := by decide +kernel
theorem dL_law_262 : decode cL_law 262 = .ok (.iadd, 1) := by decide +kernel
theorem dL_law_263 : decode cL_law 263 = .ok (.iaload, 1) := by decide +kernel
theorem dL_law_264 : decode cL_law 264 = .ok (.invokevirtual 23, 3) := by decide +kernel
theorem dL_law_267 : decode cL_law 267 = .ok (.aload_n 2, 1) := by decide +kernel
theorem dL_law_268 : decode cL_law 268 = .ok (.aload_n 0, 1) := by decide +kernel
theorem dL_law_269 : decode cL_law 269 = .ok (.iload_n 3, 1) := by decide +kernel
theorem dL_law_270 : decode cL_law 270 = .ok (.iconst 1, 1) := by decide +kernel
theorem dL_law_271 : decode cL_law 271 = .ok (.iadd, 1) := by decide +kernel
theorem dL_law_272 : decode cL_law 272 = .ok (.iaload, 1) := by decide +kernel
theorem dL_law_273 : decode cL_law 273 = .ok (.aload_n 0, 1) := by decide +kernel
theorem dL_law_274 : decode cL_law 274 = .ok (.iload_n 3, 1) := by decide +kernel
theorem dL_law_275 : decode cL_law 275 = .ok (.iconst 2, 1) := by decide +kernel
theorem dL_law_276 : decode cL_law 276 = .ok (.iadd, 1) := by decide +kernel
theorem dL_law_277 : decode cL_law 277 = .ok (.iaload, 1) := by decide +kernel
theorem dL_law_278 : decode cL_law 278 = .ok (.aload_n 0, 1) := by decide +kernel
theorem dL_law_279 : decode cL_law 279 = .ok (.iload_n 3, 1) := by decide +kernel
theorem dL_law_280 : decode cL_law 280 = .ok (.iconst 3, 1) := by decide +kernel
theorem dL_law_281 : decode cL_law 281 = .ok (.iadd, 1) := by decide +kernel
theorem dL_law_282 : decode cL_law 282 = .ok (.iaload, 1) := by decide +kernel
theorem dL_law_283 : decode cL_law 283 = .ok (.invokevirtual 27, 3) := by decide +kernel
theorem dL_law_286 : decode cL_law 286 = .ok (.if_icmp .eq 534, 3) := by decide +kernel
theorem dL_law_289 : decode cL_law 289 = .ok (.iconst 0, 1) := by decide +kernel
theorem dL_law_290 : decode cL_law 290 = .ok (.ireturn, 1) := by decide +kernel
theorem dL_law_291 : decode cL_law 291 = .ok (.aload_n 1, 1) := by decide +kernel
theorem dL_law_292 : decode cL_law 292 = .ok (.aload_n 0, 1) := by decide +kernel
theorem dL_law_293 : decode cL_law 293 = .ok (.iload_n 3, 1) := by decide +kernel
theorem dL_law_294 : decode cL_law 294 = .ok (.iconst 1, 1) := by decide +kernel
theorem dL_law_295 : decode cL_law 295 = .ok (.iadd, 1) := by decide +kernel
theorem dL_law_296 : decode cL_law 296 = .ok (.iaload, 1) := by decide +kernel
theorem dL_law_297 : decode cL_law 297 = .ok (.invokevirtual 28, 3) := by decide +kernel
theorem dL_law_300 : decode cL_law 300 = .ok (.aload_n 2, 1) := by decide +kernel
theorem dL_law_301 : decode cL_law 301 = .ok (.aload_n 0, 1) := by decide +kernel
theorem dL_law_302 : decode cL_law 302 = .ok (.iload_n 3, 1) := by decide +kernel
theorem dL_law_303 : decode cL_law 303 = .ok (.iconst 1, 1) := by decide +kernel
theorem dL_law_304 : decode cL_law 304 = .ok (.iadd, 1) := by decide +kernel
theorem dL_law_305 : decode cL_law 305 = .ok (.iaload, 1) := by decide +kernel
theorem dL_law_306 : decode cL_law 306 = .ok (.invokevirtual 32, 3) := by decide +kernel
theorem dL_law_309 : decode cL_law 309 = .ok (.if_icmp .eq 511, 3) := by decide +kernel
theorem dL_law_312 : decode cL_law 312 = .ok (.iconst 0, 1) := by decide +kernel
theorem dL_law_313 : decode cL_law 313 = .ok (.ireturn, 1) := by decide +kernel
theorem dL_law_314 : decode cL_law 314 = .ok (.aload_n 1, 1) := by decide +kernel
theorem dL_law_315 : decode cL_law 315 = .ok (.aload_n 0, 1) := by decide +kernel
theorem dL_law_316 : decode cL_law 316 = .ok (.iload_n 3, 1) := by decide +kernel
theorem dL_law_317 : decode cL_law 317 = .ok (.iconst 1, 1) := by decide +kernel
theorem dL_law_318 : decode cL_law 318 = .ok (.iadd, 1) := by decide +kernel
theorem dL_law_319 : decode cL_law 319 = .ok (.iaload, 1) := by decide +kernel
theorem dL_law_320 : decode cL_law 320 = .ok (.aload_n 0, 1) := by decide +kernel
theorem dL_law_321 : decode cL_law 321 = .ok (.iload_n 3, 1) := by decide +kernel
theorem dL_law_322 : decode cL_law 322 = .ok (.iconst 2, 1) := by decide +kernel
theorem dL_law_323 : decode cL_law 323 = .ok (.iadd, 1) := by decide +kernel
theorem dL_law_324 : decode cL_law 324 = .ok (.iaload, 1) := by decide +kernel
theorem dL_law_325 : decode cL_law 325 = .ok (.invokevirtual 33, 3) := by decide +kernel
theorem dL_law_328 : decode cL_law 328 = .ok (.aload_n 2, 1) := by decide +kernel
theorem dL_law_329 : decode cL_law 329 = .ok (.aload_n 0, 1) := by decide +kernel
theorem dL_law_330 : decode cL_law 330 = .ok (.iload_n 3, 1) := by decide +kernel
theorem dL_law_331 : decode cL_law 331 = .ok (.iconst 1, 1) := by decide +kernel
theorem dL_law_332 : decode cL_law 332 = .ok (.iadd, 1) := by decide +kernel
theorem dL_law_333 : decode cL_law 333 = .ok (.iaload, 1) := by decide +kernel
theorem dL_law_334 : decode cL_law 334 = .ok (.aload_n 0, 1) := by decide +kernel
theorem dL_law_335 : decode cL_law 335 = .ok (.iload_n 3, 1) := by decide +kernel
theorem dL_law_336 : decode cL_law 336 = .ok (.iconst 2, 1) := by decide +kernel
theorem dL_law_337 : decode cL_law 337 = .ok (.iadd, 1) := by decide +kernel
theorem dL_law_338 : decode cL_law 338 = .ok (.iaload, 1) := by decide +kernel
theorem dL_law_339 : decode cL_law 339 = .ok (.invokevirtual 36, 3) := by decide +kernel
theorem dL_law_342 : decode cL_law 342 = .ok (.if_icmp .eq 478, 3) := by decide +kernel
theorem dL_law_345 : decode cL_law 345 = .ok (.iconst 0, 1) := by decide +kernel
theorem dL_law_346 : decode cL_law 346 = .ok (.ireturn, 1) := by decide +kernel
theorem dL_law_347 : decode cL_law 347 = .ok (.aload_n 1, 1) := by decide +kernel
theorem dL_law_348 : decode cL_law 348 = .ok (.invokevirtual 37, 3) := by decide +kernel
theorem dL_law_351 : decode cL_law 351 = .ok (.aload_n 2, 1) := by decide +kernel
theorem dL_law_352 : decode cL_law 352 = .ok (.invokevirtual 41, 3) := by decide +kernel
theorem dL_law_355 : decode cL_law 355 = .ok (.if_icmp .eq 465, 3) := by decide +kernel
theorem dL_law_358 : decode cL_law 358 = .ok (.iconst 0, 1) := by decide +kernel
theorem dL_law_359 : decode cL_law 359 = .ok (.ireturn, 1) := by decide +kernel
theorem dL_law_360 : decode cL_law 360 = .ok (.aload_n 1, 1) := by decide +kernel
theorem dL_law_361 : decode cL_law 361 = .ok (.aload_n 0, 1) := by decide +kernel
theorem dL_law_362 : decode cL_law 362 = .ok (.iload_n 3, 1) := by decide +kernel
theorem dL_law_363 : decode cL_law 363 = .ok (.iconst 1, 1) := by decide +kernel
theorem dL_law_364 : decode cL_law 364 = .ok (.iadd, 1) := by decide +kernel
theorem dL_law_365 : decode cL_law 365 = .ok (.iaload, 1) := by decide +kernel
theorem dL_law_366 : decode cL_law 366 = .ok (.aload_n 0, 1) := by decide +kernel
theorem dL_law_367 : decode cL_law 367 = .ok (.iload_n 3, 1) := by decide +kernel
theorem dL_law_368 : decode cL_law 368 = .ok (.iconst 2, 1) := by decide +kernel
theorem dL_law_369 : decode cL_law 369 = .ok (.iadd, 1) := by decide +kernel
theorem dL_law_370 : decode cL_law 370 = .ok (.iaload, 1) := by decide +kernel
theorem dL_law_371 : decode cL_law 371 = .ok (.invokevirtual 42, 3) := by decide +kernel
theorem dL_law_374 : decode cL_law 374 = .ok (.aload_n 2, 1) := by decide +kernel
theorem dL_law_375 : decode cL_law 375 = .ok (.aload_n 0, 1) := by decide +kernel
theorem dL_law_376 : decode cL_law 376 = .ok (.iload_n 3, 1) := by decide +kernel
theorem dL_law_377 : decode cL_law 377 = .ok (.iconst 1, 1) := by decide +kernel
theorem dL_law_378 : decode cL_law 378 = .ok (.iadd, 1) := by decide +kernel
theorem dL_law_379 : decode cL_law 379 = .ok (.iaload, 1) := by decide +kernel
theorem dL_law_380 : decode cL_law 380 = .ok (.aload_n 0, 1) := by decide +kernel
theorem dL_law_381 : decode cL_law 381 = .ok (.iload_n 3, 1) := by decide +kernel
theorem dL_law_382 : decode cL_law 382 = .ok (.iconst 2, 1) := by decide +kernel
theorem dL_law_383 : decode cL_law 383 = .ok (.iadd, 1) := by decide +kernel
theorem dL_law_384 : decode cL_law 384 = .ok (.iaload, 1) := by decide +kernel
theorem dL_law_385 : decode cL_law 385 = .ok (.invokevirtual 45, 3) := by decide +kernel
theorem dL_law_388 : decode cL_law 388 = .ok (.if_icmp .eq 432, 3) := by decide +kernel
theorem dL_law_391 : decode cL_law 391 = .ok (.iconst 0, 1) := by decide +kernel
theorem dL_law_392 : decode cL_law 392 = .ok (.ireturn, 1) := by decide +kernel
theorem dL_law_393 : decode cL_law 393 = .ok (.aload_n 1, 1) := by decide +kernel
theorem dL_law_394 : decode cL_law 394 = .ok (.aload_n 0, 1) := by decide +kernel
theorem dL_law_395 : decode cL_law 395 = .ok (.iload_n 3, 1) := by decide +kernel
theorem dL_law_396 : decode cL_law 396 = .ok (.iconst 1, 1) := by decide +kernel
theorem dL_law_397 : decode cL_law 397 = .ok (.iadd, 1) := by decide +kernel
theorem dL_law_398 : decode cL_law 398 = .ok (.iaload, 1) := by decide +kernel
theorem dL_law_399 : decode cL_law 399 = .ok (.aload_n 0, 1) := by decide +kernel
theorem dL_law_400 : decode cL_law 400 = .ok (.iload_n 3, 1) := by decide +kernel
theorem dL_law_401 : decode cL_law 401 = .ok (.iconst 2, 1) := by decide +kernel
theorem dL_law_402 : decode cL_law 402 = .ok (.iadd, 1) := by decide +kernel
theorem dL_law_403 : decode cL_law 403 = .ok (.iaload, 1) := by decide +kernel
theorem dL_law_404 : decode cL_law 404 = .ok (.invokevirtual 46, 3) := by decide +kernel
theorem dL_law_407 : decode cL_law 407 = .ok (.aload_n 2, 1) := by decide +kernel
theorem dL_law_408 : decode cL_law 408 = .ok (.aload_n 0, 1) := by decide +kernel
theorem dL_law_409 : decode cL_law 409 = .ok (.iload_n 3, 1) := by decide +kernel
theorem dL_law_410 : decode cL_law 410 = .ok (.iconst 1, 1) := by decide +kernel
theorem dL_law_411 : decode cL_law 411 = .ok (.iadd, 1) := by decide +kernel
theorem dL_law_412 : decode cL_law 412 = .ok (.iaload, 1) := by decide +kernel
theorem dL_law_413 : decode cL_law 413 = .ok (.aload_n 0, 1) := by decide +kernel
theorem dL_law_414 : decode cL_law 414 = .ok (.iload_n 3, 1) := by decide +kernel
theorem dL_law_415 : decode cL_law 415 = .ok (.iconst 2, 1) := by decide +kernel
theorem dL_law_416 : decode cL_law 416 = .ok (.iadd, 1) := by decide +kernel
theorem dL_law_417 : decode cL_law 417 = .ok (.iaload, 1) := by decide +kernel
theorem dL_law_418 : decode cL_law 418 = .ok (.invokevirtual 49, 3) := by decide +kernel
theorem dL_law_421 : decode cL_law 421 = .ok (.if_icmp .eq 399, 3) := by decide +kernel
theorem dL_law_424 : decode cL_law 424 = .ok (.iconst 0, 1) := by decide +kernel
theorem dL_law_425 : decode cL_law 425 = .ok (.ireturn, 1) := by decide +kernel
theorem dL_law_426 : decode cL_law 426 = .ok (.aload_n 1, 1) := by decide +kernel
theorem dL_law_427 : decode cL_law 427 = .ok (.aload_n 0, 1) := by decide +kernel
theorem dL_law_428 : decode cL_law 428 = .ok (.iload_n 3, 1) := by decide +kernel
theorem dL_law_429 : decode cL_law 429 = .ok (.iconst 1, 1) := by decide +kernel
theorem dL_law_430 : decode cL_law 430 = .ok (.iadd, 1) := by decide +kernel
theorem dL_law_431 : decode cL_law 431 = .ok (.iaload, 1) := by decide +kernel
theorem dL_law_432 : decode cL_law 432 = .ok (.aload_n 0, 1) := by decide +kernel
theorem dL_law_433 : decode cL_law 433 = .ok (.iload_n 3, 1) := by decide +kernel
theorem dL_law_434 : decode cL_law 434 = .ok (.iconst 2, 1) := by decide +kernel
theorem dL_law_435 : decode cL_law 435 = .ok (.iadd, 1) := by decide +kernel
theorem dL_law_436 : decode cL_law 436 = .ok (.iaload, 1) := by decide +kernel
theorem dL_law_437 : decode cL_law 437 = .ok (.invokevirtual 50, 3) := by decide +kernel
theorem dL_law_440 : decode cL_law 440 = .ok (.aload_n 2, 1) := by decide +kernel
theorem dL_law_441 : decode cL_law 441 = .ok (.aload_n 0, 1) := by decide +kernel
theorem dL_law_442 : decode cL_law 442 = .ok (.iload_n 3, 1) := by decide +kernel
theorem dL_law_443 : decode cL_law 443 = .ok (.iconst 1, 1) := by decide +kernel
theorem dL_law_444 : decode cL_law 444 = .ok (.iadd, 1) := by decide +kernel
theorem dL_law_445 : decode cL_law 445 = .ok (.iaload, 1) := by decide +kernel
theorem dL_law_446 : decode cL_law 446 = .ok (.aload_n 0, 1) := by decide +kernel
theorem dL_law_447 : decode cL_law 447 = .ok (.iload_n 3, 1) := by decide +kernel
theorem dL_law_448 : decode cL_law 448 = .ok (.iconst 2, 1) := by decide +kernel
theorem dL_law_449 : decode cL_law 449 = .ok (.iadd, 1) := by decide +kernel
theorem dL_law_450 : decode cL_law 450 = .ok (.iaload, 1) := by decide +kernel
theorem dL_law_451 : decode cL_law 451 = .ok (.invokevirtual 53, 3) := by decide +kernel
theorem dL_law_454 : decode cL_law 454 = .ok (.if_icmp .eq 366, 3) := by decide +kernel
theorem dL_law_457 : decode cL_law 457 = .ok (.iconst 0, 1) := by decide +kernel
theorem dL_law_458 : decode cL_law 458 = .ok (.ireturn, 1) := by decide +kernel
theorem dL_law_459 : decode cL_law 459 = .ok (.aload_n 1, 1) := by decide +kernel
theorem dL_law_460 : decode cL_law 460 = .ok (.aload_n 0, 1) := by decide +kernel
theorem dL_law_461 : decode cL_law 461 = .ok (.iload_n 3, 1) := by decide +kernel
theorem dL_law_462 : decode cL_law 462 = .ok (.iconst 1, 1) := by decide +kernel
theorem dL_law_463 : decode cL_law 463 = .ok (.iadd, 1) := by decide +kernel
theorem dL_law_464 : decode cL_law 464 = .ok (.iaload, 1) := by decide +kernel
theorem dL_law_465 : decode cL_law 465 = .ok (.aload_n 0, 1) := by decide +kernel
theorem dL_law_466 : decode cL_law 466 = .ok (.iload_n 3, 1) := by decide +kernel
theorem dL_law_467 : decode cL_law 467 = .ok (.iconst 2, 1) := by decide +kernel
theorem dL_law_468 : decode cL_law 468 = .ok (.iadd, 1) := by decide +kernel
theorem dL_law_469 : decode cL_law 469 = .ok (.iaload, 1) := by decide +kernel
theorem dL_law_470 : decode cL_law 470 = .ok (.invokevirtual 54, 3) := by decide +kernel
theorem dL_law_473 : decode cL_law 473 = .ok (.aload_n 2, 1) := by decide +kernel
theorem dL_law_474 : decode cL_law 474 = .ok (.aload_n 0, 1) := by decide +kernel
theorem dL_law_475 : decode cL_law 475 = .ok (.iload_n 3, 1) := by decide +kernel
theorem dL_law_476 : decode cL_law 476 = .ok (.iconst 1, 1) := by decide +kernel
theorem dL_law_477 : decode cL_law 477 = .ok (.iadd, 1) := by decide +kernel
theorem dL_law_478 : decode cL_law 478 = .ok (.iaload, 1) := by decide +kernel
theorem dL_law_479 : decode cL_law 479 = .ok (.aload_n 0, 1) := by decide +kernel
theorem dL_law_480 : decode cL_law 480 = .ok (.iload_n 3, 1) := by decide +kernel
theorem dL_law_481 : decode cL_law 481 = .ok (.iconst 2, 1) := by decide +kernel
theorem dL_law_482 : decode cL_law 482 = .ok (.iadd, 1) := by decide +kernel
theorem dL_law_483 : decode cL_law 483 = .ok (.iaload, 1) := by decide +kernel
theorem dL_law_484 : decode cL_law 484 = .ok (.invokevirtual 57, 3) := by decide +kernel
theorem dL_law_487 : decode cL_law 487 = .ok (.if_icmp .eq 333, 3) := by decide +kernel
theorem dL_law_490 : decode cL_law 490 = .ok (.iconst 0, 1) := by decide +kernel
theorem dL_law_491 : decode cL_law 491 = .ok (.ireturn, 1) := by decide +kernel
theorem dL_law_492 : decode cL_law 492 = .ok (.aload_n 1, 1) := by decide +kernel
theorem dL_law_493 : decode cL_law 493 = .ok (.aload_n 0, 1) := by decide +kernel
theorem dL_law_494 : decode cL_law 494 = .ok (.iload_n 3, 1) := by decide +kernel
theorem dL_law_495 : decode cL_law 495 = .ok (.iconst 1, 1) := by decide +kernel
theorem dL_law_496 : decode cL_law 496 = .ok (.iadd, 1) := by decide +kernel
theorem dL_law_497 : decode cL_law 497 = .ok (.iaload, 1) := by decide +kernel
theorem dL_law_498 : decode cL_law 498 = .ok (.aload_n 0, 1) := by decide +kernel
theorem dL_law_499 : decode cL_law 499 = .ok (.iload_n 3, 1) := by decide +kernel
theorem dL_law_500 : decode cL_law 500 = .ok (.iconst 2, 1) := by decide +kernel
theorem dL_law_501 : decode cL_law 501 = .ok (.iadd, 1) := by decide +kernel
theorem dL_law_502 : decode cL_law 502 = .ok (.iaload, 1) := by decide +kernel
theorem dL_law_503 : decode cL_law 503 = .ok (.ifCond .eq 7, 3) := by decide +kernel
theorem dL_law_506 : decode cL_law 506 = .ok (.iconst 1, 1) := by decide +kernel
theorem dL_law_507 : decode cL_law 507 = .ok (.goto 4, 3) := by decide +kernel
theorem dL_law_510 : decode cL_law 510 = .ok (.iconst 0, 1) := by decide +kernel
theorem dL_law_511 : decode cL_law 511 = .ok (.invokevirtual 58, 3) := by decide +kernel
theorem dL_law_514 : decode cL_law 514 = .ok (.aload_n 2, 1) := by decide +kernel
theorem dL_law_515 : decode cL_law 515 = .ok (.aload_n 0, 1) := by decide +kernel
theorem dL_law_516 : decode cL_law 516 = .ok (.iload_n 3, 1) := by decide +kernel
theorem dL_law_517 : decode cL_law 517 = .ok (.iconst 1, 1) := by decide +kernel
theorem dL_law_518 : decode cL_law 518 = .ok (.iadd, 1) := by decide +kernel
theorem dL_law_519 : decode cL_law 519 = .ok (.iaload, 1) := by decide +kernel
theorem dL_law_520 : decode cL_law 520 = .ok (.aload_n 0, 1) := by decide +kernel
theorem dL_law_521 : decode cL_law 521 = .ok (.iload_n 3, 1) := by decide +kernel
theorem dL_law_522 : decode cL_law 522 = .ok (.iconst 2, 1) := by decide +kernel
theorem dL_law_523 : decode cL_law 523 = .ok (.iadd, 1) := by decide +kernel
theorem dL_law_524 : decode cL_law 524 = .ok (.iaload, 1) := by decide +kernel
theorem dL_law_525 : decode cL_law 525 = .ok (.ifCond .eq 7, 3) := by decide +kernel
theorem dL_law_528 : decode cL_law 528 = .ok (.iconst 1, 1) := by decide +kernel
theorem dL_law_529 : decode cL_law 529 = .ok (.goto 4, 3) := by decide +kernel
theorem dL_law_532 : decode cL_law 532 = .ok (.iconst 0, 1) := by decide +kernel
theorem dL_law_533 : decode cL_law 533 = .ok (.invokevirtual 62, 3) := by decide +kernel
theorem dL_law_536 : decode cL_law 536 = .ok (.if_icmp .eq 284, 3) := by decide +kernel
theorem dL_law_539 : decode cL_law 539 = .ok (.iconst 0, 1) := by decide +kernel
theorem dL_law_540 : decode cL_law 540 = .ok (.ireturn, 1) := by decide +kernel
theorem dL_law_541 : decode cL_law 541 = .ok (.aload_n 1, 1) := by decide +kernel
theorem dL_law_542 : decode cL_law 542 = .ok (.aload_n 0, 1) := by decide +kernel
theorem dL_law_543 : decode cL_law 543 = .ok (.iload_n 3, 1) := by decide +kernel
theorem dL_law_544 : decode cL_law 544 = .ok (.iconst 1, 1) := by decide +kernel
theorem dL_law_545 : decode cL_law 545 = .ok (.iadd, 1) := by decide +kernel
theorem dL_law_546 : decode cL_law 546 = .ok (.iaload, 1) := by decide +kernel
theorem dL_law_547 : decode cL_law 547 = .ok (.ifCond .eq 7, 3) := by decide +kernel
theorem dL_law_550 : decode cL_law 550 = .ok (.iconst 1, 1) := by decide +kernel
theorem dL_law_551 : decode cL_law 551 = .ok (.goto 4, 3) := by decide +kernel
theorem dL_law_554 : decode cL_law 554 = .ok (.iconst 0, 1) := by decide +kernel
theorem dL_law_555 : decode cL_law 555 = .ok (.invokevirtual 63, 3) := by decide +kernel
theorem dL_law_558 : decode cL_law 558 = .ok (.aload_n 2, 1) := by decide +kernel
theorem dL_law_559 : decode cL_law 559 = .ok (.aload_n 0, 1) := by decide +kernel
theorem dL_law_560 : decode cL_law 560 = .ok (.iload_n 3, 1) := by decide +kernel
theorem dL_law_561 : decode cL_law 561 = .ok (.iconst 1, 1) := by decide +kernel
theorem dL_law_562 : decode cL_law 562 = .ok (.iadd, 1) := by decide +kernel
theorem dL_law_563 : decode cL_law 563 = .ok (.iaload, 1) := by decide +kernel
theorem dL_law_564 : decode cL_law 564 = .ok (.ifCond .eq 7, 3) := by decide +kernel
theorem dL_law_567 : decode cL_law 567 = .ok (.iconst 1, 1) := by decide +kernel
theorem dL_law_568 : decode cL_law 568 = .ok (.goto 4, 3) := by decide +kernel
theorem dL_law_571 : decode cL_law 571 = .ok (.iconst 0, 1) := by decide +kernel
theorem dL_law_572 : decode cL_law 572 = .ok (.invokevirtual 67, 3) := by decide +kernel
theorem dL_law_575 : decode cL_law 575 = .ok (.if_icmp .eq 245, 3) := by decide +kernel
theorem dL_law_578 : decode cL_law 578 = .ok (.iconst 0, 1) := by decide +kernel
theorem dL_law_579 : decode cL_law 579 = .ok (.ireturn, 1) := by decide +kernel
theorem dL_law_580 : decode cL_law 580 = .ok (.aload_n 1, 1) := by decide +kernel
theorem dL_law_581 : decode cL_law 581 = .ok (.aload_n 0, 1) := by decide +kernel
theorem dL_law_582 : decode cL_law 582 = .ok (.iload_n 3, 1) := by decide +kernel
theorem dL_law_583 : decode cL_law 583 = .ok (.iconst 1, 1) := by decide +kernel
theorem dL_law_584 : decode cL_law 584 = .ok (.iadd, 1) := by decide +kernel
theorem dL_law_585 : decode cL_law 585 = .ok (.iaload, 1) := by decide +kernel
theorem dL_law_586 : decode cL_law 586 = .ok (.invokevirtual 68, 3) := by decide +kernel
theorem dL_law_589 : decode cL_law 589 = .ok (.aload_n 2, 1) := by decide +kernel
theorem dL_law_590 : decode cL_law 590 = .ok (.aload_n 0, 1) := by decide +kernel
theorem dL_law_591 : decode cL_law 591 = .ok (.iload_n 3, 1) := by decide +kernel
theorem dL_law_592 : decode cL_law 592 = .ok (.iconst 1, 1) := by decide +kernel
theorem dL_law_593 : decode cL_law 593 = .ok (.iadd, 1) := by decide +kernel
theorem dL_law_594 : decode cL_law 594 = .ok (.iaload, 1) := by decide +kernel
theorem dL_law_595 : decode cL_law 595 = .ok (.invokevirtual 71, 3) := by decide +kernel
theorem dL_law_598 : decode cL_law 598 = .ok (.if_icmp .eq 222, 3) := by decide +kernel
theorem dL_law_601 : decode cL_law 601 = .ok (.iconst 0, 1) := by decide +kernel
theorem dL_law_602 : decode cL_law 602 = .ok (.ireturn, 1) := by decide +kernel
theorem dL_law_603 : decode cL_law 603 = .ok (.aload_n 1, 1) := by decide +kernel
theorem dL_law_604 : decode cL_law 604 = .ok (.aload_n 0, 1) := by decide +kernel
theorem dL_law_605 : decode cL_law 605 = .ok (.iload_n 3, 1) := by decide +kernel
theorem dL_law_606 : decode cL_law 606 = .ok (.iconst 1, 1) := by decide +kernel
theorem dL_law_607 : decode cL_law 607 = .ok (.iadd, 1) := by decide +kernel
theorem dL_law_608 : decode cL_law 608 = .ok (.iaload, 1) := by decide +kernel
theorem dL_law_609 : decode cL_law 609 = .ok (.invokevirtual 72, 3) := by decide +kernel
theorem dL_law_612 : decode cL_law 612 = .ok (.aload_n 2, 1) := by decide +kernel
theorem dL_law_613 : decode cL_law 613 = .ok (.aload_n 0, 1) := by decide +kernel
theorem dL_law_614 : decode cL_law 614 = .ok (.iload_n 3, 1) := by decide +kernel
theorem dL_law_615 : decode cL_law 615 = .ok (.iconst 1, 1) := by decide +kernel
theorem dL_law_616 : decode cL_law 616 = .ok (.iadd, 1) := by decide +kernel
theorem dL_law_617 : decode cL_law 617 = .ok (.iaload, 1) := by decide +kernel
theorem dL_law_618 : decode cL_law 618 = .ok (.invokevirtual 75, 3) := by decide +kernel
theorem dL_law_621 : decode cL_law 621 = .ok (.if_icmp .eq 199, 3) := by decide +kernel
theorem dL_law_624 : decode cL_law 624 = .ok (.iconst 0, 1) := by decide +kernel
theorem dL_law_625 : decode cL_law 625 = .ok (.ireturn, 1) := by decide +kernel
theorem dL_law_626 : decode cL_law 626 = .ok (.aload_n 1, 1) := by decide +kernel
theorem dL_law_627 : decode cL_law 627 = .ok (.invokevirtual 76, 3) := by decide +kernel
theorem dL_law_630 : decode cL_law 630 = .ok (.aload_n 2, 1) := by decide +kernel
theorem dL_law_631 : decode cL_law 631 = .ok (.invokevirtual 79, 3) := by decide +kernel
theorem dL_law_634 : decode cL_law 634 = .ok (.if_icmp .eq 186, 3) := by decide +kernel
theorem dL_law_637 : decode cL_law 637 = .ok (.iconst 0, 1) := by decide +kernel
theorem dL_law_638 : decode cL_law 638 = .ok (.ireturn, 1) := by decide +kernel
theorem dL_law_639 : decode cL_law 639 = .ok (.aload_n 1, 1) := by decide +kernel
theorem dL_law_640 : decode cL_law 640 = .ok (.invokevirtual 80, 3) := by decide +kernel
theorem dL_law_643 : decode cL_law 643 = .ok (.aload_n 2, 1) := by decide +kernel
theorem dL_law_644 : decode cL_law 644 = .ok (.invokevirtual 83, 3) := by decide +kernel
theorem dL_law_647 : decode cL_law 647 = .ok (.if_icmp .eq 173, 3) := by decide +kernel
theorem dL_law_650 : decode cL_law 650 = .ok (.iconst 0, 1) := by decide +kernel
theorem dL_law_651 : decode cL_law 651 = .ok (.ireturn, 1) := by decide +kernel
theorem dL_law_652 : decode cL_law 652 = .ok (.aload_n 1, 1) := by decide +kernel
theorem dL_law_653 : decode cL_law 653 = .ok (.aload_n 0, 1) := by decide +kernel
theorem dL_law_654 : decode cL_law 654 = .ok (.iload_n 3, 1) := by decide +kernel
theorem dL_law_655 : decode cL_law 655 = .ok (.iconst 1, 1) := by decide +kernel
theorem dL_law_656 : decode cL_law 656 = .ok (.iadd, 1) := by decide +kernel
theorem dL_law_657 : decode cL_law 657 = .ok (.iaload, 1) := by decide +kernel
theorem dL_law_658 : decode cL_law 658 = .ok (.invokevirtual 84, 3) := by decide +kernel
theorem dL_law_661 : decode cL_law 661 = .ok (.aload_n 2, 1) := by decide +kernel
theorem dL_law_662 : decode cL_law 662 = .ok (.aload_n 0, 1) := by decide +kernel
theorem dL_law_663 : decode cL_law 663 = .ok (.iload_n 3, 1) := by decide +kernel
theorem dL_law_664 : decode cL_law 664 = .ok (.iconst 1, 1) := by decide +kernel
theorem dL_law_665 : decode cL_law 665 = .ok (.iadd, 1) := by decide +kernel
theorem dL_law_666 : decode cL_law 666 = .ok (.iaload, 1) := by decide +kernel
theorem dL_law_667 : decode cL_law 667 = .ok (.invokevirtual 87, 3) := by decide +kernel
theorem dL_law_670 : decode cL_law 670 = .ok (.if_icmp .eq 150, 3) := by decide +kernel
theorem dL_law_673 : decode cL_law 673 = .ok (.iconst 0, 1) := by decide +kernel
theorem dL_law_674 : decode cL_law 674 = .ok (.ireturn, 1) := by decide +kernel
theorem dL_law_675 : decode cL_law 675 = .ok (.aload_n 1, 1) := by decide +kernel
theorem dL_law_676 : decode cL_law 676 = .ok (.aload_n 0, 1) := by decide +kernel
theorem dL_law_677 : decode cL_law 677 = .ok (.iload_n 3, 1) := by decide +kernel
theorem dL_law_678 : decode cL_law 678 = .ok (.iconst 1, 1) := by decide +kernel
theorem dL_law_679 : decode cL_law 679 = .ok (.iadd, 1) := by decide +kernel
theorem dL_law_680 : decode cL_law 680 = .ok (.iaload, 1) := by decide +kernel
theorem dL_law_681 : decode cL_law 681 = .ok (.aload_n 0, 1) := by decide +kernel
theorem dL_law_682 : decode cL_law 682 = .ok (.iload_n 3, 1) := by decide +kernel
theorem dL_law_683 : decode cL_law 683 = .ok (.iconst 2, 1) := by decide +kernel
theorem dL_law_684 : decode cL_law 684 = .ok (.iadd, 1) := by decide +kernel
theorem dL_law_685 : decode cL_law 685 = .ok (.iaload, 1) := by decide +kernel
theorem dL_law_686 : decode cL_law 686 = .ok (.invokevirtual 88, 3) := by decide +kernel
theorem dL_law_689 : decode cL_law 689 = .ok (.aload_n 2, 1) := by decide +kernel
theorem dL_law_690 : decode cL_law 690 = .ok (.aload_n 0, 1) := by decide +kernel
theorem dL_law_691 : decode cL_law 691 = .ok (.iload_n 3, 1) := by decide +kernel
theorem dL_law_692 : decode cL_law 692 = .ok (.iconst 1, 1) := by decide +kernel
theorem dL_law_693 : decode cL_law 693 = .ok (.iadd, 1) := by decide +kernel
theorem dL_law_694 : decode cL_law 694 = .ok (.iaload, 1) := by decide +kernel
theorem dL_law_695 : decode cL_law 695 = .ok (.aload_n 0, 1) := by decide +kernel
theorem dL_law_696 : decode cL_law 696 = .ok (.iload_n 3, 1) := by decide +kernel
theorem dL_law_697 : decode cL_law 697 = .ok (.iconst 2, 1) := by decide +kernel
theorem dL_law_698 : decode cL_law 698 = .ok (.iadd, 1) := by decide +kernel
theorem dL_law_699 : decode cL_law 699 = .ok (.iaload, 1) := by decide +kernel
theorem dL_law_700 : decode cL_law 700 = .ok (.invokevirtual 91, 3) := by decide +kernel
theorem dL_law_703 : decode cL_law 703 = .ok (.if_icmp .eq 117, 3) := by decide +kernel
theorem dL_law_706 : decode cL_law 706 = .ok (.iconst 0, 1) := by decide +kernel
theorem dL_law_707 : decode cL_law 707 = .ok (.ireturn, 1) := by decide +kernel
theorem dL_law_708 : decode cL_law 708 = .ok (.aload_n 1, 1) := by decide +kernel
theorem dL_law_709 : decode cL_law 709 = .ok (.aload_n 0, 1) := by decide +kernel
theorem dL_law_710 : decode cL_law 710 = .ok (.iload_n 3, 1) := by decide +kernel
theorem dL_law_711 : decode cL_law 711 = .ok (.iconst 1, 1) := by decide +kernel
theorem dL_law_712 : decode cL_law 712 = .ok (.iadd, 1) := by decide +kernel
theorem dL_law_713 : decode cL_law 713 = .ok (.iaload, 1) := by decide +kernel
theorem dL_law_714 : decode cL_law 714 = .ok (.aload_n 0, 1) := by decide +kernel
theorem dL_law_715 : decode cL_law 715 = .ok (.iload_n 3, 1) := by decide +kernel
theorem dL_law_716 : decode cL_law 716 = .ok (.iconst 2, 1) := by decide +kernel
theorem dL_law_717 : decode cL_law 717 = .ok (.iadd, 1) := by decide +kernel
theorem dL_law_718 : decode cL_law 718 = .ok (.iaload, 1) := by decide +kernel
theorem dL_law_719 : decode cL_law 719 = .ok (.invokevirtual 92, 3) := by decide +kernel
theorem dL_law_722 : decode cL_law 722 = .ok (.aload_n 2, 1) := by decide +kernel
theorem dL_law_723 : decode cL_law 723 = .ok (.aload_n 0, 1) := by decide +kernel
theorem dL_law_724 : decode cL_law 724 = .ok (.iload_n 3, 1) := by decide +kernel
theorem dL_law_725 : decode cL_law 725 = .ok (.iconst 1, 1) := by decide +kernel
theorem dL_law_726 : decode cL_law 726 = .ok (.iadd, 1) := by decide +kernel
theorem dL_law_727 : decode cL_law 727 = .ok (.iaload, 1) := by decide +kernel
theorem dL_law_728 : decode cL_law 728 = .ok (.aload_n 0, 1) := by decide +kernel
theorem dL_law_729 : decode cL_law 729 = .ok (.iload_n 3, 1) := by decide +kernel
theorem dL_law_730 : decode cL_law 730 = .ok (.iconst 2, 1) := by decide +kernel
theorem dL_law_731 : decode cL_law 731 = .ok (.iadd, 1) := by decide +kernel
theorem dL_law_732 : decode cL_law 732 = .ok (.iaload, 1) := by decide +kernel
theorem dL_law_733 : decode cL_law 733 = .ok (.invokevirtual 95, 3) := by decide +kernel
theorem dL_law_736 : decode cL_law 736 = .ok (.if_icmp .eq 84, 3) := by decide +kernel
theorem dL_law_739 : decode cL_law 739 = .ok (.iconst 0, 1) := by decide +kernel
theorem dL_law_740 : decode cL_law 740 = .ok (.ireturn, 1) := by decide +kernel
theorem dL_law_741 : decode cL_law 741 = .ok (.aload_n 1, 1) := by decide +kernel
theorem dL_law_742 : decode cL_law 742 = .ok (.aload_n 0, 1) := by decide +kernel
theorem dL_law_743 : decode cL_law 743 = .ok (.iload_n 3, 1) := by decide +kernel
theorem dL_law_744 : decode cL_law 744 = .ok (.iconst 1, 1) := by decide +kernel
theorem dL_law_745 : decode cL_law 745 = .ok (.iadd, 1) := by decide +kernel
theorem dL_law_746 : decode cL_law 746 = .ok (.iaload, 1) := by decide +kernel
theorem dL_law_747 : decode cL_law 747 = .ok (.aload_n 0, 1) := by decide +kernel
theorem dL_law_748 : decode cL_law 748 = .ok (.iload_n 3, 1) := by decide +kernel
theorem dL_law_749 : decode cL_law 749 = .ok (.iconst 2, 1) := by decide +kernel
theorem dL_law_750 : decode cL_law 750 = .ok (.iadd, 1) := by decide +kernel
theorem dL_law_751 : decode cL_law 751 = .ok (.iaload, 1) := by decide +kernel
theorem dL_law_752 : decode cL_law 752 = .ok (.invokevirtual 96, 3) := by decide +kernel
theorem dL_law_755 : decode cL_law 755 = .ok (.aload_n 2, 1) := by decide +kernel
theorem dL_law_756 : decode cL_law 756 = .ok (.aload_n 0, 1) := by decide +kernel
theorem dL_law_757 : decode cL_law 757 = .ok (.iload_n 3, 1) := by decide +kernel
theorem dL_law_758 : decode cL_law 758 = .ok (.iconst 1, 1) := by decide +kernel
theorem dL_law_759 : decode cL_law 759 = .ok (.iadd, 1) := by decide +kernel
theorem dL_law_760 : decode cL_law 760 = .ok (.iaload, 1) := by decide +kernel
theorem dL_law_761 : decode cL_law 761 = .ok (.aload_n 0, 1) := by decide +kernel
theorem dL_law_762 : decode cL_law 762 = .ok (.iload_n 3, 1) := by decide +kernel
theorem dL_law_763 : decode cL_law 763 = .ok (.iconst 2, 1) := by decide +kernel
theorem dL_law_764 : decode cL_law 764 = .ok (.iadd, 1) := by decide +kernel
theorem dL_law_765 : decode cL_law 765 = .ok (.iaload, 1) := by decide +kernel
theorem dL_law_766 : decode cL_law 766 = .ok (.invokevirtual 99, 3) := by decide +kernel
theorem dL_law_769 : decode cL_law 769 = .ok (.if_icmp .eq 51, 3) := by decide +kernel
theorem dL_law_772 : decode cL_law 772 = .ok (.iconst 0, 1) := by decide +kernel
theorem dL_law_773 : decode cL_law 773 = .ok (.ireturn, 1) := by decide +kernel
theorem dL_law_774 : decode cL_law 774 = .ok (.aload_n 1, 1) := by decide +kernel
theorem dL_law_775 : decode cL_law 775 = .ok (.aload_n 0, 1) := by decide +kernel
theorem dL_law_776 : decode cL_law 776 = .ok (.iload_n 3, 1) := by decide +kernel
theorem dL_law_777 : decode cL_law 777 = .ok (.iconst 1, 1) := by decide +kernel
theorem dL_law_778 : decode cL_law 778 = .ok (.iadd, 1) := by decide +kernel
theorem dL_law_779 : decode cL_law 779 = .ok (.iaload, 1) := by decide +kernel
theorem dL_law_780 : decode cL_law 780 = .ok (.invokevirtual 100, 3) := by decide +kernel
theorem dL_law_783 : decode cL_law 783 = .ok (.aload_n 2, 1) := by decide +kernel
theorem dL_law_784 : decode cL_law 784 = .ok (.aload_n 0, 1) := by decide +kernel
theorem dL_law_785 : decode cL_law 785 = .ok (.iload_n 3, 1) := by decide +kernel
theorem dL_law_786 : decode cL_law 786 = .ok (.iconst 1, 1) := by decide +kernel
theorem dL_law_787 : decode cL_law 787 = .ok (.iadd, 1) := by decide +kernel
theorem dL_law_788 : decode cL_law 788 = .ok (.iaload, 1) := by decide +kernel
theorem dL_law_789 : decode cL_law 789 = .ok (.invokevirtual 103, 3) := by decide +kernel
theorem dL_law_792 : decode cL_law 792 = .ok (.if_icmp .eq 28, 3) := by decide +kernel
theorem dL_law_795 : decode cL_law 795 = .ok (.iconst 0, 1) := by decide +kernel
theorem dL_law_796 : decode cL_law 796 = .ok (.ireturn, 1) := by decide +kernel
theorem dL_law_797 : decode cL_law 797 = .ok (.aload_n 1, 1) := by decide +kernel
theorem dL_law_798 : decode cL_law 798 = .ok (.aload_n 0, 1) := by decide +kernel
theorem dL_law_799 : decode cL_law 799 = .ok (.iload_n 3, 1) := by decide +kernel
theorem dL_law_800 : decode cL_law 800 = .ok (.iconst 1, 1) := by decide +kernel
theorem dL_law_801 : decode cL_law 801 = .ok (.iadd, 1) := by decide +kernel
theorem dL_law_802 : decode cL_law 802 = .ok (.iaload, 1) := by decide +kernel
theorem dL_law_803 : decode cL_law 803 = .ok (.invokevirtual 104, 3) := by decide +kernel
theorem dL_law_806 : decode cL_law 806 = .ok (.aload_n 2, 1) := by decide +kernel
theorem dL_law_807 : decode cL_law 807 = .ok (.aload_n 0, 1) := by decide +kernel
theorem dL_law_808 : decode cL_law 808 = .ok (.iload_n 3, 1) := by decide +kernel
theorem dL_law_809 : decode cL_law 809 = .ok (.iconst 1, 1) := by decide +kernel
theorem dL_law_810 : decode cL_law 810 = .ok (.iadd, 1) := by decide +kernel
theorem dL_law_811 : decode cL_law 811 = .ok (.iaload, 1) := by decide +kernel
theorem dL_law_812 : decode cL_law 812 = .ok (.invokevirtual 107, 3) := by decide +kernel
theorem dL_law_815 : decode cL_law 815 = .ok (.if_icmp .eq 5, 3) := by decide +kernel
theorem dL_law_818 : decode cL_law 818 = .ok (.iconst 0, 1) := by decide +kernel
theorem dL_law_819 : decode cL_law 819 = .ok (.ireturn, 1) := by decide +kernel
theorem dL_law_820 : decode cL_law 820 = .ok (.iinc 3 6, 3) := by decide +kernel
theorem dL_law_823 : decode cL_law 823 = .ok (.goto (-805), 3) := by decide +kernel
theorem dL_law_826 : decode cL_law 826 = .ok (.iconst 1, 1) := by decide +kernel
theorem dL_law_827 : decode cL_law 827 = .ok (.ireturn, 1) := by decide +kernel
end
section
/-! ===== a flat typed memory, and the walk over it ===== -/
-- kinds: 0..11 the objects of vwCl by their place, 12 int[], 13 boolean[], 14 Farmer[], 15 Gang[], 16 Object[], 17 int[][]; above: none
abbrev bh_S : Type := (Nat → Nat) × (Nat → Nat → Nat → Int32) × (Nat → Nat → Nat → Option Nat) × (Nat → Nat) × Nat × Nat × Nat
def bh_K (σ : bh_S) : Nat → Nat := σ.1
def bh_I (σ : bh_S) : Nat → Nat → Nat → Int32 := σ.2.1
def bh_R (σ : bh_S) : Nat → Nat → Nat → Option Nat := σ.2.2.1
def bh_L (σ : bh_S) : Nat → Nat := σ.2.2.2.1
def bh_z (σ : bh_S) : Nat := σ.2.2.2.2.1
def bh_n (σ : bh_S) : Nat := σ.2.2.2.2.2.1
def bh_e (σ : bh_S) : Nat := σ.2.2.2.2.2.2
def bh_isR (c k : Nat) : Bool := match c with
  | 0 => k == 1
  | 2 => k == 1
  | 3 => k == 0
  | 4 => k == 2
  | 6 => decide (k < 5)
  | 7 => k == 1
  | 8 => true
  | 9 => k == 0
  | 10 => decide (k < 10)
  | 11 => decide (k < 6) || (decide (18 ≤ k) && decide (k < 44)) || (decide (45 ≤ k) && decide (k < 48))
  | _ => false
def bh_V (σ : bh_S) (c a : Nat) : Nat → Value := fun k => if bh_isR c k then va_rf (bh_R σ c a k) else .int (bh_I σ c a k)
/-- what is stored -/
def bh_setI (σ : bh_S) (c a k : Nat) (v : Int32) : bh_S := (σ.1, (fun c' a' k' => if c' = c ∧ a' = a ∧ k' = k then v else σ.2.1 c' a' k'), σ.2.2)
def bh_setR (σ : bh_S) (c a k : Nat) (v : Option Nat) : bh_S := (σ.1, σ.2.1, (fun c' a' k' => if c' = c ∧ a' = a ∧ k' = k then v else σ.2.2.1 c' a' k'), σ.2.2.2)
/-- a new cell of kind c: N slots, length n -/
def bh_new (σ : bh_S) (c N n : Nat) : bh_S := ((fun a => if a = bh_z σ then c else σ.1 a), (fun c' a' k' => if c' = c ∧ a' = bh_z σ then 0 else σ.2.1 c' a' k'), (fun c' a' k' => if c' = c ∧ a' = bh_z σ then none else σ.2.2.1 c' a' k'), (fun a => if a = bh_z σ then n else σ.2.2.2.1 a), bh_z σ + 1, bh_n σ + N, bh_e σ)
def bh_bnd {α β : Type} (o : Option (α × bh_S)) (f : α → bh_S → Option β) : Option β := match o with
  | some (a, s) => f a s
  | none => none
def bh_rdI (σ : bh_S) (c a k : Nat) : Option Int32 := if bh_K σ a = c then some (bh_I σ c a k) else none
def bh_rdR (σ : bh_S) (c a k : Nat) : Option (Option Nat) := if bh_K σ a = c then some (bh_R σ c a k) else none
def bh_wrI (σ : bh_S) (c a k : Nat) (v : Int32) : Option bh_S := if bh_K σ a = c then some (bh_setI σ c a k v) else none
def bh_wrZ (σ : bh_S) (c a k : Nat) (v : Int32) : Option bh_S := if bh_K σ a = c ∧ (v = 0 ∨ v = 1) then some (bh_setI σ c a k v) else none
def bh_wrR (σ : bh_S) (c a k : Nat) (v : Option Nat) : Option bh_S := if bh_K σ a = c then some (bh_setR σ c a k v) else none
def bh_len (σ : bh_S) (c a : Nat) : Option Int32 := if bh_K σ a = c then some (Int32.ofNat (bh_L σ a)) else none
def bh_ldI (σ : bh_S) (c a : Nat) (i : Int32) : Option Int32 := if bh_K σ a = c ∧ ¬ (i < 0 ∨ bh_L σ a ≤ i.toNatClampNeg) then some (bh_I σ c a i.toNatClampNeg) else none
def bh_ldR (σ : bh_S) (c a : Nat) (i : Int32) : Option (Option Nat) := if bh_K σ a = c ∧ ¬ (i < 0 ∨ bh_L σ a ≤ i.toNatClampNeg) then some (bh_R σ c a i.toNatClampNeg) else none
def bh_stI (σ : bh_S) (c a : Nat) (i v : Int32) : Option bh_S := if bh_K σ a = c ∧ ¬ (i < 0 ∨ bh_L σ a ≤ i.toNatClampNeg) then some (bh_setI σ c a i.toNatClampNeg v) else none
def bh_stZ (σ : bh_S) (c a : Nat) (i v : Int32) : Option bh_S := if bh_K σ a = c ∧ ¬ (i < 0 ∨ bh_L σ a ≤ i.toNatClampNeg) ∧ (v = 0 ∨ v = 1) then some (bh_setI σ c a i.toNatClampNeg v) else none
/-- into a row of references: null, or an object of a class that may lie there (into Object[]: of vwCl) -/
def bh_mayLie (σ : bh_S) (c : Nat) (v : Option Nat) : Bool := match v with
  | none => true
  | some b => (c == 14 && bh_K σ b == 1) || (c == 15 && bh_K σ b == 2) || (c == 16 && decide (bh_K σ b < 12))
def bh_stR (σ : bh_S) (c a : Nat) (i : Int32) (v : Option Nat) : Option bh_S := if bh_K σ a = c ∧ ¬ (i < 0 ∨ bh_L σ a ≤ i.toNatClampNeg) ∧ bh_mayLie σ c v = true then some (bh_setR σ c a i.toNatClampNeg v) else none
/-- new object: its address, the memory -/
def bh_newO (σ : bh_S) (c N : Nat) : Option (Nat × bh_S) := some (bh_z σ, bh_new σ c N 0)
def bh_newA (σ : bh_S) (c : Nat) (n : Int32) : Option (Nat × bh_S) := if ¬ n < 0 ∧ n.toNatClampNeg ≤ 100000 then some (bh_z σ, bh_new σ c n.toNatClampNeg n.toNatClampNeg) else none
def bh_cst (σ : bh_S) (c : Nat) (o : Option Nat) : Option Unit := match o with
  | none => some ()
  | some a => if bh_K σ a = c then some () else none
def bh_retZ (σ : bh_S) (v : Int32) : Option (Int32 × bh_S) := if v = 0 ∨ v = 1 then some (v, σ) else none
def eI : Int32 → Option Value := fun v => some (.int v)
def eR : Option Nat → Option Value := fun v => some (va_rf v)
def eU : Unit → Option Value := fun _ => none
/-- a cell as it lies in the heap -/
def bh_at (D : va_G) (cy : Nat → ClassId) (σ : bh_S) (H : Heap) (a : Nat) : Prop :=
  (∀ r : vw_C, vwCl[bh_K σ a]? = some r → t_OB a (D.1 (bh_K σ a)) r.2.2 (D.2 (bh_K σ a)) H (bh_V σ (bh_K σ a) a)) ∧
  (bh_K σ a = 12 ∨ bh_K σ a = 13 → H[a]? = some (arrV (cy (bh_K σ a)) (bh_L σ a) (fun j => .int (bh_I σ (bh_K σ a) a j)))) ∧
  (14 ≤ bh_K σ a → H[a]? = some (arrV (cy (bh_K σ a)) (bh_L σ a) (fun j => va_rf (bh_R σ (bh_K σ a) a j))))
def bh_Rep (D : va_G) (cy : Nat → ClassId) (base e0 : Nat) (σ : bh_S) (H : Heap) : Prop :=
  H.size = bh_z σ ∧ bh_e σ = e0 ∧ ∀ a : Nat, bh_K σ a < 18 → (base ≤ a ∨ (bh_L σ a = 0 ∧ 12 ≤ bh_K σ a)) ∧ bh_at D cy σ H a
def bh_tys (cy : Nat → ClassId) : List (ClassId × FieldType) := [(cy 12, .int), (cy 13, .boolean), (cy 14, .object "BeetHouse$Farmer"), (cy 15, .object "BeetHouse$Gang"), (cy 16, .object "java/lang/Object"), (cy 17, .array .int)]
def bh_nest : List Cond := [.fieldLinkNest "BeetHouse" 160 "BeetHouse$Weather" "warmths" "[I" "BeetHouse", .fieldLinkNest "BeetHouse" 153 "BeetHouse$Weather" "numbers" "[I" "BeetHouse", .fieldLinkNest "BeetHouse$Mill" 25 "BeetHouse$Yard" "loads" "Ljava/util/ArrayList;" "BeetHouse", .fieldLinkNest "BeetHouse" 240 "BeetHouse$Yard" "loads" "Ljava/util/ArrayList;" "BeetHouse", .fieldLinkNest "BeetHouse" 149 "BeetHouse$Yard" "room" "I" "BeetHouse", .fieldLinkNest "BeetHouse$Mill" 65 "BeetHouse$Yard" "roots" "I" "BeetHouse", .fieldLinkNest "BeetHouse" 251 "BeetHouse$Yard" "roots" "I" "BeetHouse", .fieldLinkNest "BeetHouse" 191 "BeetHouse$Yard" "came" "I" "BeetHouse", .fieldLinkNest "BeetHouse" 152 "BeetHouse$Mill" "rate" "I" "BeetHouse", .fieldLinkNest "BeetHouse" 184 "BeetHouse$Mill" "eaten" "I" "BeetHouse", .fieldLinkNest "BeetHouse" 252 "BeetHouse$Mill" "sugarWon" "I" "BeetHouse", .fieldLinkNest "BeetHouse" 255 "BeetHouse$Mill" "stood" "I" "BeetHouse", .fieldLinkNest "BeetHouse" 258 "BeetHouse$Mill" "lack" "I" "BeetHouse", .fieldLinkNest "BeetHouse" 197 "BeetHouse$Farmer" "number" "I" "BeetHouse", .fieldLinkNest "BeetHouse" 90 "BeetHouse$Farmer" "share" "I" "BeetHouse", .fieldLinkNest "BeetHouse" 248 "BeetHouse$Farmer" "coins" "I" "BeetHouse", .fieldLinkNest "BeetHouse$Yard" 44 "BeetHouse$Farmer" "came" "I" "BeetHouse", .fieldLinkNest "BeetHouse" 110 "BeetHouse$Gang" "rate" "I" "BeetHouse", .fieldLinkNest "BeetHouse" 113 "BeetHouse$Gang" "plot" "LBeetHouse$Plot;" "BeetHouse", .fieldLinkNest "BeetHouse$Orders" 36 "BeetHouse$Plot" "number" "I" "BeetHouse", .fieldLinkNest "BeetHouse" 146 "BeetHouse$Plot" "number" "I" "BeetHouse", .fieldLinkNest "BeetHouse$Yard" 40 "BeetHouse$Plot" "farmer" "LBeetHouse$Farmer;" "BeetHouse", .fieldLinkNest "BeetHouse" 223 "BeetHouse$Plot" "farmer" "LBeetHouse$Farmer;" "BeetHouse", .fieldLinkNest "BeetHouse$Lorry" 37 "BeetHouse$Plot" "way" "I" "BeetHouse", .fieldLinkNest "BeetHouse" 207 "BeetHouse$Plot" "ground" "I" "BeetHouse", .fieldLinkNest "BeetHouse$Orders" 45 "BeetHouse$Plot" "roots" "I" "BeetHouse", .fieldLinkNest "BeetHouse$Lorry" 50 "BeetHouse$Plot" "roots" "I" "BeetHouse", .fieldLinkNest "BeetHouse" 163 "BeetHouse$Plot" "roots" "I" "BeetHouse", .fieldLinkNest "BeetHouse$Orders" 52 "BeetHouse$Plot" "sugar" "I" "BeetHouse", .fieldLinkNest "BeetHouse" 210 "BeetHouse$Plot" "sugar" "I" "BeetHouse", .fieldLinkNest "BeetHouse" 169 "BeetHouse$Plot" "covered" "Z" "BeetHouse", .fieldLinkNest "BeetHouse" 166 "BeetHouse$Plot" "frozen" "Z" "BeetHouse", .fieldLinkNest "BeetHouse" 213 "BeetHouse$Plot" "thawedSince" "I" "BeetHouse", .fieldLinkNest "BeetHouse" 216 "BeetHouse$Plot" "wasted" "I" "BeetHouse", .fieldLinkNest "BeetHouse" 219 "BeetHouse$Plot" "spoiled" "I" "BeetHouse", .fieldLinkNest "BeetHouse$Yard" 37 "BeetHouse$Plot" "came" "I" "BeetHouse", .fieldLinkNest "BeetHouse" 222 "BeetHouse$Plot" "came" "I" "BeetHouse", .fieldLinkNest "BeetHouse" 271 "BeetHouse$Lorry" "capacity" "I" "BeetHouse", .fieldLinkNest "BeetHouse" 124 "BeetHouse$Lorry" "state" "I" "BeetHouse", .fieldLinkNest "BeetHouse" 231 "BeetHouse$Lorry" "plot" "LBeetHouse$Plot;" "BeetHouse", .fieldLinkNest "BeetHouse" 131 "BeetHouse$Lorry" "there" "I" "BeetHouse", .fieldLinkNest "BeetHouse" 232 "BeetHouse$Lorry" "roots" "I" "BeetHouse", .fieldLinkNest "BeetHouse" 233 "BeetHouse$Lorry" "sugar" "I" "BeetHouse", .fieldLinkNest "BeetHouse" 234 "BeetHouse$Lorry" "drowned" "I" "BeetHouse", .fieldLinkNest "BeetHouse" 237 "BeetHouse$Lorry" "brought" "I" "BeetHouse", .fieldLinkNest "BeetHouse$Mill" 46 "BeetHouse$Load" "plot" "LBeetHouse$Plot;" "BeetHouse", .fieldLinkNest "BeetHouse$Yard" 33 "BeetHouse$Load" "plot" "LBeetHouse$Plot;" "BeetHouse", .fieldLinkNest "BeetHouse" 245 "BeetHouse$Load" "plot" "LBeetHouse$Plot;" "BeetHouse", .fieldLinkNest "BeetHouse$Mill" 43 "BeetHouse$Load" "roots" "I" "BeetHouse", .fieldLinkNest "BeetHouse$Yard" 30 "BeetHouse$Load" "roots" "I" "BeetHouse", .fieldLinkNest "BeetHouse" 246 "BeetHouse$Load" "roots" "I" "BeetHouse", .fieldLinkNest "BeetHouse$Mill" 66 "BeetHouse$Load" "sugar" "I" "BeetHouse", .fieldLinkNest "BeetHouse" 247 "BeetHouse$Load" "sugar" "I" "BeetHouse", .methodLinkNest "BeetHouse" 33 ⟨"BeetHouse$Weather", "<init>", "()V"⟩ "BeetHouse", .methodLinkNest "BeetHouse" 40 ⟨"BeetHouse$Yard", "<init>", "()V"⟩ "BeetHouse", .methodLinkNest "BeetHouse" 47 ⟨"BeetHouse$Mill", "<init>", "()V"⟩ "BeetHouse", .methodLinkNest "BeetHouse" 54 ⟨"BeetHouse$Orders", "<init>", "()V"⟩ "BeetHouse", .methodLinkNest "BeetHouse" 74 ⟨"BeetHouse$Farmer", "<init>", "(I)V"⟩ "BeetHouse", .methodLinkNest "BeetHouse" 77 ⟨"BeetHouse$Gang", "<init>", "()V"⟩ "BeetHouse", .methodLinkNest "BeetHouse" 99 ⟨"BeetHouse$Plot", "<init>", "(ILBeetHouse$Farmer;IIIZ)V"⟩ "BeetHouse", .methodLinkNest "BeetHouse" 119 ⟨"BeetHouse$Lorry", "<init>", "(I)V"⟩ "BeetHouse", .methodLinkNest "BeetHouse" 127 ⟨"BeetHouse$Lorry", "setOut", "(LBeetHouse$Plot;I)V"⟩ "BeetHouse", .methodLinkNest "BeetHouse" 267 ⟨"BeetHouse$Lorry", "isOutTo", "(LBeetHouse$Plot;)Z"⟩ "BeetHouse", .methodLinkNest "BeetHouse" 277 ⟨"BeetHouse$Farmer", "comesBefore", "(LBeetHouse$Farmer;I)Z"⟩ "BeetHouse", .methodLinkNest "BeetHouse" 176 ⟨"BeetHouse$Plot", "freeze", "()Z"⟩ "BeetHouse", .methodLinkNest "BeetHouse" 180 ⟨"BeetHouse$Plot", "thaw", "(I)Z"⟩ "BeetHouse", .methodLinkNest "BeetHouse" 300 ⟨"BeetHouse$Plot", "lift", "(I)V"⟩ "BeetHouse", .methodLinkNest "BeetHouse" 284 ⟨"BeetHouse$Lorry", "arrive", "(I)V"⟩ "BeetHouse", .methodLinkNest "BeetHouse$Lorry" 57 ⟨"BeetHouse$Plot", "sugarIn", "(I)I"⟩ "BeetHouse", .methodLinkNest "BeetHouse$Lorry" 61 ⟨"BeetHouse$Plot", "lose", "(II)V"⟩ "BeetHouse", .methodLinkNest "BeetHouse$Lorry" 46 ⟨"BeetHouse$Plot", "wayBack", "()I"⟩ "BeetHouse", .methodLinkNest "BeetHouse" 303 ⟨"BeetHouse$Yard", "hasRoomFor", "(I)Z"⟩ "BeetHouse", .methodLinkNest "BeetHouse" 310 ⟨"BeetHouse$Load", "<init>", "(LBeetHouse$Plot;II)V"⟩ "BeetHouse", .methodLinkNest "BeetHouse" 313 ⟨"BeetHouse$Yard", "take", "(LBeetHouse$Load;)V"⟩ "BeetHouse", .methodLinkNest "BeetHouse" 320 ⟨"BeetHouse$Lorry", "comeHome", "()V"⟩ "BeetHouse", .methodLinkNest "BeetHouse" 290 ⟨"BeetHouse$Mill", "grind", "(LBeetHouse$Yard;)V"⟩ "BeetHouse", .methodLinkNest "BeetHouse$Mill" 50 ⟨"BeetHouse$Plot", "rootsFor", "(I)I"⟩ "BeetHouse", .methodLinkNest "BeetHouse$Mill" 62 ⟨"BeetHouse$Plot", "unitsFor", "(I)I"⟩ "BeetHouse", .methodLinkNest "BeetHouse" 329 ⟨"BeetHouse$Weather", "numberOf", "(I)I"⟩ "BeetHouse", .methodLinkNest "BeetHouse" 332 ⟨"BeetHouse$Plot", "waste", "(I)V"⟩ "BeetHouse", .methodLinkNest "BeetHouse" 297 ⟨"BeetHouse$Plot", "spoil", "(I)V"⟩ "BeetHouse", .methodLinkNest "BeetHouse" 194 ⟨"BeetHouse$Farmer", "claim", "(I)I"⟩ "BeetHouse", .methodLinkNest "BeetHouse" 335 ⟨"BeetHouse$Orders", "clear", "(I)V"⟩ "BeetHouse", .methodLinkNest "BeetHouse" 338 ⟨"BeetHouse$Orders", "add", "(LBeetHouse$Plot;ILBeetHouse$Weather;)Z"⟩ "BeetHouse", .methodLinkNest "BeetHouse$Orders" 55 ⟨"BeetHouse$Weather", "numberOf", "(I)I"⟩ "BeetHouse", .methodLinkNest "BeetHouse$Orders" 60 ⟨"BeetHouse$Plot", "wasteOf", "(II)I"⟩ "BeetHouse", .methodLinkNest "BeetHouse$Orders" 48 ⟨"BeetHouse$Plot", "unitsFor", "(I)I"⟩ "BeetHouse", .methodLinkNest "BeetHouse" 341 ⟨"BeetHouse$Orders", "search", "()V"⟩ "BeetHouse", .methodLinkNest "BeetHouse" 201 ⟨"BeetHouse$Orders", "leastWaste", "()I"⟩ "BeetHouse", .methodLinkNest "BeetHouse" 204 ⟨"BeetHouse$Orders", "plotAtPlace", "(I)I"⟩ "BeetHouse", .castable "BeetHouse$Farmer" "java/lang/Object", .castable "BeetHouse$Gang" "java/lang/Object", .castable "BeetHouse" "java/lang/Object", .castable "java/util/ArrayList" "java/lang/Object", .castable "BeetHouse$Weather" "java/lang/Object", .castable "BeetHouse$Yard" "java/lang/Object", .castable "BeetHouse$Mill" "java/lang/Object", .castable "BeetHouse$Orders" "java/lang/Object", .castable "BeetHouseModel" "java/lang/Object", .castable "BeetHouse$Plot" "java/lang/Object", .castable "BeetHouse$Lorry" "java/lang/Object", .castable "BeetHouse$Load" "java/lang/Object", .castable "[LBeetHouse$Farmer;" "java/lang/Object", .castable "[LBeetHouse$Gang;" "java/lang/Object", .castable "[I" "java/lang/Object", .castable "[[I" "java/lang/Object", .castable "[Ljava/lang/Object;" "java/lang/Object", .castable "[Z" "java/lang/Object"]
def bh_isN (w : Cond) : Bool := match w with
  | .fieldLinkNest _ _ _ _ _ _ => true
  | .methodLinkNest _ _ _ _ => true
  | .castable _ _ => true
  | _ => false
/-- what holds of the tables at a method's start, and of the one static -/
def bh_Env (D : va_G) (cy : Nat → ClassId) (base e0 : Nat) (U : State) : Prop :=
  va_K D vwCl (bh_tys cy) U ∧ (∀ w ∈ bh_nest, va_Nw w U) ∧ base ≤ U.heap.size ∧ (va_AO "BeetHouse$Farmer" U ∧ va_AO "BeetHouse$Gang" U ∧ va_AO "java/lang/Object" U) ∧
  va_Z "java/util/ArrayList" "DEFAULTCAPACITY_EMPTY_ELEMENTDATA" "[Ljava/lang/Object;" (.ref e0) (fun q => base ≤ q) U U.heap ∧ (∃ mi : Nat, va_Mi "[Ljava/lang/Object;" mi U) ∧ va_Dc U
theorem bh_nestN : ∀ w ∈ bh_nest, bh_isN w = true := by decide +kernel
theorem bh_Nw_warm {w : Cond} (hw : bh_isN w = true) {s U : State} (hW : s.WarmedH U.vm) (h : va_Nw w s) : va_Nw w U := by
  cases w <;> first | exact (Bool.false_ne_true hw).elim | exact va_Nw.warmF hW h | exact va_Nw.warmM hW h | exact va_Nw.warmC hW h
abbrev bh_X : Type := Launch × Program × Env × State × MethodId × Array Value × List Frame × Method × Code × va_G × (Nat → ClassId) × Nat × Nat × Nat × Nat
def bh_Rm (fr lo k n : Nat) : Room := { frames := fr, cells := k, slots := n, locals := lo }
def bh_Q (D : va_G) (cy : Nat → ClassId) (base e0 : Nat) (r : Option Value) (σ' : bh_S) : Array Value → State → Outcome → State → Prop := fun _ st oc t => oc = .returned r ∧ bh_Rep D cy base e0 σ' t.heap ∧ va_F (fun q => base ≤ q) st t
def bh_C (y : MethodName) (cc : ByteArray) (ws : List Cond) (ret : Option FieldType) (NL : Nat) (X : bh_X) : Prop := match X with
  | (_, p, _, s, m, args, _, meth, c, D, cy, base, e0, _, _) => p.tables.exec = Jvm.exec ∧ c.code = cc ∧ c.maxLocals = NL ∧ s.vm.findClass y.cls = some m.cls ∧ (∀ w ∈ ws, w.before args s = true) ∧ meth.sig.returnType = ret ∧ meth.locks = false ∧ meth.name = y.name ∧ bh_Env D cy base e0 s
def bh_J {α : Type} (em : α → Option Value) (y : MethodName) (cc : ByteArray) (ws : List Cond) (ret : Option FieldType) (NL FR LO : Nat) (X : bh_X) (σ : bh_S) (pc : Nat) (lv : List (Nat × Value)) (st : List Value) (res : Option (α × bh_S)) : Prop :=
  ∀ (r : α) (σ' : bh_S), res = some (r, σ') → (bh_z σ ≤ bh_z σ' ∧ bh_n σ ≤ bh_n σ') ∧ (bh_C y cc ws ret NL X → match X with
    | (l, p, e, s, m, args, below, meth, c, D, cy, base, e0, z0, n0) => z0 ≤ bh_z σ → n0 ≤ bh_n σ → ∀ (H : Heap) (locs : List Loc) (ls : Array Slot), bh_Rep D cy base e0 σ H → va_S (fun q => base ≤ q) s.heap H locs → lv_has ls NL lv →
      W p l e (bh_Rm FR LO (bh_z σ' - z0) (bh_n σ' - n0)) s m args below meth c H locs (bh_z σ - z0) (bh_n σ - n0) (MQ below (bh_Q D cy base e0 (em r) σ') args s (bh_z σ' - z0) (bh_n σ' - n0) (fun q => base ≤ q)) (F0 m pc ls st))
def bh_MX {α : Type} (em : α → Option Value) (X : bh_X) (y : MethodName) (ws : List Cond) (FR LO : Nat) (av : List Value) (σ : bh_S) (res : Option (α × bh_S)) : Prop :=
  ∀ (r : α) (σ' : bh_S), res = some (r, σ') → (bh_z σ ≤ bh_z σ' ∧ bh_n σ ≤ bh_n σ') ∧ match X with
    | (l, _, _, _, _, _, _, _, _, D, cy, base, e0, _, _) => Met l y ws (bh_Rm FR LO (bh_z σ' - bh_z σ) (bh_n σ' - bh_n σ)) (va_Pc av (fun U => bh_Env D cy base e0 U ∧ bh_Rep D cy base e0 σ U.heap)) (bh_Q D cy base e0 (em r) σ') (bh_z σ' - bh_z σ) (bh_n σ' - bh_n σ) (fun q => base ≤ q)
section BHJ
variable {α : Type} {em : α → Option Value} {y : MethodName} {cc : ByteArray} {ws : List Cond} {ret : Option FieldType} {NL FR LO : Nat} {X : bh_X} {σ : bh_S} {pc : Nat} {lv : List (Nat × Value)} {st : List Value} {res : Option (α × bh_S)}
theorem bh_enter {ws' : List Cond} {av : List Value} (hy : plainName y.cls = true) (hw : ws = Cond.code y cc NL ret :: ws') (hlen : (lg_sl av).length ≤ NL) (body : ∀ X' : bh_X, bh_J em y cc ws ret NL FR LO X' σ 0 (lv_args 0 av) [] res) : bh_MX em X y ws FR LO av σ res := by
  intro r σ' hres
  refine ⟨(body X r σ' hres).1, ?_⟩
  obtain ⟨l, p0, e0', s0, m0, args0, below0, meth0, c0, D, cy, base, e0, z0, n0⟩ := X
  refine Met.ofW (cc := cc) (maxL := NL) (ret := ret) hy hw ?_
  intro p e s m args below meth c s₁ B hml hv
  obtain ⟨rfl, hE, hR⟩ := hv
  have h := (body (l, p, e, s, m, av.toArray, below, meth, c, D, cy, base, e0, bh_z σ, bh_n σ) r σ' hres).2 ⟨B.exec, B.bytes, hml, findClass_of_methodNamed B.named, atoms_spec (ws := ws) B.pre, B.returns, B.notSynchronized, (name_of_methodNamed B.named B.method).1, hE⟩ (Nat.le_refl _) (Nat.le_refl _) s.heap [] _ hR va_S.rf (lv_entry av hlen)
  rw [Nat.sub_self, Nat.sub_self] at h
  rw [lg_entry_eq]
  exact h
theorem bj_none : bh_J em y cc ws ret NL FR LO X σ pc lv st (none : Option (α × bh_S)) := fun _ _ h => by cases h
theorem bj_sub {lv' : List (Nat × Value)} (ks : List Nat) (h : lv_pick lv ks = lv') (k : bh_J em y cc ws ret NL FR LO X σ pc lv' st res) : bh_J em y cc ws ret NL FR LO X σ pc lv st res := by
  intro r σ' hres
  obtain ⟨hm, hk⟩ := k r σ' hres
  refine ⟨hm, fun hC => ?_⟩
  obtain ⟨l, p, e, s, m, args, below, meth, c, D, cy, base, e0, z0, n0⟩ := X
  intro h0 h1 H locs ls hR hS hl
  exact hk hC h0 h1 H locs ls hR hS (lv_sub hl ks h)
theorem bj_ite {q : Prop} [Decidable q] {A B : Option (α × bh_S)} (ht : q → bh_J em y cc ws ret NL FR LO X σ pc lv st A) (hf : ¬ q → bh_J em y cc ws ret NL FR LO X σ pc lv st B) : bh_J em y cc ws ret NL FR LO X σ pc lv st (if q then A else B) := by
  by_cases h : q
  · rw [if_pos h]; exact ht h
  · rw [if_neg h]; exact hf h
/-- not null -/
theorem bj_nn {o : Option Nat} {f : Nat → Option (α × bh_S)} (k : ∀ a : Nat, o = some a → bh_J em y cc ws ret NL FR LO X σ pc lv st (f a)) : bh_J em y cc ws ret NL FR LO X σ pc lv st (o.bind f) := by
  cases o with
  | none => exact bj_none
  | some a => exact k a rfl
/-- an op of the memory's alone -/
theorem bj_op {β : Type} {o : Option β} {f : β → Option (α × bh_S)} (k : ∀ v : β, o = some v → bh_J em y cc ws ret NL FR LO X σ pc lv st (f v)) : bh_J em y cc ws ret NL FR LO X σ pc lv st (o.bind f) := by
  cases o with
  | none => exact bj_none
  | some a => exact k a rfl

theorem bj_iconst {n : Int} {v : Int32} (hdg : decode cc pc = .ok (.iconst n, 1)) (hv : Int32.ofInt n = v) (k : bh_J em y cc ws ret NL FR LO X σ (pc + 1) lv (.int v :: st) res) : bh_J em y cc ws ret NL FR LO X σ pc lv st res := by
  intro r σ' hres
  obtain ⟨hm, hk⟩ := k r σ' hres
  refine ⟨hm, fun hC => ?_⟩
  have hk := hk hC
  obtain ⟨l, p, e, s, m, args, below, meth, c, D, cy, base, e0, z0, n0⟩ := X
  obtain ⟨hx, hb, hml, hown, hts, hrt, hlk, hnm, hE⟩ := hC
  intro h0 h1 H locs ls hR hS hl
  exact lv_iconst hx hb hdg hv (hk h0 h1 H locs ls hR hS hl)
theorem bj_bipush {n : Int} {v : Int32} (hdg : decode cc pc = .ok (.bipush n, 2)) (hv : (Int8.ofInt n).toInt32 = v) (k : bh_J em y cc ws ret NL FR LO X σ (pc + 2) lv (.int v :: st) res) : bh_J em y cc ws ret NL FR LO X σ pc lv st res := by
  intro r σ' hres
  obtain ⟨hm, hk⟩ := k r σ' hres
  refine ⟨hm, fun hC => ?_⟩
  have hk := hk hC
  obtain ⟨l, p, e, s, m, args, below, meth, c, D, cy, base, e0, z0, n0⟩ := X
  obtain ⟨hx, hb, hml, hown, hts, hrt, hlk, hnm, hE⟩ := hC
  intro h0 h1 H locs ls hR hS hl
  exact lv_bipush hx hb hdg hv (hk h0 h1 H locs ls hR hS hl)
theorem bj_sipush {n : Int} {v : Int32} (hdg : decode cc pc = .ok (.sipush n, 3)) (hv : (Int16.ofInt n).toInt32 = v) (k : bh_J em y cc ws ret NL FR LO X σ (pc + 3) lv (.int v :: st) res) : bh_J em y cc ws ret NL FR LO X σ pc lv st res := by
  intro r σ' hres
  obtain ⟨hm, hk⟩ := k r σ' hres
  refine ⟨hm, fun hC => ?_⟩
  have hk := hk hC
  obtain ⟨l, p, e, s, m, args, below, meth, c, D, cy, base, e0, z0, n0⟩ := X
  obtain ⟨hx, hb, hml, hown, hts, hrt, hlk, hnm, hE⟩ := hC
  intro h0 h1 H locs ls hR hS hl
  exact lv_sipush hx hb hdg hv (hk h0 h1 H locs ls hR hS hl)
theorem bj_null  (hdg : decode cc pc = .ok (.aconst_null, 1)) (k : bh_J em y cc ws ret NL FR LO X σ (pc + 1) lv (.null :: st) res) : bh_J em y cc ws ret NL FR LO X σ pc lv st res := by
  intro r σ' hres
  obtain ⟨hm, hk⟩ := k r σ' hres
  refine ⟨hm, fun hC => ?_⟩
  have hk := hk hC
  obtain ⟨l, p, e, s, m, args, below, meth, c, D, cy, base, e0, z0, n0⟩ := X
  obtain ⟨hx, hb, hml, hown, hts, hrt, hlk, hnm, hE⟩ := hC
  intro h0 h1 H locs ls hR hS hl
  exact lv_null hx hb hdg (hk h0 h1 H locs ls hR hS hl)
theorem bj_ldc {index : Nat} {v : Int32} (hdg : decode cc pc = .ok (.ldc index, 2)) (hw : Cond.constant y.cls index v ∈ ws) (k : bh_J em y cc ws ret NL FR LO X σ (pc + 2) lv (.int v :: st) res) : bh_J em y cc ws ret NL FR LO X σ pc lv st res := by
  intro r σ' hres
  obtain ⟨hm, hk⟩ := k r σ' hres
  refine ⟨hm, fun hC => ?_⟩
  have hk := hk hC
  obtain ⟨l, p, e, s, m, args, below, meth, c, D, cy, base, e0, z0, n0⟩ := X
  obtain ⟨hx, hb, hml, hown, hts, hrt, hlk, hnm, hE⟩ := hC
  intro h0 h1 H locs ls hR hS hl
  exact lv_ldc hx hb hown (hts _ hw) hdg (hk h0 h1 H locs ls hR hS hl)
theorem bj_ldc2 {index : Nat} {v : Int64} (hdg : decode cc pc = .ok (.ldc2_w index, 3)) (hw : Cond.constantLong y.cls index v ∈ ws) (k : bh_J em y cc ws ret NL FR LO X σ (pc + 3) lv (.long v :: st) res) : bh_J em y cc ws ret NL FR LO X σ pc lv st res := by
  intro r σ' hres
  obtain ⟨hm, hk⟩ := k r σ' hres
  refine ⟨hm, fun hC => ?_⟩
  have hk := hk hC
  obtain ⟨l, p, e, s, m, args, below, meth, c, D, cy, base, e0, z0, n0⟩ := X
  obtain ⟨hx, hb, hml, hown, hts, hrt, hlk, hnm, hE⟩ := hC
  intro h0 h1 H locs ls hR hS hl
  exact lv_ldc2 hx hb hown (hts _ hw) hdg (hk h0 h1 H locs ls hR hS hl)
theorem bj_iload_n {k0 : Fin 4} {i : Nat} {x : Int32} (hdg : decode cc pc = .ok (.iload_n k0, 1)) (hi : (k0 : Nat) = i) (j : Nat) (hj : lv[j]? = some (i, .int x)) (k : bh_J em y cc ws ret NL FR LO X σ (pc + 1) lv (.int x :: st) res) : bh_J em y cc ws ret NL FR LO X σ pc lv st res := by
  intro r σ' hres
  obtain ⟨hm, hk⟩ := k r σ' hres
  refine ⟨hm, fun hC => ?_⟩
  have hk := hk hC
  obtain ⟨l, p, e, s, m, args, below, meth, c, D, cy, base, e0, z0, n0⟩ := X
  obtain ⟨hx, hb, hml, hown, hts, hrt, hlk, hnm, hE⟩ := hC
  intro h0 h1 H locs ls hR hS hl
  exact lv_iload_n hx hb hdg hi (lv_at hl j hj) (hk h0 h1 H locs ls hR hS hl)
theorem bj_iload {i : Nat} {x : Int32} (hdg : decode cc pc = .ok (.iload i, 2)) (j : Nat) (hj : lv[j]? = some (i, .int x)) (k : bh_J em y cc ws ret NL FR LO X σ (pc + 2) lv (.int x :: st) res) : bh_J em y cc ws ret NL FR LO X σ pc lv st res := by
  intro r σ' hres
  obtain ⟨hm, hk⟩ := k r σ' hres
  refine ⟨hm, fun hC => ?_⟩
  have hk := hk hC
  obtain ⟨l, p, e, s, m, args, below, meth, c, D, cy, base, e0, z0, n0⟩ := X
  obtain ⟨hx, hb, hml, hown, hts, hrt, hlk, hnm, hE⟩ := hC
  intro h0 h1 H locs ls hR hS hl
  exact lv_iload hx hb hdg (lv_at hl j hj) (hk h0 h1 H locs ls hR hS hl)
theorem bj_aload_n {k0 : Fin 4} {i : Nat} {o : Option Nat} (hdg : decode cc pc = .ok (.aload_n k0, 1)) (hi : (k0 : Nat) = i) (j : Nat) (hj : lv[j]? = some (i, va_rf o)) (k : bh_J em y cc ws ret NL FR LO X σ (pc + 1) lv (va_rf o :: st) res) : bh_J em y cc ws ret NL FR LO X σ pc lv st res := by
  intro r σ' hres
  obtain ⟨hm, hk⟩ := k r σ' hres
  refine ⟨hm, fun hC => ?_⟩
  have hk := hk hC
  obtain ⟨l, p, e, s, m, args, below, meth, c, D, cy, base, e0, z0, n0⟩ := X
  obtain ⟨hx, hb, hml, hown, hts, hrt, hlk, hnm, hE⟩ := hC
  intro h0 h1 H locs ls hR hS hl
  exact (by cases o with
    | none => exact lv_aload_nN hx hb hdg hi (lv_at hl j hj) (hk h0 h1 H locs ls hR hS hl)
    | some a => exact lv_aload_n hx hb hdg hi (lv_at hl j hj) (hk h0 h1 H locs ls hR hS hl))
theorem bj_aload {i : Nat} {o : Option Nat} (hdg : decode cc pc = .ok (.aload i, 2)) (j : Nat) (hj : lv[j]? = some (i, va_rf o)) (k : bh_J em y cc ws ret NL FR LO X σ (pc + 2) lv (va_rf o :: st) res) : bh_J em y cc ws ret NL FR LO X σ pc lv st res := by
  intro r σ' hres
  obtain ⟨hm, hk⟩ := k r σ' hres
  refine ⟨hm, fun hC => ?_⟩
  have hk := hk hC
  obtain ⟨l, p, e, s, m, args, below, meth, c, D, cy, base, e0, z0, n0⟩ := X
  obtain ⟨hx, hb, hml, hown, hts, hrt, hlk, hnm, hE⟩ := hC
  intro h0 h1 H locs ls hR hS hl
  exact (by cases o with
    | none => exact lv_aloadN hx hb hdg (lv_at hl j hj) (hk h0 h1 H locs ls hR hS hl)
    | some a => exact lv_aload hx hb hdg (lv_at hl j hj) (hk h0 h1 H locs ls hR hS hl))
theorem bj_aload_nS {k0 : Fin 4} {i a : Nat} (hdg : decode cc pc = .ok (.aload_n k0, 1)) (hi : (k0 : Nat) = i) (j : Nat) (hj : lv[j]? = some (i, .ref a)) (k : bh_J em y cc ws ret NL FR LO X σ (pc + 1) lv (.ref a :: st) res) : bh_J em y cc ws ret NL FR LO X σ pc lv st res := by
  intro r σ' hres
  obtain ⟨hm, hk⟩ := k r σ' hres
  refine ⟨hm, fun hC => ?_⟩
  have hk := hk hC
  obtain ⟨l, p, e, s, m, args, below, meth, c, D, cy, base, e0, z0, n0⟩ := X
  obtain ⟨hx, hb, hml, hown, hts, hrt, hlk, hnm, hE⟩ := hC
  intro h0 h1 H locs ls hR hS hl
  exact lv_aload_n hx hb hdg hi (lv_at hl j hj) (hk h0 h1 H locs ls hR hS hl)
theorem bj_aloadS {i a : Nat} (hdg : decode cc pc = .ok (.aload i, 2)) (j : Nat) (hj : lv[j]? = some (i, .ref a)) (k : bh_J em y cc ws ret NL FR LO X σ (pc + 2) lv (.ref a :: st) res) : bh_J em y cc ws ret NL FR LO X σ pc lv st res := by
  intro r σ' hres
  obtain ⟨hm, hk⟩ := k r σ' hres
  refine ⟨hm, fun hC => ?_⟩
  have hk := hk hC
  obtain ⟨l, p, e, s, m, args, below, meth, c, D, cy, base, e0, z0, n0⟩ := X
  obtain ⟨hx, hb, hml, hown, hts, hrt, hlk, hnm, hE⟩ := hC
  intro h0 h1 H locs ls hR hS hl
  exact lv_aload hx hb hdg (lv_at hl j hj) (hk h0 h1 H locs ls hR hS hl)
theorem bj_istore_n {lv' : List (Nat × Value)} {k0 : Fin 4} {i : Nat} {x : Int32} (hdg : decode cc pc = .ok (.istore_n k0, 1)) (hi : (k0 : Nat) = i) (hn : i < NL) (he : (i, Value.int x) :: lv.filter (fun q => !(q.1 == i) && !(q.1 + 1 == i && q.2.category == 2)) = lv') (k : bh_J em y cc ws ret NL FR LO X σ (pc + 1) lv' st res) : bh_J em y cc ws ret NL FR LO X σ pc lv (Value.int x :: st) res := by
  intro r σ' hres
  obtain ⟨hm, hk⟩ := k r σ' hres
  refine ⟨hm, fun hC => ?_⟩
  have hk := hk hC
  obtain ⟨l, p, e, s, m, args, below, meth, c, D, cy, base, e0, z0, n0⟩ := X
  obtain ⟨hx, hb, hml, hown, hts, hrt, hlk, hnm, hE⟩ := hC
  intro h0 h1 H locs ls hR hS hl
  exact lv_istore_n hx hb hdg hi hl hn he (fun ls' hl' => hk h0 h1 H locs ls' hR hS hl')
theorem bj_istore {lv' : List (Nat × Value)} {i : Nat} {x : Int32} (hdg : decode cc pc = .ok (.istore i, 2)) (hn : i < NL) (he : (i, Value.int x) :: lv.filter (fun q => !(q.1 == i) && !(q.1 + 1 == i && q.2.category == 2)) = lv') (k : bh_J em y cc ws ret NL FR LO X σ (pc + 2) lv' st res) : bh_J em y cc ws ret NL FR LO X σ pc lv (Value.int x :: st) res := by
  intro r σ' hres
  obtain ⟨hm, hk⟩ := k r σ' hres
  refine ⟨hm, fun hC => ?_⟩
  have hk := hk hC
  obtain ⟨l, p, e, s, m, args, below, meth, c, D, cy, base, e0, z0, n0⟩ := X
  obtain ⟨hx, hb, hml, hown, hts, hrt, hlk, hnm, hE⟩ := hC
  intro h0 h1 H locs ls hR hS hl
  exact lv_istore hx hb hdg hl hn he (fun ls' hl' => hk h0 h1 H locs ls' hR hS hl')
theorem bj_astore_n {lv' : List (Nat × Value)} {k0 : Fin 4} {i : Nat} {o : Option Nat} (hdg : decode cc pc = .ok (.astore_n k0, 1)) (hi : (k0 : Nat) = i) (hn : i < NL) (he : (i, va_rf o) :: lv.filter (fun q => !(q.1 == i) && !(q.1 + 1 == i && q.2.category == 2)) = lv') (k : bh_J em y cc ws ret NL FR LO X σ (pc + 1) lv' st res) : bh_J em y cc ws ret NL FR LO X σ pc lv (va_rf o :: st) res := by
  intro r σ' hres
  obtain ⟨hm, hk⟩ := k r σ' hres
  refine ⟨hm, fun hC => ?_⟩
  have hk := hk hC
  obtain ⟨l, p, e, s, m, args, below, meth, c, D, cy, base, e0, z0, n0⟩ := X
  obtain ⟨hx, hb, hml, hown, hts, hrt, hlk, hnm, hE⟩ := hC
  intro h0 h1 H locs ls hR hS hl
  cases o with
  | none => exact lv_astore_nN hx hb hdg hi hl hn he (fun ls' hl' => hk h0 h1 H locs ls' hR hS hl')
  | some a => exact lv_astore_n hx hb hdg hi hl hn he (fun ls' hl' => hk h0 h1 H locs ls' hR hS hl')
theorem bj_astore {lv' : List (Nat × Value)} {i : Nat} {o : Option Nat} (hdg : decode cc pc = .ok (.astore i, 2)) (hn : i < NL) (he : (i, va_rf o) :: lv.filter (fun q => !(q.1 == i) && !(q.1 + 1 == i && q.2.category == 2)) = lv') (k : bh_J em y cc ws ret NL FR LO X σ (pc + 2) lv' st res) : bh_J em y cc ws ret NL FR LO X σ pc lv (va_rf o :: st) res := by
  intro r σ' hres
  obtain ⟨hm, hk⟩ := k r σ' hres
  refine ⟨hm, fun hC => ?_⟩
  have hk := hk hC
  obtain ⟨l, p, e, s, m, args, below, meth, c, D, cy, base, e0, z0, n0⟩ := X
  obtain ⟨hx, hb, hml, hown, hts, hrt, hlk, hnm, hE⟩ := hC
  intro h0 h1 H locs ls hR hS hl
  cases o with
  | none => exact lv_astoreN hx hb hdg hl hn he (fun ls' hl' => hk h0 h1 H locs ls' hR hS hl')
  | some a => exact lv_astore hx hb hdg hl hn he (fun ls' hl' => hk h0 h1 H locs ls' hR hS hl')
theorem bh_c1n : ∀ q ∈ ([] : List (Nat × Value)), q.2.category = 1 := fun _ h => absurd h List.not_mem_nil
theorem bh_c1i {l : List (Nat × Value)} {i : Nat} {x : Int32} (h : ∀ q ∈ l, q.2.category = 1) : ∀ q ∈ ((i, Value.int x) :: l), q.2.category = 1 := List.forall_mem_cons.mpr ⟨rfl, h⟩
theorem bh_c1r {l : List (Nat × Value)} {i x : Nat} (h : ∀ q ∈ l, q.2.category = 1) : ∀ q ∈ ((i, Value.ref x) :: l), q.2.category = 1 := List.forall_mem_cons.mpr ⟨rfl, h⟩
theorem bh_c1o {l : List (Nat × Value)} {i : Nat} {x : Option Nat} (h : ∀ q ∈ l, q.2.category = 1) : ∀ q ∈ ((i, va_rf x) :: l), q.2.category = 1 := List.forall_mem_cons.mpr ⟨by cases x <;> rfl, h⟩
theorem bh_fil {l : List (Nat × Value)} (i : Nat) (h : ∀ q ∈ l, q.2.category = 1) : l.filter (fun q => !(q.1 == i) && !(q.1 + 1 == i && q.2.category == 2)) = l.filter (fun q => !(q.1 == i)) := by
  apply List.filter_congr
  intro q hq
  rw [h q hq]
  simp

theorem bj_istore_nU {lv' : List (Nat × Value)} {k0 : Fin 4} {i : Nat} {x : Int32} (hdg : decode cc pc = .ok (.istore_n k0, 1)) (hi : (k0 : Nat) = i) (hn : i < NL) (hcat : ∀ q ∈ lv, q.2.category = 1) (he : (i, Value.int x) :: lv.filter (fun q => !(q.1 == i)) = lv') (k : bh_J em y cc ws ret NL FR LO X σ (pc + 1) lv' st res) : bh_J em y cc ws ret NL FR LO X σ pc lv (Value.int x :: st) res := bj_istore_n hdg hi hn (by rw [bh_fil i hcat]; exact he) k
theorem bj_istoreU {lv' : List (Nat × Value)} {i : Nat} {x : Int32} (hdg : decode cc pc = .ok (.istore i, 2)) (hn : i < NL) (hcat : ∀ q ∈ lv, q.2.category = 1) (he : (i, Value.int x) :: lv.filter (fun q => !(q.1 == i)) = lv') (k : bh_J em y cc ws ret NL FR LO X σ (pc + 2) lv' st res) : bh_J em y cc ws ret NL FR LO X σ pc lv (Value.int x :: st) res := bj_istore hdg hn (by rw [bh_fil i hcat]; exact he) k
theorem bj_astore_nU {lv' : List (Nat × Value)} {k0 : Fin 4} {i : Nat} {o : Option Nat} (hdg : decode cc pc = .ok (.astore_n k0, 1)) (hi : (k0 : Nat) = i) (hn : i < NL) (hcat : ∀ q ∈ lv, q.2.category = 1) (he : (i, va_rf o) :: lv.filter (fun q => !(q.1 == i)) = lv') (k : bh_J em y cc ws ret NL FR LO X σ (pc + 1) lv' st res) : bh_J em y cc ws ret NL FR LO X σ pc lv (va_rf o :: st) res := bj_astore_n hdg hi hn (by rw [bh_fil i hcat]; exact he) k
theorem bj_astoreU {lv' : List (Nat × Value)} {i : Nat} {o : Option Nat} (hdg : decode cc pc = .ok (.astore i, 2)) (hn : i < NL) (hcat : ∀ q ∈ lv, q.2.category = 1) (he : (i, va_rf o) :: lv.filter (fun q => !(q.1 == i)) = lv') (k : bh_J em y cc ws ret NL FR LO X σ (pc + 2) lv' st res) : bh_J em y cc ws ret NL FR LO X σ pc lv (va_rf o :: st) res := bj_astore hdg hn (by rw [bh_fil i hcat]; exact he) k
theorem bj_iinc {lv' : List (Nat × Value)} {i : Nat} {n : Int} {x v : Int32} (hdg : decode cc pc = .ok (.iinc i n, 3)) (j : Nat) (hj : lv[j]? = some (i, .int x)) (hv : x + Int32.ofInt n = v) (hn : i < NL) (he : (i, Value.int v) :: lv.filter (fun q => !(q.1 == i) && !(q.1 + 1 == i && q.2.category == 2)) = lv') (k : bh_J em y cc ws ret NL FR LO X σ (pc + 3) lv' st res) : bh_J em y cc ws ret NL FR LO X σ pc lv st res := by
  intro r σ' hres
  obtain ⟨hm, hk⟩ := k r σ' hres
  refine ⟨hm, fun hC => ?_⟩
  have hk := hk hC
  obtain ⟨l, p, e, s, m, args, below, meth, c, D, cy, base, e0, z0, n0⟩ := X
  obtain ⟨hx, hb, hml, hown, hts, hrt, hlk, hnm, hE⟩ := hC
  intro h0 h1 H locs ls hR hS hl
  exact lv_iinc hx hb hdg hl hj hv hn he (fun ls' hl' => hk h0 h1 H locs ls' hR hS hl')
theorem bj_iincU {lv' : List (Nat × Value)} {i : Nat} {n : Int} {x v : Int32} (hdg : decode cc pc = .ok (.iinc i n, 3)) (j : Nat) (hj : lv[j]? = some (i, .int x)) (hv : x + Int32.ofInt n = v) (hn : i < NL) (hcat : ∀ q ∈ lv, q.2.category = 1) (he : (i, Value.int v) :: lv.filter (fun q => !(q.1 == i)) = lv') (k : bh_J em y cc ws ret NL FR LO X σ (pc + 3) lv' st res) : bh_J em y cc ws ret NL FR LO X σ pc lv st res := bj_iinc hdg j hj hv hn (by rw [bh_fil i hcat]; exact he) k
theorem bj_iadd {x y0 : Int32} (hdg : decode cc pc = .ok (.iadd, 1)) (k : bh_J em y cc ws ret NL FR LO X σ (pc + 1) lv (.int (x + y0) :: st) res) : bh_J em y cc ws ret NL FR LO X σ pc lv (.int y0 :: .int x :: st) res := by
  intro r σ' hres
  obtain ⟨hm, hk⟩ := k r σ' hres
  refine ⟨hm, fun hC => ?_⟩
  have hk := hk hC
  obtain ⟨l, p, e, s, m, args, below, meth, c, D, cy, base, e0, z0, n0⟩ := X
  obtain ⟨hx, hb, hml, hown, hts, hrt, hlk, hnm, hE⟩ := hC
  intro h0 h1 H locs ls hR hS hl
  exact lv_iadd hx hb hdg (hk h0 h1 H locs ls hR hS hl)
theorem bj_isub {x y0 : Int32} (hdg : decode cc pc = .ok (.isub, 1)) (k : bh_J em y cc ws ret NL FR LO X σ (pc + 1) lv (.int (x - y0) :: st) res) : bh_J em y cc ws ret NL FR LO X σ pc lv (.int y0 :: .int x :: st) res := by
  intro r σ' hres
  obtain ⟨hm, hk⟩ := k r σ' hres
  refine ⟨hm, fun hC => ?_⟩
  have hk := hk hC
  obtain ⟨l, p, e, s, m, args, below, meth, c, D, cy, base, e0, z0, n0⟩ := X
  obtain ⟨hx, hb, hml, hown, hts, hrt, hlk, hnm, hE⟩ := hC
  intro h0 h1 H locs ls hR hS hl
  exact lv_isub hx hb hdg (hk h0 h1 H locs ls hR hS hl)
theorem bj_imul {x y0 : Int32} (hdg : decode cc pc = .ok (.imul, 1)) (k : bh_J em y cc ws ret NL FR LO X σ (pc + 1) lv (.int (x * y0) :: st) res) : bh_J em y cc ws ret NL FR LO X σ pc lv (.int y0 :: .int x :: st) res := by
  intro r σ' hres
  obtain ⟨hm, hk⟩ := k r σ' hres
  refine ⟨hm, fun hC => ?_⟩
  have hk := hk hC
  obtain ⟨l, p, e, s, m, args, below, meth, c, D, cy, base, e0, z0, n0⟩ := X
  obtain ⟨hx, hb, hml, hown, hts, hrt, hlk, hnm, hE⟩ := hC
  intro h0 h1 H locs ls hR hS hl
  exact lv_imul hx hb hdg (hk h0 h1 H locs ls hR hS hl)
theorem bj_iand {x y0 : Int32} (hdg : decode cc pc = .ok (.iand, 1)) (k : bh_J em y cc ws ret NL FR LO X σ (pc + 1) lv (.int (x &&& y0) :: st) res) : bh_J em y cc ws ret NL FR LO X σ pc lv (.int y0 :: .int x :: st) res := by
  intro r σ' hres
  obtain ⟨hm, hk⟩ := k r σ' hres
  refine ⟨hm, fun hC => ?_⟩
  have hk := hk hC
  obtain ⟨l, p, e, s, m, args, below, meth, c, D, cy, base, e0, z0, n0⟩ := X
  obtain ⟨hx, hb, hml, hown, hts, hrt, hlk, hnm, hE⟩ := hC
  intro h0 h1 H locs ls hR hS hl
  exact lv_iand hx hb hdg (hk h0 h1 H locs ls hR hS hl)
theorem bj_ior {x y0 : Int32} (hdg : decode cc pc = .ok (.ior, 1)) (k : bh_J em y cc ws ret NL FR LO X σ (pc + 1) lv (.int (x ||| y0) :: st) res) : bh_J em y cc ws ret NL FR LO X σ pc lv (.int y0 :: .int x :: st) res := by
  intro r σ' hres
  obtain ⟨hm, hk⟩ := k r σ' hres
  refine ⟨hm, fun hC => ?_⟩
  have hk := hk hC
  obtain ⟨l, p, e, s, m, args, below, meth, c, D, cy, base, e0, z0, n0⟩ := X
  obtain ⟨hx, hb, hml, hown, hts, hrt, hlk, hnm, hE⟩ := hC
  intro h0 h1 H locs ls hR hS hl
  exact lv_ior hx hb hdg (hk h0 h1 H locs ls hR hS hl)
theorem bj_ishl {x y0 : Int32} (hdg : decode cc pc = .ok (.ishl, 1)) (k : bh_J em y cc ws ret NL FR LO X σ (pc + 1) lv (.int (x <<< (y0 &&& 31)) :: st) res) : bh_J em y cc ws ret NL FR LO X σ pc lv (.int y0 :: .int x :: st) res := by
  intro r σ' hres
  obtain ⟨hm, hk⟩ := k r σ' hres
  refine ⟨hm, fun hC => ?_⟩
  have hk := hk hC
  obtain ⟨l, p, e, s, m, args, below, meth, c, D, cy, base, e0, z0, n0⟩ := X
  obtain ⟨hx, hb, hml, hown, hts, hrt, hlk, hnm, hE⟩ := hC
  intro h0 h1 H locs ls hR hS hl
  exact lv_ishl hx hb hdg (hk h0 h1 H locs ls hR hS hl)
theorem bj_ishr {x y0 : Int32} (hdg : decode cc pc = .ok (.ishr, 1)) (k : bh_J em y cc ws ret NL FR LO X σ (pc + 1) lv (.int (x >>> (y0 &&& 31)) :: st) res) : bh_J em y cc ws ret NL FR LO X σ pc lv (.int y0 :: .int x :: st) res := by
  intro r σ' hres
  obtain ⟨hm, hk⟩ := k r σ' hres
  refine ⟨hm, fun hC => ?_⟩
  have hk := hk hC
  obtain ⟨l, p, e, s, m, args, below, meth, c, D, cy, base, e0, z0, n0⟩ := X
  obtain ⟨hx, hb, hml, hown, hts, hrt, hlk, hnm, hE⟩ := hC
  intro h0 h1 H locs ls hR hS hl
  exact lv_ishr hx hb hdg (hk h0 h1 H locs ls hR hS hl)
theorem bj_ineg {x : Int32} (hdg : decode cc pc = .ok (.ineg, 1)) (k : bh_J em y cc ws ret NL FR LO X σ (pc + 1) lv (.int (-x) :: st) res) : bh_J em y cc ws ret NL FR LO X σ pc lv (.int x :: st) res := by
  intro r σ' hres
  obtain ⟨hm, hk⟩ := k r σ' hres
  refine ⟨hm, fun hC => ?_⟩
  have hk := hk hC
  obtain ⟨l, p, e, s, m, args, below, meth, c, D, cy, base, e0, z0, n0⟩ := X
  obtain ⟨hx, hb, hml, hown, hts, hrt, hlk, hnm, hE⟩ := hC
  intro h0 h1 H locs ls hR hS hl
  exact lv_ineg hx hb hdg (hk h0 h1 H locs ls hR hS hl)
theorem bj_lmul {x y0 : Int64} (hdg : decode cc pc = .ok (.lmul, 1)) (k : bh_J em y cc ws ret NL FR LO X σ (pc + 1) lv (.long (x * y0) :: st) res) : bh_J em y cc ws ret NL FR LO X σ pc lv (.long y0 :: .long x :: st) res := by
  intro r σ' hres
  obtain ⟨hm, hk⟩ := k r σ' hres
  refine ⟨hm, fun hC => ?_⟩
  have hk := hk hC
  obtain ⟨l, p, e, s, m, args, below, meth, c, D, cy, base, e0, z0, n0⟩ := X
  obtain ⟨hx, hb, hml, hown, hts, hrt, hlk, hnm, hE⟩ := hC
  intro h0 h1 H locs ls hR hS hl
  exact lv_lmul hx hb hdg (hk h0 h1 H locs ls hR hS hl)
theorem bj_i2l {x : Int32} (hdg : decode cc pc = .ok (.i2l, 1)) (k : bh_J em y cc ws ret NL FR LO X σ (pc + 1) lv (.long x.toInt64 :: st) res) : bh_J em y cc ws ret NL FR LO X σ pc lv (.int x :: st) res := by
  intro r σ' hres
  obtain ⟨hm, hk⟩ := k r σ' hres
  refine ⟨hm, fun hC => ?_⟩
  have hk := hk hC
  obtain ⟨l, p, e, s, m, args, below, meth, c, D, cy, base, e0, z0, n0⟩ := X
  obtain ⟨hx, hb, hml, hown, hts, hrt, hlk, hnm, hE⟩ := hC
  intro h0 h1 H locs ls hR hS hl
  exact lv_i2l hx hb hdg rfl (hk h0 h1 H locs ls hR hS hl)
theorem bj_l2i {x : Int64} (hdg : decode cc pc = .ok (.l2i, 1)) (k : bh_J em y cc ws ret NL FR LO X σ (pc + 1) lv (.int x.toInt32 :: st) res) : bh_J em y cc ws ret NL FR LO X σ pc lv (.long x :: st) res := by
  intro r σ' hres
  obtain ⟨hm, hk⟩ := k r σ' hres
  refine ⟨hm, fun hC => ?_⟩
  have hk := hk hC
  obtain ⟨l, p, e, s, m, args, below, meth, c, D, cy, base, e0, z0, n0⟩ := X
  obtain ⟨hx, hb, hml, hown, hts, hrt, hlk, hnm, hE⟩ := hC
  intro h0 h1 H locs ls hR hS hl
  exact lv_l2i hx hb hdg rfl (hk h0 h1 H locs ls hR hS hl)
theorem bj_idivC {x y0 : Int32} (hdg : decode cc pc = .ok (.idiv, 1)) (hne : ¬ y0 = 0) (k : bh_J em y cc ws ret NL FR LO X σ (pc + 1) lv (.int (x / y0) :: st) res) : bh_J em y cc ws ret NL FR LO X σ pc lv (.int y0 :: .int x :: st) res := by
  intro r σ' hres
  obtain ⟨hm, hk⟩ := k r σ' hres
  refine ⟨hm, fun hC => ?_⟩
  have hk := hk hC
  obtain ⟨l, p, e, s, m, args, below, meth, c, D, cy, base, e0, z0, n0⟩ := X
  obtain ⟨hx, hb, hml, hown, hts, hrt, hlk, hnm, hE⟩ := hC
  intro h0 h1 H locs ls hR hS hl
  exact lv_idiv hx hb hdg hne (hk h0 h1 H locs ls hR hS hl)
theorem bj_iremC {x y0 : Int32} (hdg : decode cc pc = .ok (.irem, 1)) (hne : ¬ y0 = 0) (k : bh_J em y cc ws ret NL FR LO X σ (pc + 1) lv (.int (x - x / y0 * y0) :: st) res) : bh_J em y cc ws ret NL FR LO X σ pc lv (.int y0 :: .int x :: st) res := by
  intro r σ' hres
  obtain ⟨hm, hk⟩ := k r σ' hres
  refine ⟨hm, fun hC => ?_⟩
  have hk := hk hC
  obtain ⟨l, p, e, s, m, args, below, meth, c, D, cy, base, e0, z0, n0⟩ := X
  obtain ⟨hx, hb, hml, hown, hts, hrt, hlk, hnm, hE⟩ := hC
  intro h0 h1 H locs ls hR hS hl
  exact lv_irem hx hb hdg hne (hk h0 h1 H locs ls hR hS hl)
theorem bj_ldivC {x y0 : Int64} (hdg : decode cc pc = .ok (.ldiv, 1)) (hne : ¬ y0 = 0) (k : bh_J em y cc ws ret NL FR LO X σ (pc + 1) lv (.long (x / y0) :: st) res) : bh_J em y cc ws ret NL FR LO X σ pc lv (.long y0 :: .long x :: st) res := by
  intro r σ' hres
  obtain ⟨hm, hk⟩ := k r σ' hres
  refine ⟨hm, fun hC => ?_⟩
  have hk := hk hC
  obtain ⟨l, p, e, s, m, args, below, meth, c, D, cy, base, e0, z0, n0⟩ := X
  obtain ⟨hx, hb, hml, hown, hts, hrt, hlk, hnm, hE⟩ := hC
  intro h0 h1 H locs ls hR hS hl
  exact lv_ldiv hx hb hdg hne (hk h0 h1 H locs ls hR hS hl)
theorem bj_dup {v : Value} (hdg : decode cc pc = .ok (.dup, 1)) (hv : v.category = 1) (k : bh_J em y cc ws ret NL FR LO X σ (pc + 1) lv (v :: v :: st) res) : bh_J em y cc ws ret NL FR LO X σ pc lv (v :: st) res := by
  intro r σ' hres
  obtain ⟨hm, hk⟩ := k r σ' hres
  refine ⟨hm, fun hC => ?_⟩
  have hk := hk hC
  obtain ⟨l, p, e, s, m, args, below, meth, c, D, cy, base, e0, z0, n0⟩ := X
  obtain ⟨hx, hb, hml, hown, hts, hrt, hlk, hnm, hE⟩ := hC
  intro h0 h1 H locs ls hR hS hl
  exact lv_dup hx hb hdg hv (hk h0 h1 H locs ls hR hS hl)
theorem bj_pop {v : Value} (hdg : decode cc pc = .ok (.pop, 1)) (hv : v.category = 1) (k : bh_J em y cc ws ret NL FR LO X σ (pc + 1) lv st res) : bh_J em y cc ws ret NL FR LO X σ pc lv (v :: st) res := by
  intro r σ' hres
  obtain ⟨hm, hk⟩ := k r σ' hres
  refine ⟨hm, fun hC => ?_⟩
  have hk := hk hC
  obtain ⟨l, p, e, s, m, args, below, meth, c, D, cy, base, e0, z0, n0⟩ := X
  obtain ⟨hx, hb, hml, hown, hts, hrt, hlk, hnm, hE⟩ := hC
  intro h0 h1 H locs ls hR hS hl
  exact lv_pop hx hb hdg hv (hk h0 h1 H locs ls hR hS hl)
theorem bj_dup_x1 {v v2 : Value} (hdg : decode cc pc = .ok (.dup_x1, 1)) (hv : v.category = 1) (hv2 : v2.category = 1) (k : bh_J em y cc ws ret NL FR LO X σ (pc + 1) lv (v :: v2 :: v :: st) res) : bh_J em y cc ws ret NL FR LO X σ pc lv (v :: v2 :: st) res := by
  intro r σ' hres
  obtain ⟨hm, hk⟩ := k r σ' hres
  refine ⟨hm, fun hC => ?_⟩
  have hk := hk hC
  obtain ⟨l, p, e, s, m, args, below, meth, c, D, cy, base, e0, z0, n0⟩ := X
  obtain ⟨hx, hb, hml, hown, hts, hrt, hlk, hnm, hE⟩ := hC
  intro h0 h1 H locs ls hR hS hl
  exact lv_dup_x1 hx hb hdg hv hv2 (hk h0 h1 H locs ls hR hS hl)
theorem bj_dup_x2 {v v2 v3 : Value} (hdg : decode cc pc = .ok (.dup_x2, 1)) (hv : v.category = 1) (hv2 : v2.category = 1) (hv3 : v3.category = 1) (k : bh_J em y cc ws ret NL FR LO X σ (pc + 1) lv (v :: v2 :: v3 :: v :: st) res) : bh_J em y cc ws ret NL FR LO X σ pc lv (v :: v2 :: v3 :: st) res := by
  intro r σ' hres
  obtain ⟨hm, hk⟩ := k r σ' hres
  refine ⟨hm, fun hC => ?_⟩
  have hk := hk hC
  obtain ⟨l, p, e, s, m, args, below, meth, c, D, cy, base, e0, z0, n0⟩ := X
  obtain ⟨hx, hb, hml, hown, hts, hrt, hlk, hnm, hE⟩ := hC
  intro h0 h1 H locs ls hR hS hl
  exact lv_dup_x2 hx hb hdg hv hv2 hv3 (hk h0 h1 H locs ls hR hS hl)
theorem bj_dup2 {v v2 : Value} (hdg : decode cc pc = .ok (.dup2, 1)) (hv : v.category = 1) (hv2 : v2.category = 1) (k : bh_J em y cc ws ret NL FR LO X σ (pc + 1) lv (v :: v2 :: v :: v2 :: st) res) : bh_J em y cc ws ret NL FR LO X σ pc lv (v :: v2 :: st) res := by
  intro r σ' hres
  obtain ⟨hm, hk⟩ := k r σ' hres
  refine ⟨hm, fun hC => ?_⟩
  have hk := hk hC
  obtain ⟨l, p, e, s, m, args, below, meth, c, D, cy, base, e0, z0, n0⟩ := X
  obtain ⟨hx, hb, hml, hown, hts, hrt, hlk, hnm, hE⟩ := hC
  intro h0 h1 H locs ls hR hS hl
  exact lv_dup2_11 hx hb hdg hv hv2 (hk h0 h1 H locs ls hR hS hl)
theorem bj_goto {off : Int} {tgt : Nat} (hdg : decode cc pc = .ok (.goto off, 3)) (ht : (pc : Int) + off = (tgt : Int)) (k : bh_J em y cc ws ret NL FR LO X σ tgt lv st res) : bh_J em y cc ws ret NL FR LO X σ pc lv st res := by
  intro r σ' hres
  obtain ⟨hm, hk⟩ := k r σ' hres
  refine ⟨hm, fun hC => ?_⟩
  have hk := hk hC
  obtain ⟨l, p, e, s, m, args, below, meth, c, D, cy, base, e0, z0, n0⟩ := X
  obtain ⟨hx, hb, hml, hown, hts, hrt, hlk, hnm, hE⟩ := hC
  intro h0 h1 H locs ls hR hS hl
  exact lv_goto hx hb hdg ht (hk h0 h1 H locs ls hR hS hl)
theorem bj_tblOut {dflt lo hi : Int} {offs : Array Int} {len : Nat} {x : Int32} {tgt : Nat} (hdg : decode cc pc = .ok (.tableswitch dflt lo hi offs, len)) (h : x.toInt < lo ∨ hi < x.toInt) (ht : (pc : Int) + dflt = (tgt : Int)) (k : bh_J em y cc ws ret NL FR LO X σ tgt lv st res) : bh_J em y cc ws ret NL FR LO X σ pc lv (.int x :: st) res := by
  intro r σ' hres
  obtain ⟨hm, hk⟩ := k r σ' hres
  refine ⟨hm, fun hC => ?_⟩
  have hk := hk hC
  obtain ⟨l, p, e, s, m, args, below, meth, c, D, cy, base, e0, z0, n0⟩ := X
  obtain ⟨hx, hb, hml, hown, hts, hrt, hlk, hnm, hE⟩ := hC
  intro h0 h1 H locs ls hR hS hl
  exact lv_tableOut hx hb hdg h ht (hk h0 h1 H locs ls hR hS hl)
theorem bj_tblIn {dflt lo hi : Int} {offs : Array Int} {len : Nat} {x : Int32} {off : Int} {kv : Int32} {tgt : Nat} (hdg : decode cc pc = .ok (.tableswitch dflt lo hi offs, len)) (hxk : x = kv) (g1 : ¬ kv.toInt < lo) (g2 : ¬ hi < kv.toInt) (ho : offs[(kv.toInt - lo).toNat]? = some off) (ht : (pc : Int) + off = (tgt : Int)) (k : bh_J em y cc ws ret NL FR LO X σ tgt lv st res) : bh_J em y cc ws ret NL FR LO X σ pc lv (.int x :: st) res := by
  intro r σ' hres
  obtain ⟨hm, hk⟩ := k r σ' hres
  refine ⟨hm, fun hC => ?_⟩
  have hk := hk hC
  obtain ⟨l, p, e, s, m, args, below, meth, c, D, cy, base, e0, z0, n0⟩ := X
  obtain ⟨hx, hb, hml, hown, hts, hrt, hlk, hnm, hE⟩ := hC
  intro h0 h1 H locs ls hR hS hl
  exact (by subst hxk; exact lv_tableIn hx hb hdg g1 g2 ho ht (hk h0 h1 H locs ls hR hS hl))
theorem bj_if_eq {x : Int32} {off : Int} {tgt : Nat} {A B : Option (α × bh_S)} (hdg : decode cc pc = .ok (.ifCond .eq off, 3)) (ht : (pc : Int) + off = (tgt : Int)) (kt : x = 0 → bh_J em y cc ws ret NL FR LO X σ tgt lv st A) (kf : ¬ (x = 0) → bh_J em y cc ws ret NL FR LO X σ (pc + 3) lv st B) : bh_J em y cc ws ret NL FR LO X σ pc lv (.int x :: st) (if x = 0 then A else B) := by
  by_cases hq : x = 0
  · rw [if_pos hq]
    intro r σ' hres
    obtain ⟨hm, hk⟩ := kt hq r σ' hres
    refine ⟨hm, fun hC => ?_⟩
    have hk := hk hC
    obtain ⟨l, p, e, s, m, args, below, meth, c, D, cy, base, e0, z0, n0⟩ := X
    obtain ⟨hx, hb, hml, hown, hts, hrt, hlk, hnm, hE⟩ := hC
    intro h0 h1 H locs ls hR hS hl
    exact lv_if_eq hx hb hdg ht (fun _ => hk h0 h1 H locs ls hR hS hl) (fun h9 => absurd hq h9)
  · rw [if_neg hq]
    intro r σ' hres
    obtain ⟨hm, hk⟩ := kf hq r σ' hres
    refine ⟨hm, fun hC => ?_⟩
    have hk := hk hC
    obtain ⟨l, p, e, s, m, args, below, meth, c, D, cy, base, e0, z0, n0⟩ := X
    obtain ⟨hx, hb, hml, hown, hts, hrt, hlk, hnm, hE⟩ := hC
    intro h0 h1 H locs ls hR hS hl
    exact lv_if_eq hx hb hdg ht (fun h9 => absurd h9 hq) (fun _ => hk h0 h1 H locs ls hR hS hl)
theorem bj_if_lt {x : Int32} {off : Int} {tgt : Nat} {A B : Option (α × bh_S)} (hdg : decode cc pc = .ok (.ifCond .lt off, 3)) (ht : (pc : Int) + off = (tgt : Int)) (kt : x < 0 → bh_J em y cc ws ret NL FR LO X σ tgt lv st A) (kf : ¬ (x < 0) → bh_J em y cc ws ret NL FR LO X σ (pc + 3) lv st B) : bh_J em y cc ws ret NL FR LO X σ pc lv (.int x :: st) (if x < 0 then A else B) := by
  by_cases hq : x < 0
  · rw [if_pos hq]
    intro r σ' hres
    obtain ⟨hm, hk⟩ := kt hq r σ' hres
    refine ⟨hm, fun hC => ?_⟩
    have hk := hk hC
    obtain ⟨l, p, e, s, m, args, below, meth, c, D, cy, base, e0, z0, n0⟩ := X
    obtain ⟨hx, hb, hml, hown, hts, hrt, hlk, hnm, hE⟩ := hC
    intro h0 h1 H locs ls hR hS hl
    exact lv_if_lt hx hb hdg ht (fun _ => hk h0 h1 H locs ls hR hS hl) (fun h9 => absurd hq h9)
  · rw [if_neg hq]
    intro r σ' hres
    obtain ⟨hm, hk⟩ := kf hq r σ' hres
    refine ⟨hm, fun hC => ?_⟩
    have hk := hk hC
    obtain ⟨l, p, e, s, m, args, below, meth, c, D, cy, base, e0, z0, n0⟩ := X
    obtain ⟨hx, hb, hml, hown, hts, hrt, hlk, hnm, hE⟩ := hC
    intro h0 h1 H locs ls hR hS hl
    exact lv_if_lt hx hb hdg ht (fun h9 => absurd h9 hq) (fun _ => hk h0 h1 H locs ls hR hS hl)
theorem bj_if_ge {x : Int32} {off : Int} {tgt : Nat} {A B : Option (α × bh_S)} (hdg : decode cc pc = .ok (.ifCond .ge off, 3)) (ht : (pc : Int) + off = (tgt : Int)) (kt : 0 ≤ x → bh_J em y cc ws ret NL FR LO X σ tgt lv st A) (kf : ¬ (0 ≤ x) → bh_J em y cc ws ret NL FR LO X σ (pc + 3) lv st B) : bh_J em y cc ws ret NL FR LO X σ pc lv (.int x :: st) (if 0 ≤ x then A else B) := by
  by_cases hq : 0 ≤ x
  · rw [if_pos hq]
    intro r σ' hres
    obtain ⟨hm, hk⟩ := kt hq r σ' hres
    refine ⟨hm, fun hC => ?_⟩
    have hk := hk hC
    obtain ⟨l, p, e, s, m, args, below, meth, c, D, cy, base, e0, z0, n0⟩ := X
    obtain ⟨hx, hb, hml, hown, hts, hrt, hlk, hnm, hE⟩ := hC
    intro h0 h1 H locs ls hR hS hl
    exact lv_if_ge hx hb hdg ht (fun _ => hk h0 h1 H locs ls hR hS hl) (fun h9 => absurd hq h9)
  · rw [if_neg hq]
    intro r σ' hres
    obtain ⟨hm, hk⟩ := kf hq r σ' hres
    refine ⟨hm, fun hC => ?_⟩
    have hk := hk hC
    obtain ⟨l, p, e, s, m, args, below, meth, c, D, cy, base, e0, z0, n0⟩ := X
    obtain ⟨hx, hb, hml, hown, hts, hrt, hlk, hnm, hE⟩ := hC
    intro h0 h1 H locs ls hR hS hl
    exact lv_if_ge hx hb hdg ht (fun h9 => absurd h9 hq) (fun _ => hk h0 h1 H locs ls hR hS hl)
theorem bj_if_gt {x : Int32} {off : Int} {tgt : Nat} {A B : Option (α × bh_S)} (hdg : decode cc pc = .ok (.ifCond .gt off, 3)) (ht : (pc : Int) + off = (tgt : Int)) (kt : 0 < x → bh_J em y cc ws ret NL FR LO X σ tgt lv st A) (kf : ¬ (0 < x) → bh_J em y cc ws ret NL FR LO X σ (pc + 3) lv st B) : bh_J em y cc ws ret NL FR LO X σ pc lv (.int x :: st) (if 0 < x then A else B) := by
  by_cases hq : 0 < x
  · rw [if_pos hq]
    intro r σ' hres
    obtain ⟨hm, hk⟩ := kt hq r σ' hres
    refine ⟨hm, fun hC => ?_⟩
    have hk := hk hC
    obtain ⟨l, p, e, s, m, args, below, meth, c, D, cy, base, e0, z0, n0⟩ := X
    obtain ⟨hx, hb, hml, hown, hts, hrt, hlk, hnm, hE⟩ := hC
    intro h0 h1 H locs ls hR hS hl
    exact lv_if_gt hx hb hdg ht (fun _ => hk h0 h1 H locs ls hR hS hl) (fun h9 => absurd hq h9)
  · rw [if_neg hq]
    intro r σ' hres
    obtain ⟨hm, hk⟩ := kf hq r σ' hres
    refine ⟨hm, fun hC => ?_⟩
    have hk := hk hC
    obtain ⟨l, p, e, s, m, args, below, meth, c, D, cy, base, e0, z0, n0⟩ := X
    obtain ⟨hx, hb, hml, hown, hts, hrt, hlk, hnm, hE⟩ := hC
    intro h0 h1 H locs ls hR hS hl
    exact lv_if_gt hx hb hdg ht (fun h9 => absurd h9 hq) (fun _ => hk h0 h1 H locs ls hR hS hl)
theorem bj_if_le {x : Int32} {off : Int} {tgt : Nat} {A B : Option (α × bh_S)} (hdg : decode cc pc = .ok (.ifCond .le off, 3)) (ht : (pc : Int) + off = (tgt : Int)) (kt : x ≤ 0 → bh_J em y cc ws ret NL FR LO X σ tgt lv st A) (kf : ¬ (x ≤ 0) → bh_J em y cc ws ret NL FR LO X σ (pc + 3) lv st B) : bh_J em y cc ws ret NL FR LO X σ pc lv (.int x :: st) (if x ≤ 0 then A else B) := by
  by_cases hq : x ≤ 0
  · rw [if_pos hq]
    intro r σ' hres
    obtain ⟨hm, hk⟩ := kt hq r σ' hres
    refine ⟨hm, fun hC => ?_⟩
    have hk := hk hC
    obtain ⟨l, p, e, s, m, args, below, meth, c, D, cy, base, e0, z0, n0⟩ := X
    obtain ⟨hx, hb, hml, hown, hts, hrt, hlk, hnm, hE⟩ := hC
    intro h0 h1 H locs ls hR hS hl
    exact lv_if_le hx hb hdg ht (fun _ => hk h0 h1 H locs ls hR hS hl) (fun h9 => absurd hq h9)
  · rw [if_neg hq]
    intro r σ' hres
    obtain ⟨hm, hk⟩ := kf hq r σ' hres
    refine ⟨hm, fun hC => ?_⟩
    have hk := hk hC
    obtain ⟨l, p, e, s, m, args, below, meth, c, D, cy, base, e0, z0, n0⟩ := X
    obtain ⟨hx, hb, hml, hown, hts, hrt, hlk, hnm, hE⟩ := hC
    intro h0 h1 H locs ls hR hS hl
    exact lv_if_le hx hb hdg ht (fun h9 => absurd h9 hq) (fun _ => hk h0 h1 H locs ls hR hS hl)
theorem bj_icmp_eq {x y0 : Int32} {off : Int} {tgt : Nat} {A B : Option (α × bh_S)} (hdg : decode cc pc = .ok (.if_icmp .eq off, 3)) (ht : (pc : Int) + off = (tgt : Int)) (kt : x = y0 → bh_J em y cc ws ret NL FR LO X σ tgt lv st A) (kf : ¬ (x = y0) → bh_J em y cc ws ret NL FR LO X σ (pc + 3) lv st B) : bh_J em y cc ws ret NL FR LO X σ pc lv (.int y0 :: .int x :: st) (if x = y0 then A else B) := by
  by_cases hq : x = y0
  · rw [if_pos hq]
    intro r σ' hres
    obtain ⟨hm, hk⟩ := kt hq r σ' hres
    refine ⟨hm, fun hC => ?_⟩
    have hk := hk hC
    obtain ⟨l, p, e, s, m, args, below, meth, c, D, cy, base, e0, z0, n0⟩ := X
    obtain ⟨hx, hb, hml, hown, hts, hrt, hlk, hnm, hE⟩ := hC
    intro h0 h1 H locs ls hR hS hl
    exact lv_icmp_eq hx hb hdg ht (fun _ => hk h0 h1 H locs ls hR hS hl) (fun h9 => absurd hq h9)
  · rw [if_neg hq]
    intro r σ' hres
    obtain ⟨hm, hk⟩ := kf hq r σ' hres
    refine ⟨hm, fun hC => ?_⟩
    have hk := hk hC
    obtain ⟨l, p, e, s, m, args, below, meth, c, D, cy, base, e0, z0, n0⟩ := X
    obtain ⟨hx, hb, hml, hown, hts, hrt, hlk, hnm, hE⟩ := hC
    intro h0 h1 H locs ls hR hS hl
    exact lv_icmp_eq hx hb hdg ht (fun h9 => absurd h9 hq) (fun _ => hk h0 h1 H locs ls hR hS hl)
theorem bj_icmp_lt {x y0 : Int32} {off : Int} {tgt : Nat} {A B : Option (α × bh_S)} (hdg : decode cc pc = .ok (.if_icmp .lt off, 3)) (ht : (pc : Int) + off = (tgt : Int)) (kt : x < y0 → bh_J em y cc ws ret NL FR LO X σ tgt lv st A) (kf : ¬ (x < y0) → bh_J em y cc ws ret NL FR LO X σ (pc + 3) lv st B) : bh_J em y cc ws ret NL FR LO X σ pc lv (.int y0 :: .int x :: st) (if x < y0 then A else B) := by
  by_cases hq : x < y0
  · rw [if_pos hq]
    intro r σ' hres
    obtain ⟨hm, hk⟩ := kt hq r σ' hres
    refine ⟨hm, fun hC => ?_⟩
    have hk := hk hC
    obtain ⟨l, p, e, s, m, args, below, meth, c, D, cy, base, e0, z0, n0⟩ := X
    obtain ⟨hx, hb, hml, hown, hts, hrt, hlk, hnm, hE⟩ := hC
    intro h0 h1 H locs ls hR hS hl
    exact lv_icmp_lt hx hb hdg ht (fun _ => hk h0 h1 H locs ls hR hS hl) (fun h9 => absurd hq h9)
  · rw [if_neg hq]
    intro r σ' hres
    obtain ⟨hm, hk⟩ := kf hq r σ' hres
    refine ⟨hm, fun hC => ?_⟩
    have hk := hk hC
    obtain ⟨l, p, e, s, m, args, below, meth, c, D, cy, base, e0, z0, n0⟩ := X
    obtain ⟨hx, hb, hml, hown, hts, hrt, hlk, hnm, hE⟩ := hC
    intro h0 h1 H locs ls hR hS hl
    exact lv_icmp_lt hx hb hdg ht (fun h9 => absurd h9 hq) (fun _ => hk h0 h1 H locs ls hR hS hl)
theorem bj_icmp_ge {x y0 : Int32} {off : Int} {tgt : Nat} {A B : Option (α × bh_S)} (hdg : decode cc pc = .ok (.if_icmp .ge off, 3)) (ht : (pc : Int) + off = (tgt : Int)) (kt : y0 ≤ x → bh_J em y cc ws ret NL FR LO X σ tgt lv st A) (kf : ¬ (y0 ≤ x) → bh_J em y cc ws ret NL FR LO X σ (pc + 3) lv st B) : bh_J em y cc ws ret NL FR LO X σ pc lv (.int y0 :: .int x :: st) (if y0 ≤ x then A else B) := by
  by_cases hq : y0 ≤ x
  · rw [if_pos hq]
    intro r σ' hres
    obtain ⟨hm, hk⟩ := kt hq r σ' hres
    refine ⟨hm, fun hC => ?_⟩
    have hk := hk hC
    obtain ⟨l, p, e, s, m, args, below, meth, c, D, cy, base, e0, z0, n0⟩ := X
    obtain ⟨hx, hb, hml, hown, hts, hrt, hlk, hnm, hE⟩ := hC
    intro h0 h1 H locs ls hR hS hl
    exact lv_icmp_ge hx hb hdg ht (fun _ => hk h0 h1 H locs ls hR hS hl) (fun h9 => absurd hq h9)
  · rw [if_neg hq]
    intro r σ' hres
    obtain ⟨hm, hk⟩ := kf hq r σ' hres
    refine ⟨hm, fun hC => ?_⟩
    have hk := hk hC
    obtain ⟨l, p, e, s, m, args, below, meth, c, D, cy, base, e0, z0, n0⟩ := X
    obtain ⟨hx, hb, hml, hown, hts, hrt, hlk, hnm, hE⟩ := hC
    intro h0 h1 H locs ls hR hS hl
    exact lv_icmp_ge hx hb hdg ht (fun h9 => absurd h9 hq) (fun _ => hk h0 h1 H locs ls hR hS hl)
theorem bj_icmp_gt {x y0 : Int32} {off : Int} {tgt : Nat} {A B : Option (α × bh_S)} (hdg : decode cc pc = .ok (.if_icmp .gt off, 3)) (ht : (pc : Int) + off = (tgt : Int)) (kt : y0 < x → bh_J em y cc ws ret NL FR LO X σ tgt lv st A) (kf : ¬ (y0 < x) → bh_J em y cc ws ret NL FR LO X σ (pc + 3) lv st B) : bh_J em y cc ws ret NL FR LO X σ pc lv (.int y0 :: .int x :: st) (if y0 < x then A else B) := by
  by_cases hq : y0 < x
  · rw [if_pos hq]
    intro r σ' hres
    obtain ⟨hm, hk⟩ := kt hq r σ' hres
    refine ⟨hm, fun hC => ?_⟩
    have hk := hk hC
    obtain ⟨l, p, e, s, m, args, below, meth, c, D, cy, base, e0, z0, n0⟩ := X
    obtain ⟨hx, hb, hml, hown, hts, hrt, hlk, hnm, hE⟩ := hC
    intro h0 h1 H locs ls hR hS hl
    exact lv_icmp_gt hx hb hdg ht (fun _ => hk h0 h1 H locs ls hR hS hl) (fun h9 => absurd hq h9)
  · rw [if_neg hq]
    intro r σ' hres
    obtain ⟨hm, hk⟩ := kf hq r σ' hres
    refine ⟨hm, fun hC => ?_⟩
    have hk := hk hC
    obtain ⟨l, p, e, s, m, args, below, meth, c, D, cy, base, e0, z0, n0⟩ := X
    obtain ⟨hx, hb, hml, hown, hts, hrt, hlk, hnm, hE⟩ := hC
    intro h0 h1 H locs ls hR hS hl
    exact lv_icmp_gt hx hb hdg ht (fun h9 => absurd h9 hq) (fun _ => hk h0 h1 H locs ls hR hS hl)
theorem bj_icmp_le {x y0 : Int32} {off : Int} {tgt : Nat} {A B : Option (α × bh_S)} (hdg : decode cc pc = .ok (.if_icmp .le off, 3)) (ht : (pc : Int) + off = (tgt : Int)) (kt : x ≤ y0 → bh_J em y cc ws ret NL FR LO X σ tgt lv st A) (kf : ¬ (x ≤ y0) → bh_J em y cc ws ret NL FR LO X σ (pc + 3) lv st B) : bh_J em y cc ws ret NL FR LO X σ pc lv (.int y0 :: .int x :: st) (if x ≤ y0 then A else B) := by
  by_cases hq : x ≤ y0
  · rw [if_pos hq]
    intro r σ' hres
    obtain ⟨hm, hk⟩ := kt hq r σ' hres
    refine ⟨hm, fun hC => ?_⟩
    have hk := hk hC
    obtain ⟨l, p, e, s, m, args, below, meth, c, D, cy, base, e0, z0, n0⟩ := X
    obtain ⟨hx, hb, hml, hown, hts, hrt, hlk, hnm, hE⟩ := hC
    intro h0 h1 H locs ls hR hS hl
    exact lv_icmp_le hx hb hdg ht (fun _ => hk h0 h1 H locs ls hR hS hl) (fun h9 => absurd hq h9)
  · rw [if_neg hq]
    intro r σ' hres
    obtain ⟨hm, hk⟩ := kf hq r σ' hres
    refine ⟨hm, fun hC => ?_⟩
    have hk := hk hC
    obtain ⟨l, p, e, s, m, args, below, meth, c, D, cy, base, e0, z0, n0⟩ := X
    obtain ⟨hx, hb, hml, hown, hts, hrt, hlk, hnm, hE⟩ := hC
    intro h0 h1 H locs ls hR hS hl
    exact lv_icmp_le hx hb hdg ht (fun h9 => absurd h9 hq) (fun _ => hk h0 h1 H locs ls hR hS hl)
theorem bj_acmp_eq {rx ry : Option Nat} {off : Int} {tgt : Nat} {A B : Option (α × bh_S)} (hdg : decode cc pc = .ok (.if_acmp .eq off, 3)) (ht : (pc : Int) + off = (tgt : Int)) (kt : rx = ry → bh_J em y cc ws ret NL FR LO X σ tgt lv st A) (kf : ¬ (rx = ry) → bh_J em y cc ws ret NL FR LO X σ (pc + 3) lv st B) : bh_J em y cc ws ret NL FR LO X σ pc lv (va_rf ry :: va_rf rx :: st) (if rx = ry then A else B) := by
  by_cases hq : rx = ry
  · rw [if_pos hq]
    intro r σ' hres
    obtain ⟨hm, hk⟩ := kt hq r σ' hres
    refine ⟨hm, fun hC => ?_⟩
    have hk := hk hC
    obtain ⟨l, p, e, s, m, args, below, meth, c, D, cy, base, e0, z0, n0⟩ := X
    obtain ⟨hx, hb, hml, hown, hts, hrt, hlk, hnm, hE⟩ := hC
    intro h0 h1 H locs ls hR hS hl
    exact lv_acmp_eq hx hb hdg ht (fun _ => hk h0 h1 H locs ls hR hS hl) (fun h9 => absurd hq h9)
  · rw [if_neg hq]
    intro r σ' hres
    obtain ⟨hm, hk⟩ := kf hq r σ' hres
    refine ⟨hm, fun hC => ?_⟩
    have hk := hk hC
    obtain ⟨l, p, e, s, m, args, below, meth, c, D, cy, base, e0, z0, n0⟩ := X
    obtain ⟨hx, hb, hml, hown, hts, hrt, hlk, hnm, hE⟩ := hC
    intro h0 h1 H locs ls hR hS hl
    exact lv_acmp_eq hx hb hdg ht (fun h9 => absurd h9 hq) (fun _ => hk h0 h1 H locs ls hR hS hl)
theorem bj_if_ne {x : Int32} {off : Int} {tgt : Nat} {A B : Option (α × bh_S)} (hdg : decode cc pc = .ok (.ifCond .ne off, 3)) (ht : (pc : Int) + off = (tgt : Int)) (kt : ¬ (x = 0) → bh_J em y cc ws ret NL FR LO X σ tgt lv st B) (kf : x = 0 → bh_J em y cc ws ret NL FR LO X σ (pc + 3) lv st A) : bh_J em y cc ws ret NL FR LO X σ pc lv (.int x :: st) (if x = 0 then A else B) := by
  by_cases hq : x = 0
  · rw [if_pos hq]
    intro r σ' hres
    obtain ⟨hm, hk⟩ := kf hq r σ' hres
    refine ⟨hm, fun hC => ?_⟩
    have hk := hk hC
    obtain ⟨l, p, e, s, m, args, below, meth, c, D, cy, base, e0, z0, n0⟩ := X
    obtain ⟨hx, hb, hml, hown, hts, hrt, hlk, hnm, hE⟩ := hC
    intro h0 h1 H locs ls hR hS hl
    exact lv_if_ne hx hb hdg ht (fun h9 => absurd hq h9) (fun _ => hk h0 h1 H locs ls hR hS hl)
  · rw [if_neg hq]
    intro r σ' hres
    obtain ⟨hm, hk⟩ := kt hq r σ' hres
    refine ⟨hm, fun hC => ?_⟩
    have hk := hk hC
    obtain ⟨l, p, e, s, m, args, below, meth, c, D, cy, base, e0, z0, n0⟩ := X
    obtain ⟨hx, hb, hml, hown, hts, hrt, hlk, hnm, hE⟩ := hC
    intro h0 h1 H locs ls hR hS hl
    exact lv_if_ne hx hb hdg ht (fun _ => hk h0 h1 H locs ls hR hS hl) (fun h9 => absurd h9 hq)
theorem bj_icmp_ne {x y0 : Int32} {off : Int} {tgt : Nat} {A B : Option (α × bh_S)} (hdg : decode cc pc = .ok (.if_icmp .ne off, 3)) (ht : (pc : Int) + off = (tgt : Int)) (kt : ¬ (x = y0) → bh_J em y cc ws ret NL FR LO X σ tgt lv st B) (kf : x = y0 → bh_J em y cc ws ret NL FR LO X σ (pc + 3) lv st A) : bh_J em y cc ws ret NL FR LO X σ pc lv (.int y0 :: .int x :: st) (if x = y0 then A else B) := by
  by_cases hq : x = y0
  · rw [if_pos hq]
    intro r σ' hres
    obtain ⟨hm, hk⟩ := kf hq r σ' hres
    refine ⟨hm, fun hC => ?_⟩
    have hk := hk hC
    obtain ⟨l, p, e, s, m, args, below, meth, c, D, cy, base, e0, z0, n0⟩ := X
    obtain ⟨hx, hb, hml, hown, hts, hrt, hlk, hnm, hE⟩ := hC
    intro h0 h1 H locs ls hR hS hl
    exact lv_icmp_ne hx hb hdg ht (fun h9 => absurd hq h9) (fun _ => hk h0 h1 H locs ls hR hS hl)
  · rw [if_neg hq]
    intro r σ' hres
    obtain ⟨hm, hk⟩ := kt hq r σ' hres
    refine ⟨hm, fun hC => ?_⟩
    have hk := hk hC
    obtain ⟨l, p, e, s, m, args, below, meth, c, D, cy, base, e0, z0, n0⟩ := X
    obtain ⟨hx, hb, hml, hown, hts, hrt, hlk, hnm, hE⟩ := hC
    intro h0 h1 H locs ls hR hS hl
    exact lv_icmp_ne hx hb hdg ht (fun _ => hk h0 h1 H locs ls hR hS hl) (fun h9 => absurd h9 hq)
theorem bj_acmp_ne {rx ry : Option Nat} {off : Int} {tgt : Nat} {A B : Option (α × bh_S)} (hdg : decode cc pc = .ok (.if_acmp .ne off, 3)) (ht : (pc : Int) + off = (tgt : Int)) (kt : ¬ (rx = ry) → bh_J em y cc ws ret NL FR LO X σ tgt lv st B) (kf : rx = ry → bh_J em y cc ws ret NL FR LO X σ (pc + 3) lv st A) : bh_J em y cc ws ret NL FR LO X σ pc lv (va_rf ry :: va_rf rx :: st) (if rx = ry then A else B) := by
  by_cases hq : rx = ry
  · rw [if_pos hq]
    intro r σ' hres
    obtain ⟨hm, hk⟩ := kf hq r σ' hres
    refine ⟨hm, fun hC => ?_⟩
    have hk := hk hC
    obtain ⟨l, p, e, s, m, args, below, meth, c, D, cy, base, e0, z0, n0⟩ := X
    obtain ⟨hx, hb, hml, hown, hts, hrt, hlk, hnm, hE⟩ := hC
    intro h0 h1 H locs ls hR hS hl
    exact lv_acmp_ne hx hb hdg ht (fun h9 => absurd hq h9) (fun _ => hk h0 h1 H locs ls hR hS hl)
  · rw [if_neg hq]
    intro r σ' hres
    obtain ⟨hm, hk⟩ := kt hq r σ' hres
    refine ⟨hm, fun hC => ?_⟩
    have hk := hk hC
    obtain ⟨l, p, e, s, m, args, below, meth, c, D, cy, base, e0, z0, n0⟩ := X
    obtain ⟨hx, hb, hml, hown, hts, hrt, hlk, hnm, hE⟩ := hC
    intro h0 h1 H locs ls hR hS hl
    exact lv_acmp_ne hx hb hdg ht (fun _ => hk h0 h1 H locs ls hR hS hl) (fun h9 => absurd h9 hq)
/-- null or not -/
def bh_cs {β : Type} (o : Option Nat) (A : β) (B : Nat → β) : β := match o with
  | none => A
  | some a => B a
theorem bj_ifnull {o : Option Nat} {off : Int} {tgt : Nat} {A : Option (α × bh_S)} {B : Nat → Option (α × bh_S)} (hdg : decode cc pc = .ok (.ifnull off, 3)) (ht : (pc : Int) + off = (tgt : Int)) (kn : o = none → bh_J em y cc ws ret NL FR LO X σ tgt lv st A) (ks : ∀ a : Nat, o = some a → bh_J em y cc ws ret NL FR LO X σ (pc + 3) lv st (B a)) : bh_J em y cc ws ret NL FR LO X σ pc lv (va_rf o :: st) (bh_cs o A B) := by
  cases o with
  | none =>
    intro r σ' hres
    obtain ⟨hm, hk⟩ := kn rfl r σ' hres
    refine ⟨hm, fun hC => ?_⟩
    have hk := hk hC
    obtain ⟨l, p, e, s, m, args, below, meth, c, D, cy, base, e0, z0, n0⟩ := X
    obtain ⟨hx, hb, hml, hown, hts, hrt, hlk, hnm, hE⟩ := hC
    intro h0 h1 H locs ls hR hS hl
    exact lv_ifnullN hx hb hdg ht (hk h0 h1 H locs ls hR hS hl)
  | some a =>
    intro r σ' hres
    obtain ⟨hm, hk⟩ := ks a rfl r σ' hres
    refine ⟨hm, fun hC => ?_⟩
    have hk := hk hC
    obtain ⟨l, p, e, s, m, args, below, meth, c, D, cy, base, e0, z0, n0⟩ := X
    obtain ⟨hx, hb, hml, hown, hts, hrt, hlk, hnm, hE⟩ := hC
    intro h0 h1 H locs ls hR hS hl
    exact lv_ifnull hx hb hdg (hk h0 h1 H locs ls hR hS hl)
theorem bj_ifnonnull {o : Option Nat} {off : Int} {tgt : Nat} {A : Option (α × bh_S)} {B : Nat → Option (α × bh_S)} (hdg : decode cc pc = .ok (.ifnonnull off, 3)) (ht : (pc : Int) + off = (tgt : Int)) (kn : o = none → bh_J em y cc ws ret NL FR LO X σ (pc + 3) lv st A) (ks : ∀ a : Nat, o = some a → bh_J em y cc ws ret NL FR LO X σ tgt lv st (B a)) : bh_J em y cc ws ret NL FR LO X σ pc lv (va_rf o :: st) (bh_cs o A B) := by
  cases o with
  | none =>
    intro r σ' hres
    obtain ⟨hm, hk⟩ := kn rfl r σ' hres
    refine ⟨hm, fun hC => ?_⟩
    have hk := hk hC
    obtain ⟨l, p, e, s, m, args, below, meth, c, D, cy, base, e0, z0, n0⟩ := X
    obtain ⟨hx, hb, hml, hown, hts, hrt, hlk, hnm, hE⟩ := hC
    intro h0 h1 H locs ls hR hS hl
    exact lv_ifnonnullN hx hb hdg (hk h0 h1 H locs ls hR hS hl)
  | some a =>
    intro r σ' hres
    obtain ⟨hm, hk⟩ := ks a rfl r σ' hres
    refine ⟨hm, fun hC => ?_⟩
    have hk := hk hC
    obtain ⟨l, p, e, s, m, args, below, meth, c, D, cy, base, e0, z0, n0⟩ := X
    obtain ⟨hx, hb, hml, hown, hts, hrt, hlk, hnm, hE⟩ := hC
    intro h0 h1 H locs ls hR hS hl
    exact lv_ifnonnull hx hb hdg ht (hk h0 h1 H locs ls hR hS hl)
theorem bj_iret {v : Int32} (hdg : decode cc pc = .ok (.ireturn, 1)) : bh_J eI y cc ws (some .int) NL FR LO X σ pc lv [.int v] (some (v, σ)) := by
  intro r σ' hres
  cases hres
  refine ⟨⟨Nat.le_refl _, Nat.le_refl _⟩, fun hC => ?_⟩
  obtain ⟨l, p, e, s, m, args, below, meth, c, D, cy, base, e0, z0, n0⟩ := X
  obtain ⟨hx, hb, hml, hown, hts, hrt, hlk, hnm, hE⟩ := hC
  intro h0 h1 H locs ls hR hS hl
  exact W.iret hx hb hrt (fun t ht hW => ⟨rfl, by rw [ht]; exact hR, hS.F ht⟩) hS.2.2 hdg hlk
theorem bj_zret {v : Int32} (hdg : decode cc pc = .ok (.ireturn, 1)) : bh_J eI y cc ws (some .boolean) NL FR LO X σ pc lv [.int v] (bh_retZ σ v) := by
  intro r σ' hres
  unfold bh_retZ at hres
  split at hres
  case isFalse => cases hres
  rename_i hv
  cases hres
  refine ⟨⟨Nat.le_refl _, Nat.le_refl _⟩, fun hC => ?_⟩
  obtain ⟨l, p, e, s, m, args, below, meth, c, D, cy, base, e0, z0, n0⟩ := X
  obtain ⟨hx, hb, hml, hown, hts, hrt, hlk, hnm, hE⟩ := hC
  intro h0 h1 H locs ls hR hS hl
  exact W.zret hx hb hrt (by rcases hv with rfl | rfl <;> rfl) (fun t ht hW => ⟨rfl, by rw [ht]; exact hR, hS.F ht⟩) hS.2.2 hdg hlk
theorem bj_vret (hdg : decode cc pc = .ok (.return_, 1)) : bh_J eU y cc ws none NL FR LO X σ pc lv [] (some ((), σ)) := by
  intro r σ' hres
  cases hres
  refine ⟨⟨Nat.le_refl _, Nat.le_refl _⟩, fun hC => ?_⟩
  obtain ⟨l, p, e, s, m, args, below, meth, c, D, cy, base, e0, z0, n0⟩ := X
  obtain ⟨hx, hb, hml, hown, hts, hrt, hlk, hnm, hE⟩ := hC
  intro h0 h1 H locs ls hR hS hl
  exact W.vret hx hb hrt (fun t ht hW => ⟨rfl, by rw [ht]; exact hR, hS.F ht⟩) hS.2.2 hdg hlk
theorem bj_aret {o : Option Nat} {rt : FieldType} (hdg : decode cc pc = .ok (.areturn, 1)) (h9 : (∃ n, rt = .object n) ∨ ∃ t, rt = .array t) : bh_J eR y cc ws (some rt) NL FR LO X σ pc lv [va_rf o] (some (o, σ)) := by
  intro r σ' hres
  cases hres
  refine ⟨⟨Nat.le_refl _, Nat.le_refl _⟩, fun hC => ?_⟩
  obtain ⟨l, p, e, s, m, args, below, meth, c, D, cy, base, e0, z0, n0⟩ := X
  obtain ⟨hx, hb, hml, hown, hts, hrt, hlk, hnm, hE⟩ := hC
  intro h0 h1 H locs ls hR hS hl
  exact W.aret hx hb hrt h9 (va_rf_or o) (fun t ht hW => ⟨rfl, by rw [ht]; exact hR, hS.F ht⟩) hS.2.2 hdg hlk
theorem bh_enterF {ws' : List Cond} {av : List Value} (hy : plainFor y = true) (hw : ws = Cond.code y cc NL ret :: ws') (hlen : (lg_sl av).length ≤ NL) (body : ∀ X' : bh_X, bh_J em y cc ws ret NL FR LO X' σ 0 (lv_args 0 av) [] res) : bh_MX em X y ws FR LO av σ res := by
  intro r σ' hres
  refine ⟨(body X r σ' hres).1, ?_⟩
  obtain ⟨l, p0, e0', s0, m0, args0, below0, meth0, c0, D, cy, base, e0, z0, n0⟩ := X
  refine va_MetF (cc := cc) (maxL := NL) (ret := ret) hy hw ?_
  intro p e s m args below meth c s₁ B hml hv
  obtain ⟨rfl, hE, hR⟩ := hv
  have h := (body (l, p, e, s, m, av.toArray, below, meth, c, D, cy, base, e0, bh_z σ, bh_n σ) r σ' hres).2 ⟨B.exec, B.bytes, hml, findClass_of_methodNamed B.named, atoms_spec (ws := ws) B.pre, B.returns, B.notSynchronized, (name_of_methodNamed B.named B.method).1, hE⟩ (Nat.le_refl _) (Nat.le_refl _) s.heap [] _ hR va_S.rf (lv_entry av hlen)
  rw [Nat.sub_self, Nat.sub_self] at h
  rw [lg_entry_eq]
  exact h
end BHJ
def bh_nz (y : Int32) : Option Unit := if y = 0 then none else some ()
def bh_nzL (y : Int64) : Option Unit := if y = 0 then none else some ()
theorem bh_nz_spec {y : Int32} {u : Unit} (h : bh_nz y = some u) : ¬ y = 0 := by
  unfold bh_nz at h
  split at h
  · cases h
  · assumption
theorem bh_nzL_spec {y : Int64} {u : Unit} (h : bh_nzL y = some u) : ¬ y = 0 := by
  unfold bh_nzL at h
  split at h
  · cases h
  · assumption
/-- an object of kind c -/
def bh_ck (σ : bh_S) (a c : Nat) : Option Unit := if bh_K σ a = c then some () else none
theorem bh_ck_spec {σ : bh_S} {a c : Nat} {u : Unit} (h : bh_ck σ a c = some u) : bh_K σ a = c := by
  unfold bh_ck at h
  split at h
  · assumption
  · cases h
theorem bh_cat (o : Option Nat) : (va_rf o).category = 1 := by cases o <;> rfl
def bh_fl (ws : List Cond) (own : String) (index : Nat) (ref name desc : String) : Prop := Cond.fieldLink own index ref name desc ∈ ws ∨ ∃ host, Cond.fieldLinkNest own index ref name desc host ∈ bh_nest
section BHR
variable {D : va_G} {cy : Nat → ClassId} {base e0 : Nat} {σ σ' : bh_S} {H H1 : Heap} {a : Nat}
theorem bh_Rep.obj (hR : bh_Rep D cy base e0 σ H) {ci : Nat} (hk : bh_K σ a = ci) {r : vw_C} (hr : vwCl[ci]? = some r) : base ≤ a ∧ t_OB a (D.1 ci) r.2.2 (D.2 ci) H (bh_V σ ci a) := by
  have h12 : ci < 12 := (List.getElem?_eq_some_iff.mp hr).1
  subst hk
  obtain ⟨h1, h2, -, -⟩ := hR.2.2 a (by omega)
  exact ⟨by rcases h1 with h | h; exact h; omega, h2 r hr⟩
theorem bh_Rep.ints (hR : bh_Rep D cy base e0 σ H) {ci : Nat} (hk : bh_K σ a = ci) (hr : ci = 12 ∨ ci = 13) : (base ≤ a ∨ bh_L σ a = 0) ∧ H[a]? = some (arrV (cy ci) (bh_L σ a) (fun j => .int (bh_I σ ci a j))) := by
  subst hk
  obtain ⟨h1, -, h3, -⟩ := hR.2.2 a (by omega)
  exact ⟨by rcases h1 with h | h; exact Or.inl h; exact Or.inr h.1, h3 hr⟩
theorem bh_Rep.refs (hR : bh_Rep D cy base e0 σ H) {ci : Nat} (hk : bh_K σ a = ci) (hr : 14 ≤ ci) (hr2 : ci < 18) : (base ≤ a ∨ bh_L σ a = 0) ∧ H[a]? = some (arrV (cy ci) (bh_L σ a) (fun j => va_rf (bh_R σ ci a j))) := by
  subst hk
  obtain ⟨h1, -, -, h4⟩ := hR.2.2 a (by omega)
  exact ⟨by rcases h1 with h | h; exact Or.inl h; exact Or.inr h.1, h4 hr⟩
theorem bh_Rep.set (hR : bh_Rep D cy base e0 σ H) (hK : bh_K σ' = bh_K σ) (hL : bh_L σ' = bh_L σ) (hz : bh_z σ' = bh_z σ) (he : bh_e σ' = bh_e σ) (hI : ∀ c q k, q ≠ a → bh_I σ' c q k = bh_I σ c q k) (hRR : ∀ c q k, q ≠ a → bh_R σ' c q k = bh_R σ c q k) (hsz : H1.size = H.size) (oq : ∀ q : Nat, q ≠ a → H1[q]? = H[q]?) (hat : bh_at D cy σ' H1 a) : bh_Rep D cy base e0 σ' H1 := by
  obtain ⟨g1, g2, g3⟩ := hR
  refine ⟨by rw [hsz, hz]; exact g1, by rw [he]; exact g2, fun q hq => ?_⟩
  rw [hK] at hq
  obtain ⟨b1, b2, b3, b4⟩ := g3 q hq
  refine ⟨by rw [hK, hL]; exact b1, ?_⟩
  by_cases hqa : q = a
  · subst hqa
    exact hat
  · refine ⟨?_, ?_, ?_⟩
    · intro r hr
      rw [hK] at hr ⊢
      refine ((b2 r hr).kept (oq q hqa)).to (fun j _ => ?_)
      simp only [bh_V, hI _ _ _ hqa, hRR _ _ _ hqa]
    · intro h
      rw [hK] at h ⊢
      rw [oq q hqa, b3 h, hL]
      simp only [hI _ _ _ hqa]
    · intro h
      rw [hK] at h ⊢
      rw [oq q hqa, b4 h, hL]
      simp only [hRR _ _ _ hqa]
theorem bh_Rep.putI (hR : bh_Rep D cy base e0 σ H) {ci k : Nat} {x : Int32} (hk : bh_K σ a = ci) {r : vw_C} (hr : vwCl[ci]? = some r) (hi : bh_isR ci k = false) (hsz : H1.size = H.size) (oq : ∀ q : Nat, q ≠ a → H1[q]? = H[q]?) (hO : t_OB a (D.1 ci) r.2.2 (D.2 ci) H1 (updV (bh_V σ ci a) k (.int x))) : bh_Rep D cy base e0 (bh_setI σ ci a k x) H1 := by
  have h12 : ci < 12 := (List.getElem?_eq_some_iff.mp hr).1
  refine hR.set (σ' := bh_setI σ ci a k x) (a := a) rfl rfl rfl rfl (fun c q k' hq => ?_) (fun _ _ _ _ => rfl) hsz oq ?_
  · show (if c = ci ∧ q = a ∧ k' = k then x else _) = _
    rw [if_neg (fun h => hq h.2.1)]; rfl
  · subst hk
    refine ⟨fun r' hr' => ?_, fun h => ?_, fun h => ?_⟩
    · cases hr.symm.trans hr'
      refine hO.to (fun j _ => ?_)
      show updV (bh_V σ (bh_K σ a) a) k (.int x) j = bh_V (bh_setI σ (bh_K σ a) a k x) (bh_K σ a) a j
      unfold updV bh_V
      by_cases hj : j = k
      · subst hj
        rw [if_pos rfl, if_neg (by rw [hi]; decide)]
        show _ = Value.int (if bh_K σ a = bh_K σ a ∧ a = a ∧ j = j then x else _)
        rw [if_pos ⟨rfl, rfl, rfl⟩]
      · rw [if_neg hj]
        show _ = if _ then va_rf (bh_R σ _ a j) else Value.int (if bh_K σ a = bh_K σ a ∧ a = a ∧ j = k then x else bh_I σ (bh_K σ a) a j)
        have e9 : (if bh_K σ a = bh_K σ a ∧ a = a ∧ j = k then x else bh_I σ (bh_K σ a) a j) = bh_I σ (bh_K σ a) a j := if_neg (fun h => hj h.2.2)
        rw [e9]
    · change bh_K σ a = 12 ∨ bh_K σ a = 13 at h
      omega
    · change 14 ≤ bh_K σ a at h
      omega
theorem bh_Rep.putR (hR : bh_Rep D cy base e0 σ H) {ci k : Nat} {x : Option Nat} (hk : bh_K σ a = ci) {r : vw_C} (hr : vwCl[ci]? = some r) (hi : bh_isR ci k = true) (hsz : H1.size = H.size) (oq : ∀ q : Nat, q ≠ a → H1[q]? = H[q]?) (hO : t_OB a (D.1 ci) r.2.2 (D.2 ci) H1 (updV (bh_V σ ci a) k (va_rf x))) : bh_Rep D cy base e0 (bh_setR σ ci a k x) H1 := by
  have h12 : ci < 12 := (List.getElem?_eq_some_iff.mp hr).1
  refine hR.set (σ' := bh_setR σ ci a k x) (a := a) rfl rfl rfl rfl (fun _ _ _ _ => rfl) (fun c q k' hq => ?_) hsz oq ?_
  · show (if c = ci ∧ q = a ∧ k' = k then x else _) = _
    rw [if_neg (fun h => hq h.2.1)]; rfl
  · subst hk
    refine ⟨fun r' hr' => ?_, fun h => ?_, fun h => ?_⟩
    · cases hr.symm.trans hr'
      refine hO.to (fun j _ => ?_)
      show updV (bh_V σ (bh_K σ a) a) k (va_rf x) j = bh_V (bh_setR σ (bh_K σ a) a k x) (bh_K σ a) a j
      unfold updV bh_V
      by_cases hj : j = k
      · subst hj
        rw [if_pos rfl, if_pos hi]
        show _ = va_rf (if bh_K σ a = bh_K σ a ∧ a = a ∧ j = j then x else _)
        rw [if_pos ⟨rfl, rfl, rfl⟩]
      · rw [if_neg hj]
        show _ = if _ then va_rf (if bh_K σ a = bh_K σ a ∧ a = a ∧ j = k then x else bh_R σ (bh_K σ a) a j) else Value.int (bh_I σ _ a j)
        have e9 : (if bh_K σ a = bh_K σ a ∧ a = a ∧ j = k then x else bh_R σ (bh_K σ a) a j) = bh_R σ (bh_K σ a) a j := if_neg (fun h => hj h.2.2)
        rw [e9]
    · change bh_K σ a = 12 ∨ bh_K σ a = 13 at h
      omega
    · change 14 ≤ bh_K σ a at h
      omega
theorem bh_Rep.stI (hR : bh_Rep D cy base e0 σ H) {ci k : Nat} {x : Int32} (hk : bh_K σ a = ci) (hr : ci = 12 ∨ ci = 13) (hsz : H1.size = H.size) (oq : ∀ q : Nat, q ≠ a → H1[q]? = H[q]?) (hO : H1[a]? = some (arrV (cy ci) (bh_L σ a) (updV (fun j => .int (bh_I σ ci a j)) k (.int x)))) : bh_Rep D cy base e0 (bh_setI σ ci a k x) H1 := by
  refine hR.set (σ' := bh_setI σ ci a k x) (a := a) rfl rfl rfl rfl (fun c q k' hq => ?_) (fun _ _ _ _ => rfl) hsz oq ?_
  · show (if c = ci ∧ q = a ∧ k' = k then x else _) = _
    rw [if_neg (fun h => hq h.2.1)]; rfl
  · subst hk
    refine ⟨fun r' hr' => ?_, fun _ => ?_, fun h => ?_⟩
    · have h12 : bh_K σ a < 12 := (List.getElem?_eq_some_iff.mp hr').1
      omega
    · refine hO.trans ?_
      refine congrArg some (congrArg (arrV _ _) (funext fun j => ?_))
      unfold updV
      show _ = Value.int (if bh_K σ a = bh_K σ a ∧ a = a ∧ j = k then x else bh_I σ (bh_K σ a) a j)
      by_cases hj : j = k
      · rw [if_pos hj, if_pos ⟨rfl, rfl, hj⟩]
      · rw [if_neg hj, if_neg (fun h => hj h.2.2)]
    · change 14 ≤ bh_K σ a at h
      omega
theorem bh_Rep.stR (hR : bh_Rep D cy base e0 σ H) {ci k : Nat} {x : Option Nat} (hk : bh_K σ a = ci) (hr : 14 ≤ ci) (hsz : H1.size = H.size) (oq : ∀ q : Nat, q ≠ a → H1[q]? = H[q]?) (hO : H1[a]? = some (arrV (cy ci) (bh_L σ a) (updV (fun j => va_rf (bh_R σ ci a j)) k (va_rf x)))) : bh_Rep D cy base e0 (bh_setR σ ci a k x) H1 := by
  refine hR.set (σ' := bh_setR σ ci a k x) (a := a) rfl rfl rfl rfl (fun _ _ _ _ => rfl) (fun c q k' hq => ?_) hsz oq ?_
  · show (if c = ci ∧ q = a ∧ k' = k then x else _) = _
    rw [if_neg (fun h => hq h.2.1)]; rfl
  · subst hk
    refine ⟨fun r' hr' => ?_, fun h => ?_, fun _ => ?_⟩
    · have h12 : bh_K σ a < 12 := (List.getElem?_eq_some_iff.mp hr').1
      omega
    · change bh_K σ a = 12 ∨ bh_K σ a = 13 at h
      omega
    · refine hO.trans ?_
      refine congrArg some (congrArg (arrV _ _) (funext fun j => ?_))
      unfold updV
      show _ = va_rf (if bh_K σ a = bh_K σ a ∧ a = a ∧ j = k then x else bh_R σ (bh_K σ a) a j)
      by_cases hj : j = k
      · rw [if_pos hj, if_pos ⟨rfl, rfl, hj⟩]
      · rw [if_neg hj, if_neg (fun h => hj h.2.2)]
/-- a new cell at the end -/
theorem bh_Rep.new (hR : bh_Rep D cy base e0 σ H) (hb : base ≤ H.size) {c N n : Nat} (hsz : H1.size = H.size + 1) (oq : ∀ q : Nat, q < H.size → H1[q]? = H[q]?) (hat : bh_at D cy (bh_new σ c N n) H1 H.size) : bh_Rep D cy base e0 (bh_new σ c N n) H1 := by
  obtain ⟨g1, g2, g3⟩ := hR
  refine ⟨by rw [hsz, g1]; rfl, g2, fun q hq => ?_⟩
  by_cases hqa : q = H.size
  · subst hqa
    exact ⟨Or.inl hb, hat⟩
  · have hqz : q ≠ bh_z σ := by rw [← g1]; exact hqa
    have eK : bh_K (bh_new σ c N n) q = bh_K σ q := if_neg hqz
    have eL : bh_L (bh_new σ c N n) q = bh_L σ q := if_neg hqz
    have eI' : ∀ c' k', bh_I (bh_new σ c N n) c' q k' = bh_I σ c' q k' := fun c' k' => if_neg (fun h => hqz h.2)
    have eR' : ∀ c' k', bh_R (bh_new σ c N n) c' q k' = bh_R σ c' q k' := fun c' k' => if_neg (fun h => hqz h.2)
    rw [eK] at hq
    obtain ⟨b1, b2, b3, b4⟩ := g3 q hq
    have hlt : q < H.size := by
      by_cases h1 : bh_K σ q < 12
      · have hv : ∃ r, vwCl[bh_K σ q]? = some r := ⟨_, List.getElem?_eq_getElem (show bh_K σ q < vwCl.length from h1)⟩
        obtain ⟨r, hr⟩ := hv
        obtain ⟨cell, h, -⟩ := b2 r hr
        exact (Array.getElem?_eq_some_iff.mp h).1
      · by_cases h2 : bh_K σ q = 12 ∨ bh_K σ q = 13
        · exact (Array.getElem?_eq_some_iff.mp (b3 h2)).1
        · exact (Array.getElem?_eq_some_iff.mp (b4 (by omega))).1
    refine ⟨by rw [eK, eL]; exact b1, ?_, ?_, ?_⟩
    · intro r hr
      rw [eK] at hr ⊢
      refine ((b2 r hr).kept (oq q hlt)).to (fun j _ => ?_)
      simp only [bh_V, eI', eR']
    · intro h
      rw [eK] at h ⊢
      rw [oq q hlt, b3 h, eL]
      simp only [eI']
    · intro h
      rw [eK] at h ⊢
      rw [oq q hlt, b4 h, eL]
      simp only [eR']
end BHR
section BHW
variable {p : Program} {l : Launch} {e : Env} {R : Room} {s : State} {m : MethodId} {args : Array Value} {below : List Frame} {meth : Method} {c : Code} {H : Heap} {locs : List Loc} {cells slots : Nat} {Q : State → Prop} {cc : ByteArray} {pc : Nat} {ls : Array Slot} {rest : List Value} {D : va_G} {cy : Nat → ClassId} {base e0 : Nat} {ws : List Cond} {own ref C : String} {T : u_T} {N ci index k a : Nat} {V : Nat → Value}
theorem bh_found (hts : ∀ w ∈ ws, w.before args s = true) (hin : ∀ w ∈ u_ws C T N, w ∈ ws) (hE : bh_Env D cy base e0 s) (hc : vwCl[ci]? = some (C, T, N)) (hk : k < N) (hsame : ref = (T k).1 ∨ Cond.sameField ref (T k).1 (T k).2.1 (T k).2.2.1 ∈ ws) :
    ∃ (cf : Nat) (kf : Class) (fi : Nat) (f : Field), s.fieldFound? (T k).1 (T k).2.1 (T k).2.2.1 = some (cf, kf, fi, f) ∧ s.fieldFound? ref (T k).2.1 (T k).2.2.1 = some (cf, kf, fi, f) ∧ f.isStatic = false ∧ f.slot = D.2 ci k := by
  obtain ⟨hS, hfc, kC, hkC, hkind⟩ := hE.1.1 ci _ hc
  obtain ⟨cf, kf, fi, f, hi, hsl⟩ := hS k hk
  refine ⟨cf, kf, fi, f, hi, ?_, (u_facts hfc hkC (u_lays hts hin hk) hi).1, hsl⟩
  rcases hsame with rfl | h
  · exact hi
  · exact u_same (hts _ h) _ hi
theorem bh_Wget (hexec : p.tables.exec = Jvm.exec) (hb : c.code = cc) (hts : ∀ w ∈ ws, w.before args s = true) (hin : ∀ w ∈ u_ws C T N, w ∈ ws) (hown : s.vm.findClass own = some m.cls) (hE : bh_Env D cy base e0 s) (hc : vwCl[ci]? = some (C, T, N)) (hk : k < N) (hlink : bh_fl ws own index ref (T k).2.1 (T k).2.2.1) (hsame : ref = (T k).1 ∨ Cond.sameField ref (T k).1 (T k).2.1 (T k).2.2.1 ∈ ws) (hO : t_OB a (D.1 ci) N (D.2 ci) H V) (hdg : decode cc pc = .ok (.getfield index, 3))
    (kk : W p l e R s m args below meth c H locs cells slots Q (F0 m (pc + 3) ls (V k :: rest))) : W p l e R s m args below meth c H locs cells slots Q (F0 m pc ls (.ref a :: rest)) := by
  obtain ⟨cf, kf, fi, f, hi, hi', hst, hsl⟩ := bh_found hts hin hE hc hk hsame
  obtain ⟨cell, q1, q2, q3, q4⟩ := hO
  have hv : cell.slots[f.slot]? = some (V k) := by rw [hsl]; exact q4 k hk
  rcases hlink with h | ⟨host, h⟩
  · exact W.getf hexec hb hown (hts _ h) hi' hst q1 (by rw [q3]; exact fun h => by cases h) hv rfl rfl hdg kk
  · exact va_Wgetf hexec hb hown (va_Nw.use rfl (hE.2.1 _ h)) hi' hst q1 (by rw [q3]; exact fun h => by cases h) hv rfl rfl hdg kk
theorem bh_Wput (hexec : p.tables.exec = Jvm.exec) (hb : c.code = cc) (hts : ∀ w ∈ ws, w.before args s = true) (hin : ∀ w ∈ u_ws C T N, w ∈ ws) (ty0 : Nat → FieldType) (hty : ∀ k, k < N → parseFieldDescriptor (T k).2.2.1 = some (ty0 k)) (hnm : ∀ a, a < N → ∀ b, b < N → a ≠ b → (T a).2.1 ≠ (T b).2.1) (hown : s.vm.findClass own = some m.cls) (hE : bh_Env D cy base e0 s) (hc : vwCl[ci]? = some (C, T, N)) (hk : k < N) (hlink : bh_fl ws own index ref (T k).2.1 (T k).2.2.1) (hsame : ref = (T k).1 ∨ Cond.sameField ref (T k).1 (T k).2.1 (T k).2.2.1 ∈ ws)
    (hfin : (T k).2.2.2 = false ∨ ((T k).2.2.2 = true ∧ meth.name = "<init>" ∧ (T k).1 = own ∧ Cond.fieldLink own index ref (T k).2.1 (T k).2.2.1 ∈ ws)) {v : Value} (hn : narrow (ty0 k) v = v) (hfit : fits (ty0 k) v = true) (hO : t_OB a (D.1 ci) N (D.2 ci) H V) (hdg : decode cc pc = .ok (.putfield index, 3))
    (kk : ∀ (H1 : Heap) (L : List Loc), (∀ q ∈ L, q.base = a) → H1.size = H.size → (∀ q : Nat, q ≠ a → H1[q]? = H[q]?) → t_OB a (D.1 ci) N (D.2 ci) H1 (updV V k v) → W p l e R s m args below meth c H1 (locs ++ L) cells slots Q (F0 m (pc + 3) ls rest)) : W p l e R s m args below meth c H locs cells slots Q (F0 m pc ls (v :: .ref a :: rest)) := by
  obtain ⟨cf, kf, fi, f, hi, hi', hst, hsl⟩ := bh_found hts hin hE hc hk hsame
  have hap := va_apart (own := own) hts hin ty0 hty hnm hE.1 hc
  obtain ⟨hS, hfc, kC, hkC, hkind⟩ := hE.1.1 ci _ hc
  obtain ⟨cell, q1, q2, q3, q4⟩ := hO
  have hlt : f.slot < cell.slots.size := by rw [hsl]; exact k2_hasslot (q4 k hk)
  have key : ∀ H' : Heap, H'[a]? = some (cell.setSlot f.slot v) → H'.size = H.size → (∀ q, q ≠ a → H'[q]? = H[q]?) → W p l e R s m args below meth c H' (locs ++ [⟨a, f.slot⟩]) cells slots Q (F0 m (pc + 3) ls rest) := fun H' e1 e2 e3 => by
    rw [hsl] at e1
    exact kk H' _ (fun q hq => by rw [List.mem_singleton.mp hq]) e2 e3 ⟨_, e1, q2, q3, t_set q4 hap hk v⟩
  rcases hfin with hfin | ⟨hfin, hini, hdecl, hl9⟩
  · have hlay := hts _ (hin _ (u_in_lay hk))
    unfold u_lay at hlay
    rw [if_neg (by rw [hfin]; decide)] at hlay
    have h6 := u_store hfc hkC hkind hlay hi (hty k hk) hn hfit
    rcases hlink with h | ⟨host, h⟩
    · exact W.putK hexec hb (f := f) ⟨hown, hts _ h, ⟨_, _, _, hi'⟩, hst⟩ (by rw [q2]; exact h6) q1 q3 hlt rfl rfl hdg key
    · exact va_WputK hexec hb (f := f) hown (va_Nw.use rfl (hE.2.1 _ h)) hi' hst (by rw [q2]; exact h6) q1 q3 hlt rfl rfl hdg key
  · have hlay := hts _ (hin _ (u_in_lay hk))
    unfold u_lay at hlay
    rw [if_pos hfin] at hlay
    have hcf : m.cls = cf := by
      obtain ⟨_, _, c', _, _, _, -, -, hf', -, -, -, hown2, -⟩ := Cond.laysFinal_spec hlay
      have e1 : c' = cf := by have := hi.symm.trans hf'; simp at this; exact this.1.symm
      rw [hdecl] at hown2
      rw [← e1]; exact Option.some.inj (hown.symm.trans hown2)
    have h6 := u_fits hfc hkC hkind (Or.inr hlay) hi (hty k hk) hn hfit
    exact W.putFinK hexec hb hown (hts _ hl9) hi' hst hcf hini (by rw [q2]; exact h6) q1 q3 hlt rfl rfl hdg key
theorem bh_Wcall {mc ms : Nat} {st0 : List Value} {rv : Option Value} {σ1 : bh_S} {av : Array Value} {H0 : Heap} (hr : va_Run p l e R s m args below meth c H locs cells slots mc ms (F0 m pc ls st0) rest (bh_Q D cy base e0 rv σ1 av) (fun q => base ≤ q)) (hS : va_S (fun q => base ≤ q) H0 H locs)
    (kk : ∀ (H1 : Heap) (locs1 : List Loc), bh_Rep D cy base e0 σ1 H1 → va_S (fun q => base ≤ q) H0 H1 locs1 → W p l e R s m args below meth c H1 locs1 (cells + mc) (slots + ms) Q (F0 m (pc + 3) ls (rv.toList ++ rest))) : W p l e R s m args below meth c H locs cells slots Q (F0 m pc ls st0) := by
  intro T hT X
  obtain ⟨v, st₀, t, T', L, h0, X', hL, e1, e2, ⟨hv, hP, hz, hk⟩, st⟩ := hr T hT X
  cases hv
  rw [h0] at hz hk
  obtain ⟨t2, a1, b1⟩ := kk T'.heap (locs ++ L) (by rw [e1]; exact hP)
    ⟨Nat.le_trans hS.1 (by rw [e1]; exact hz), fun q h1 h2 => by rw [e1, hk q (Nat.lt_of_lt_of_le h1 hS.1) h2]; exact hS.2.1 q h1 h2, fun q hq => by
      rcases List.mem_append.mp hq with h | h
      · exact hS.2.2 q h
      · exact hL q h⟩ T' rfl X'
  exact ⟨t2, st t2 a1, b1⟩
end BHW
/-- the environment goes along: a callee's start -/
theorem bh_Env.moved {D : va_G} {cy : Nat → ClassId} {base e0 : Nat} {s U : State} {H : Heap} {locs : List Loc} (h : bh_Env D cy base e0 s) (hS : va_S (fun q => base ≤ q) s.heap H locs) (hU : U.heap = H) (hW : s.WarmedH U.vm) : bh_Env D cy base e0 U := by
  obtain ⟨h1, h2, h3, ⟨h4, h5, h6⟩, h7, ⟨mi, h8⟩, h9⟩ := h
  refine ⟨va_K.moved hW.alike h1, fun w hw => bh_Nw_warm (bh_nestN w hw) hW (h2 w hw), by rw [hU]; exact Nat.le_trans h3 hS.1, ⟨va_AO.moved hW.alike h4, va_AO.moved hW.alike h5, va_AO.moved hW.alike h6⟩, ?_, ⟨mi, va_Mi.moved hW.alike h8⟩, va_Dc.moved hW.alike h9⟩
  rw [hU]
  exact (va_Z.kept h7 hS.2.1).moved hW.alike
theorem bh_Env.blind {D : va_G} {cy : Nat → ClassId} {base e0 : Nat} {U : State} {g : JFrame} {mk : MethodId} {a : Array Value} (h : bh_Env D cy base e0 U) : bh_Env D cy base e0 (U.calling g mk a) := by
  obtain ⟨h1, h2, h3, ⟨h4, h5, h6⟩, h7, ⟨mi, h8⟩, h9⟩ := h
  have hvm : U.vm.Alike (U.calling g mk a).vm := Vm.Alike.refl U.vm
  exact ⟨va_K.moved hvm h1, fun w hw => va_Nw.same (u := U) (U := U.calling g mk a) (by have := bh_nestN w hw; cases w <;> first | exact (Bool.false_ne_true this).elim | rfl) rfl (h2 w hw), h3, ⟨va_AO.moved hvm h4, va_AO.moved hvm h5, va_AO.moved hvm h6⟩, va_Z.moved hvm h7, ⟨mi, va_Mi.moved hvm h8⟩, va_Dc.moved hvm h9⟩
theorem bh_rdI_spec {σ : bh_S} {c a k : Nat} {v : Int32} (h : bh_rdI σ c a k = some v) : bh_K σ a = c ∧ v = bh_I σ c a k := by
  unfold bh_rdI at h
  split at h
  · exact ⟨by assumption, (Option.some.inj h).symm⟩
  · cases h
theorem bh_rdR_spec {σ : bh_S} {c a k : Nat} {v : Option Nat} (h : bh_rdR σ c a k = some v) : bh_K σ a = c ∧ v = bh_R σ c a k := by
  unfold bh_rdR at h
  split at h
  · exact ⟨by assumption, (Option.some.inj h).symm⟩
  · cases h
theorem bh_wrI_spec {σ σ1 : bh_S} {c a k : Nat} {v : Int32} (h : bh_wrI σ c a k v = some σ1) : bh_K σ a = c ∧ σ1 = bh_setI σ c a k v := by
  unfold bh_wrI at h
  split at h
  · exact ⟨by assumption, (Option.some.inj h).symm⟩
  · cases h
theorem bh_wrZ_spec {σ σ1 : bh_S} {c a k : Nat} {v : Int32} (h : bh_wrZ σ c a k v = some σ1) : (bh_K σ a = c ∧ (v = 0 ∨ v = 1)) ∧ σ1 = bh_setI σ c a k v := by
  unfold bh_wrZ at h
  split at h
  · exact ⟨by assumption, (Option.some.inj h).symm⟩
  · cases h
theorem bh_wrR_spec {σ σ1 : bh_S} {c a k : Nat} {v : Option Nat} (h : bh_wrR σ c a k v = some σ1) : bh_K σ a = c ∧ σ1 = bh_setR σ c a k v := by
  unfold bh_wrR at h
  split at h
  · exact ⟨by assumption, (Option.some.inj h).symm⟩
  · cases h
section BHJ2
variable {α : Type} {em : α → Option Value} {y : MethodName} {cc : ByteArray} {ws : List Cond} {ret : Option FieldType} {NL FR LO : Nat} {X : bh_X} {σ : bh_S} {pc : Nat} {lv : List (Nat × Value)} {st : List Value} {res : Option (α × bh_S)}

theorem bj_getI {ci k index N a : Nat} {C ref : String} {T : u_T} {f : Int32 → Option (α × bh_S)} (hc : vwCl[ci]? = some (C, T, N)) (hin : ∀ w ∈ u_ws C T N, w ∈ ws) (hk : k < N) (hI : bh_isR ci k = false) (hlink : bh_fl ws y.cls index ref (T k).2.1 (T k).2.2.1) (hsame : ref = (T k).1 ∨ Cond.sameField ref (T k).1 (T k).2.1 (T k).2.2.1 ∈ ws) (hdg : decode cc pc = .ok (.getfield index, 3)) (kk : ∀ v : Int32, bh_rdI σ ci a k = some v → bh_J em y cc ws ret NL FR LO X σ (pc + 3) lv (.int v :: st) (f v)) : bh_J em y cc ws ret NL FR LO X σ pc lv (.ref a :: st) ((bh_rdI σ ci a k).bind f) := by
  refine bj_op (fun v hv => ?_)
  obtain ⟨hK, hV⟩ := bh_rdI_spec hv
  intro r σ' hres
  obtain ⟨hm, hk9⟩ := kk v hv r σ' hres
  refine ⟨hm, fun hC => ?_⟩
  have hk9 := hk9 hC
  obtain ⟨l, p, e, s, m, args, below, meth, c, D, cy, base, e0, z0, n0⟩ := X
  obtain ⟨hx, hb, hml, hown, hts, hrt, hlk, hnm, hE⟩ := hC
  intro h0 h1 H locs ls hR hS hl

  have hVk : bh_V σ ci a k = .int v := by rw [hV]; unfold bh_V; rw [hI]; rfl
  exact bh_Wget hx hb hts hin hown hE hc hk hlink hsame (hR.obj hK hc).2 hdg (by rw [hVk]; exact hk9 h0 h1 H locs ls hR hS hl)
theorem bj_getR {ci k index N a : Nat} {C ref : String} {T : u_T} {f : Option Nat → Option (α × bh_S)} (hc : vwCl[ci]? = some (C, T, N)) (hin : ∀ w ∈ u_ws C T N, w ∈ ws) (hk : k < N) (hI : bh_isR ci k = true) (hlink : bh_fl ws y.cls index ref (T k).2.1 (T k).2.2.1) (hsame : ref = (T k).1 ∨ Cond.sameField ref (T k).1 (T k).2.1 (T k).2.2.1 ∈ ws) (hdg : decode cc pc = .ok (.getfield index, 3)) (kk : ∀ v : Option Nat, bh_rdR σ ci a k = some v → bh_J em y cc ws ret NL FR LO X σ (pc + 3) lv (va_rf v :: st) (f v)) : bh_J em y cc ws ret NL FR LO X σ pc lv (.ref a :: st) ((bh_rdR σ ci a k).bind f) := by
  refine bj_op (fun v hv => ?_)
  obtain ⟨hK, hV⟩ := bh_rdR_spec hv
  intro r σ' hres
  obtain ⟨hm, hk9⟩ := kk v hv r σ' hres
  refine ⟨hm, fun hC => ?_⟩
  have hk9 := hk9 hC
  obtain ⟨l, p, e, s, m, args, below, meth, c, D, cy, base, e0, z0, n0⟩ := X
  obtain ⟨hx, hb, hml, hown, hts, hrt, hlk, hnm, hE⟩ := hC
  intro h0 h1 H locs ls hR hS hl

  have hVk : bh_V σ ci a k = va_rf v := by rw [hV]; unfold bh_V; rw [hI]; rfl
  exact bh_Wget hx hb hts hin hown hE hc hk hlink hsame (hR.obj hK hc).2 hdg (by rw [hVk]; exact hk9 h0 h1 H locs ls hR hS hl)
theorem bj_putI {ci k index N a : Nat} {C ref : String} {T : u_T} {v : Int32} {f : bh_S → Option (α × bh_S)} (hc : vwCl[ci]? = some (C, T, N)) (hin : ∀ w ∈ u_ws C T N, w ∈ ws) (hk : k < N) (hI : bh_isR ci k = false) (hlink : bh_fl ws y.cls index ref (T k).2.1 (T k).2.2.1) (hsame : ref = (T k).1 ∨ Cond.sameField ref (T k).1 (T k).2.1 (T k).2.2.1 ∈ ws) (ty0 : Nat → FieldType) (hty : ∀ k, k < N → parseFieldDescriptor (T k).2.2.1 = some (ty0 k)) (hnm0 : ∀ a, a < N → ∀ b, b < N → a ≠ b → (T a).2.1 ≠ (T b).2.1) (hty9 : ty0 k = .int) (hfin : (T k).2.2.2 = false ∨ ((T k).2.2.2 = true ∧ y.name = "<init>" ∧ (T k).1 = y.cls ∧ Cond.fieldLink y.cls index ref (T k).2.1 (T k).2.2.1 ∈ ws)) (hdg : decode cc pc = .ok (.putfield index, 3)) (kk : ∀ σ1 : bh_S, bh_wrI σ ci a k v = some σ1 → bh_J em y cc ws ret NL FR LO X σ1 (pc + 3) lv st (f σ1)) : bh_J em y cc ws ret NL FR LO X σ pc lv (.int v :: .ref a :: st) ((bh_wrI σ ci a k v).bind f) := by
  refine bj_op (fun σ1 hv => ?_)
  have kk := kk σ1 hv
  obtain ⟨hK, rfl⟩ := bh_wrI_spec hv
  intro r σ' hres
  obtain ⟨hm, hk9⟩ := kk r σ' hres
  refine ⟨hm, fun hC => ?_⟩
  have hk9 := hk9 hC
  obtain ⟨l, p, e, s, m, args, below, meth, c, D, cy, base, e0, z0, n0⟩ := X
  obtain ⟨hx, hb, hml, hown, hts, hrt, hlk, hnm, hE⟩ := hC
  intro h0 h1 H locs ls hR hS hl

  obtain ⟨hab, hO⟩ := hR.obj hK hc
  refine bh_Wput hx hb hts hin ty0 hty hnm0 hown hE hc hk hlink hsame (by rcases hfin with h | ⟨g1, g2, g3, g4⟩; exact Or.inl h; exact Or.inr ⟨g1, hnm.trans g2, g3, g4⟩) (by rw [hty9]; rfl) (by rw [hty9]; rfl) hO hdg (fun H1 L hL hsz oq hO1 => ?_)
  exact hk9 h0 h1 H1 (locs ++ L) ls (hR.putI hK hc hI hsz oq hO1) ⟨by rw [hsz]; exact hS.1, fun q g1 g2 => by rw [oq q (fun e9 => g2 (by rw [e9]; exact hab))]; exact hS.2.1 q g1 g2, fun q hq => by rcases List.mem_append.mp hq with h | h; exact hS.2.2 q h; rw [hL q h]; exact hab⟩ hl
theorem bj_putZ {ci k index N a : Nat} {C ref : String} {T : u_T} {v : Int32} {f : bh_S → Option (α × bh_S)} (hc : vwCl[ci]? = some (C, T, N)) (hin : ∀ w ∈ u_ws C T N, w ∈ ws) (hk : k < N) (hI : bh_isR ci k = false) (hlink : bh_fl ws y.cls index ref (T k).2.1 (T k).2.2.1) (hsame : ref = (T k).1 ∨ Cond.sameField ref (T k).1 (T k).2.1 (T k).2.2.1 ∈ ws) (ty0 : Nat → FieldType) (hty : ∀ k, k < N → parseFieldDescriptor (T k).2.2.1 = some (ty0 k)) (hnm0 : ∀ a, a < N → ∀ b, b < N → a ≠ b → (T a).2.1 ≠ (T b).2.1) (hty9 : ty0 k = .boolean) (hfin : (T k).2.2.2 = false ∨ ((T k).2.2.2 = true ∧ y.name = "<init>" ∧ (T k).1 = y.cls ∧ Cond.fieldLink y.cls index ref (T k).2.1 (T k).2.2.1 ∈ ws)) (hdg : decode cc pc = .ok (.putfield index, 3)) (kk : ∀ σ1 : bh_S, bh_wrZ σ ci a k v = some σ1 → bh_J em y cc ws ret NL FR LO X σ1 (pc + 3) lv st (f σ1)) : bh_J em y cc ws ret NL FR LO X σ pc lv (.int v :: .ref a :: st) ((bh_wrZ σ ci a k v).bind f) := by
  refine bj_op (fun σ1 hv => ?_)
  have kk := kk σ1 hv
  obtain ⟨hK, rfl⟩ := bh_wrZ_spec hv
  intro r σ' hres
  obtain ⟨hm, hk9⟩ := kk r σ' hres
  refine ⟨hm, fun hC => ?_⟩
  have hk9 := hk9 hC
  obtain ⟨l, p, e, s, m, args, below, meth, c, D, cy, base, e0, z0, n0⟩ := X
  obtain ⟨hx, hb, hml, hown, hts, hrt, hlk, hnm, hE⟩ := hC
  intro h0 h1 H locs ls hR hS hl

  obtain ⟨hab, hO⟩ := hR.obj hK.1 hc
  refine bh_Wput hx hb hts hin ty0 hty hnm0 hown hE hc hk hlink hsame (by rcases hfin with h | ⟨g1, g2, g3, g4⟩; exact Or.inl h; exact Or.inr ⟨g1, hnm.trans g2, g3, g4⟩) (by rw [hty9]; rcases hK.2 with rfl | rfl <;> rfl) (by rw [hty9]; rcases hK.2 with rfl | rfl <;> rfl) hO hdg (fun H1 L hL hsz oq hO1 => ?_)
  exact hk9 h0 h1 H1 (locs ++ L) ls (hR.putI hK.1 hc hI hsz oq hO1) ⟨by rw [hsz]; exact hS.1, fun q g1 g2 => by rw [oq q (fun e9 => g2 (by rw [e9]; exact hab))]; exact hS.2.1 q g1 g2, fun q hq => by rcases List.mem_append.mp hq with h | h; exact hS.2.2 q h; rw [hL q h]; exact hab⟩ hl
theorem bj_putR {ci k index N a : Nat} {C ref : String} {T : u_T} {v : Option Nat} {f : bh_S → Option (α × bh_S)} (hc : vwCl[ci]? = some (C, T, N)) (hin : ∀ w ∈ u_ws C T N, w ∈ ws) (hk : k < N) (hI : bh_isR ci k = true) (hlink : bh_fl ws y.cls index ref (T k).2.1 (T k).2.2.1) (hsame : ref = (T k).1 ∨ Cond.sameField ref (T k).1 (T k).2.1 (T k).2.2.1 ∈ ws) (ty0 : Nat → FieldType) (hty : ∀ k, k < N → parseFieldDescriptor (T k).2.2.1 = some (ty0 k)) (hnm0 : ∀ a, a < N → ∀ b, b < N → a ≠ b → (T a).2.1 ≠ (T b).2.1) (hty9 : (∃ n, ty0 k = .object n) ∨ ∃ t, ty0 k = .array t) (hfin : (T k).2.2.2 = false ∨ ((T k).2.2.2 = true ∧ y.name = "<init>" ∧ (T k).1 = y.cls ∧ Cond.fieldLink y.cls index ref (T k).2.1 (T k).2.2.1 ∈ ws)) (hdg : decode cc pc = .ok (.putfield index, 3)) (kk : ∀ σ1 : bh_S, bh_wrR σ ci a k v = some σ1 → bh_J em y cc ws ret NL FR LO X σ1 (pc + 3) lv st (f σ1)) : bh_J em y cc ws ret NL FR LO X σ pc lv (va_rf v :: .ref a :: st) ((bh_wrR σ ci a k v).bind f) := by
  refine bj_op (fun σ1 hv => ?_)
  have kk := kk σ1 hv
  obtain ⟨hK, rfl⟩ := bh_wrR_spec hv
  intro r σ' hres
  obtain ⟨hm, hk9⟩ := kk r σ' hres
  refine ⟨hm, fun hC => ?_⟩
  have hk9 := hk9 hC
  obtain ⟨l, p, e, s, m, args, below, meth, c, D, cy, base, e0, z0, n0⟩ := X
  obtain ⟨hx, hb, hml, hown, hts, hrt, hlk, hnm, hE⟩ := hC
  intro h0 h1 H locs ls hR hS hl

  obtain ⟨hab, hO⟩ := hR.obj hK hc
  refine bh_Wput hx hb hts hin ty0 hty hnm0 hown hE hc hk hlink hsame (by rcases hfin with h | ⟨g1, g2, g3, g4⟩; exact Or.inl h; exact Or.inr ⟨g1, hnm.trans g2, g3, g4⟩) (by rcases hty9 with ⟨n, e9⟩ | ⟨n, e9⟩ <;> rw [e9] <;> cases v <;> rfl) (by rcases hty9 with ⟨n, e9⟩ | ⟨n, e9⟩ <;> rw [e9] <;> cases v <;> rfl) hO hdg (fun H1 L hL hsz oq hO1 => ?_)
  exact hk9 h0 h1 H1 (locs ++ L) ls (hR.putR hK hc hI hsz oq hO1) ⟨by rw [hsz]; exact hS.1, fun q g1 g2 => by rw [oq q (fun e9 => g2 (by rw [e9]; exact hab))]; exact hS.2.1 q g1 g2, fun q hq => by rcases List.mem_append.mp hq with h | h; exact hS.2.2 q h; rw [hL q h]; exact hab⟩ hl

theorem bh_ldI_spec {σ : bh_S} {c a : Nat} {i v : Int32} (h : bh_ldI σ c a i = some v) : (bh_K σ a = c ∧ ¬ (i < 0 ∨ bh_L σ a ≤ i.toNatClampNeg)) ∧ v = bh_I σ c a i.toNatClampNeg := by
  unfold bh_ldI at h
  split at h
  · exact ⟨by assumption, (Option.some.inj h).symm⟩
  · cases h
theorem bh_ldR_spec {σ : bh_S} {c a : Nat} {i : Int32} {v : Option Nat} (h : bh_ldR σ c a i = some v) : (bh_K σ a = c ∧ ¬ (i < 0 ∨ bh_L σ a ≤ i.toNatClampNeg)) ∧ v = bh_R σ c a i.toNatClampNeg := by
  unfold bh_ldR at h
  split at h
  · exact ⟨by assumption, (Option.some.inj h).symm⟩
  · cases h
theorem bh_stI_spec {σ σ1 : bh_S} {c a : Nat} {i v : Int32} (h : bh_stI σ c a i v = some σ1) : (bh_K σ a = c ∧ ¬ (i < 0 ∨ bh_L σ a ≤ i.toNatClampNeg)) ∧ σ1 = bh_setI σ c a i.toNatClampNeg v := by
  unfold bh_stI at h
  split at h
  · exact ⟨by assumption, (Option.some.inj h).symm⟩
  · cases h
theorem bh_stZ_spec {σ σ1 : bh_S} {c a : Nat} {i v : Int32} (h : bh_stZ σ c a i v = some σ1) : (bh_K σ a = c ∧ ¬ (i < 0 ∨ bh_L σ a ≤ i.toNatClampNeg) ∧ (v = 0 ∨ v = 1)) ∧ σ1 = bh_setI σ c a i.toNatClampNeg v := by
  unfold bh_stZ at h
  split at h
  · exact ⟨by assumption, (Option.some.inj h).symm⟩
  · cases h
theorem bh_stR_spec {σ σ1 : bh_S} {c a : Nat} {i : Int32} {v : Option Nat} (h : bh_stR σ c a i v = some σ1) : (bh_K σ a = c ∧ ¬ (i < 0 ∨ bh_L σ a ≤ i.toNatClampNeg) ∧ bh_mayLie σ c v = true) ∧ σ1 = bh_setR σ c a i.toNatClampNeg v := by
  unfold bh_stR at h
  split at h
  · exact ⟨by assumption, (Option.some.inj h).symm⟩
  · cases h
theorem bh_len_spec {σ : bh_S} {c a : Nat} {v : Int32} (h : bh_len σ c a = some v) : bh_K σ a = c ∧ v = Int32.ofNat (bh_L σ a) := by
  unfold bh_len at h
  split at h
  · exact ⟨by assumption, (Option.some.inj h).symm⟩
  · cases h
theorem bh_ab {base n : Nat} {a : Nat} {i : Int32} (h : base ≤ a ∨ n = 0) (hi : ¬ (i < 0 ∨ n ≤ i.toNatClampNeg)) : base ≤ a := by
  rcases h with h | h
  · exact h
  · exact absurd (Or.inr (by rw [h]; exact Nat.zero_le _)) hi

theorem bj_iald {a : Nat} {i : Int32} {f : Int32 → Option (α × bh_S)} (hdg : decode cc pc = .ok (.iaload, 1)) (kk : ∀ v : Int32, bh_ldI σ 12 a i = some v → bh_J em y cc ws ret NL FR LO X σ (pc + 1) lv (.int v :: st) (f v)) : bh_J em y cc ws ret NL FR LO X σ pc lv (.int i :: .ref a :: st) ((bh_ldI σ 12 a i).bind f) := by
  refine bj_op (fun v hv => ?_)
  obtain ⟨⟨hK, hi⟩, hV⟩ := bh_ldI_spec hv
  intro r σ' hres
  obtain ⟨hm, hk9⟩ := kk v hv r σ' hres
  refine ⟨hm, fun hC => ?_⟩
  have hk9 := hk9 hC
  obtain ⟨l, p, e, s, m, args, below, meth, c, D, cy, base, e0, z0, n0⟩ := X
  obtain ⟨hx, hb, hml, hown, hts, hrt, hlk, hnm, hE⟩ := hC
  intro h0 h1 H locs ls hR hS hl

  have hlt : i.toNatClampNeg < bh_L σ a := Nat.not_le.mp fun q => hi (Or.inr q)
  exact W.iald (v := .int v) hx hb (hR.ints hK (by decide)).2 ((hE.1.2 0 _ rfl).1 _ _) (fun q => by cases q) (by rw [arrV_size]; exact hi) (by rw [arrV_read _ _ hlt, hV]) rfl rfl hdg (hk9 h0 h1 H locs ls hR hS hl)
theorem bj_zald {a : Nat} {i : Int32} {f : Int32 → Option (α × bh_S)} (hdg : decode cc pc = .ok (.baload, 1)) (kk : ∀ v : Int32, bh_ldI σ 13 a i = some v → bh_J em y cc ws ret NL FR LO X σ (pc + 1) lv (.int v :: st) (f v)) : bh_J em y cc ws ret NL FR LO X σ pc lv (.int i :: .ref a :: st) ((bh_ldI σ 13 a i).bind f) := by
  refine bj_op (fun v hv => ?_)
  obtain ⟨⟨hK, hi⟩, hV⟩ := bh_ldI_spec hv
  intro r σ' hres
  obtain ⟨hm, hk9⟩ := kk v hv r σ' hres
  refine ⟨hm, fun hC => ?_⟩
  have hk9 := hk9 hC
  obtain ⟨l, p, e, s, m, args, below, meth, c, D, cy, base, e0, z0, n0⟩ := X
  obtain ⟨hx, hb, hml, hown, hts, hrt, hlk, hnm, hE⟩ := hC
  intro h0 h1 H locs ls hR hS hl

  have hlt : i.toNatClampNeg < bh_L σ a := Nat.not_le.mp fun q => hi (Or.inr q)
  exact W.zald (v := .int v) hx hb (hR.ints hK (by decide)).2 ((hE.1.2 1 _ rfl).1 _ _) (fun q => by cases q) (by rw [arrV_size]; exact hi) (by rw [arrV_read _ _ hlt, hV]) rfl rfl hdg (hk9 h0 h1 H locs ls hR hS hl)
theorem bj_iast {a : Nat} {i v : Int32} {f : bh_S → Option (α × bh_S)} (hdg : decode cc pc = .ok (.iastore, 1)) (kk : ∀ σ1 : bh_S, bh_stI σ 12 a i v = some σ1 → bh_J em y cc ws ret NL FR LO X σ1 (pc + 1) lv st (f σ1)) : bh_J em y cc ws ret NL FR LO X σ pc lv (.int v :: .int i :: .ref a :: st) ((bh_stI σ 12 a i v).bind f) := by
  refine bj_op (fun σ1 hv => ?_)
  have kk := kk σ1 hv
  obtain ⟨⟨hK, hi⟩, rfl⟩ := bh_stI_spec hv
  intro r σ' hres
  obtain ⟨hm, hk9⟩ := kk r σ' hres
  refine ⟨hm, fun hC => ?_⟩
  have hk9 := hk9 hC
  obtain ⟨l, p, e, s, m, args, below, meth, c, D, cy, base, e0, z0, n0⟩ := X
  obtain ⟨hx, hb, hml, hown, hts, hrt, hlk, hnm, hE⟩ := hC
  intro h0 h1 H locs ls hR hS hl

  obtain ⟨hab0, hO⟩ := hR.ints hK (by decide)
  have hab := bh_ab hab0 hi
  refine W.iast hx hb hO ((hE.1.2 0 _ rfl).1 _ _) (fun q => by cases q) (by rw [arrV_size]; exact hi) rfl rfl hdg (fun H1 e1 hsz oq => ?_)
  rw [arrV_store] at e1
  exact hk9 h0 h1 H1 _ ls (hR.stI hK (by decide) hsz oq e1) ⟨by rw [hsz]; exact hS.1, fun q g1 g2 => by rw [oq q (fun e9 => g2 (by rw [e9]; exact hab))]; exact hS.2.1 q g1 g2, fun q hq => by rcases List.mem_append.mp hq with h | h; exact hS.2.2 q h; rw [List.mem_singleton.mp h]; exact hab⟩ hl
theorem bj_zast {a : Nat} {i v : Int32} {f : bh_S → Option (α × bh_S)} (hdg : decode cc pc = .ok (.bastore, 1)) (kk : ∀ σ1 : bh_S, bh_stZ σ 13 a i v = some σ1 → bh_J em y cc ws ret NL FR LO X σ1 (pc + 1) lv st (f σ1)) : bh_J em y cc ws ret NL FR LO X σ pc lv (.int v :: .int i :: .ref a :: st) ((bh_stZ σ 13 a i v).bind f) := by
  refine bj_op (fun σ1 hv => ?_)
  have kk := kk σ1 hv
  obtain ⟨⟨hK, hi, h01⟩, rfl⟩ := bh_stZ_spec hv
  intro r σ' hres
  obtain ⟨hm, hk9⟩ := kk r σ' hres
  refine ⟨hm, fun hC => ?_⟩
  have hk9 := hk9 hC
  obtain ⟨l, p, e, s, m, args, below, meth, c, D, cy, base, e0, z0, n0⟩ := X
  obtain ⟨hx, hb, hml, hown, hts, hrt, hlk, hnm, hE⟩ := hC
  intro h0 h1 H locs ls hR hS hl

  obtain ⟨hab0, hO⟩ := hR.ints hK (by decide)
  have hab := bh_ab hab0 hi
  refine W.zast hx hb hO ((hE.1.2 1 _ rfl).1 _ _) (fun q => by cases q) (by rw [arrV_size]; exact hi) rfl rfl hdg (fun H1 e1 hsz oq => ?_)
  have e2 : narrow .boolean (.int v) = .int v := by rcases h01 with rfl | rfl <;> rfl
  rw [e2] at e1
  rw [arrV_store] at e1
  exact hk9 h0 h1 H1 _ ls (hR.stI hK (by decide) hsz oq e1) ⟨by rw [hsz]; exact hS.1, fun q g1 g2 => by rw [oq q (fun e9 => g2 (by rw [e9]; exact hab))]; exact hS.2.1 q g1 g2, fun q hq => by rcases List.mem_append.mp hq with h | h; exact hS.2.2 q h; rw [List.mem_singleton.mp h]; exact hab⟩ hl
theorem bj_aald {ci a : Nat} {i : Int32} {f : Option Nat → Option (α × bh_S)} (hci : 14 ≤ ci ∧ ci < 18) (hdg : decode cc pc = .ok (.aaload, 1)) (kk : ∀ v : Option Nat, bh_ldR σ ci a i = some v → bh_J em y cc ws ret NL FR LO X σ (pc + 1) lv (va_rf v :: st) (f v)) : bh_J em y cc ws ret NL FR LO X σ pc lv (.int i :: .ref a :: st) ((bh_ldR σ ci a i).bind f) := by
  refine bj_op (fun v hv => ?_)
  obtain ⟨⟨hK, hi⟩, hV⟩ := bh_ldR_spec hv
  intro r σ' hres
  obtain ⟨hm, hk9⟩ := kk v hv r σ' hres
  refine ⟨hm, fun hC => ?_⟩
  have hk9 := hk9 hC
  obtain ⟨l, p, e, s, m, args, below, meth, c, D, cy, base, e0, z0, n0⟩ := X
  obtain ⟨hx, hb, hml, hown, hts, hrt, hlk, hnm, hE⟩ := hC
  intro h0 h1 H locs ls hR hS hl

  have hlt : i.toNatClampNeg < bh_L σ a := Nat.not_le.mp fun q => hi (Or.inr q)
  have hty : ∃ ty : FieldType, ty.isReference = true ∧ ArrOfT s (cy ci) ty := by
    rcases (show ci = 14 ∨ ci = 15 ∨ ci = 16 ∨ ci = 17 by omega) with rfl | rfl | rfl | rfl
    · exact ⟨_, rfl, (hE.1.2 2 _ rfl).1⟩
    · exact ⟨_, rfl, (hE.1.2 3 _ rfl).1⟩
    · exact ⟨_, rfl, (hE.1.2 4 _ rfl).1⟩
    · exact ⟨_, rfl, (hE.1.2 5 _ rfl).1⟩
  obtain ⟨ty, hr9, hA⟩ := hty
  exact W.aald (v := va_rf v) (ty := ty) hx hb (hR.refs hK hci.1 hci.2).2 (hA _ _) hr9 (fun q => by cases q) (by rw [arrV_size]; exact hi) (by rw [arrV_read _ _ hlt, hV]) rfl rfl hdg (hk9 h0 h1 H locs ls hR hS hl)
theorem bj_alen {ci a : Nat} {f : Int32 → Option (α × bh_S)} (hci : 12 ≤ ci ∧ ci < 18) (hdg : decode cc pc = .ok (.arraylength, 1)) (kk : ∀ v : Int32, bh_len σ ci a = some v → bh_J em y cc ws ret NL FR LO X σ (pc + 1) lv (.int v :: st) (f v)) : bh_J em y cc ws ret NL FR LO X σ pc lv (.ref a :: st) ((bh_len σ ci a).bind f) := by
  refine bj_op (fun v hv => ?_)
  obtain ⟨hK, hV⟩ := bh_len_spec hv
  intro r σ' hres
  obtain ⟨hm, hk9⟩ := kk v hv r σ' hres
  refine ⟨hm, fun hC => ?_⟩
  have hk9 := hk9 hC
  obtain ⟨l, p, e, s, m, args, below, meth, c, D, cy, base, e0, z0, n0⟩ := X
  obtain ⟨hx, hb, hml, hown, hts, hrt, hlk, hnm, hE⟩ := hC
  intro h0 h1 H locs ls hR hS hl

  subst hV
  by_cases h2 : ci < 14
  · have h3 : ci = 12 ∨ ci = 13 := by omega
    have hty : ∃ ty : FieldType, ArrOfT s (cy ci) ty := by
      rcases h3 with rfl | rfl
      · exact ⟨_, (hE.1.2 0 _ rfl).1⟩
      · exact ⟨_, (hE.1.2 1 _ rfl).1⟩
    obtain ⟨ty, hA⟩ := hty
    exact W.alen hx hb (hR.ints hK h3).2 (hA _ _) (by rw [arrV_size]) rfl rfl hdg (hk9 h0 h1 H locs ls hR hS hl)
  · have hty : ∃ ty : FieldType, ArrOfT s (cy ci) ty := by
      rcases (show ci = 14 ∨ ci = 15 ∨ ci = 16 ∨ ci = 17 by omega) with rfl | rfl | rfl | rfl
      · exact ⟨_, (hE.1.2 2 _ rfl).1⟩
      · exact ⟨_, (hE.1.2 3 _ rfl).1⟩
      · exact ⟨_, (hE.1.2 4 _ rfl).1⟩
      · exact ⟨_, (hE.1.2 5 _ rfl).1⟩
    obtain ⟨ty, hA⟩ := hty
    exact W.alen hx hb (hR.refs hK (by omega) hci.2).2 (hA _ _) (by rw [arrV_size]) rfl rfl hdg (hk9 h0 h1 H locs ls hR hS hl)
/-- an object that the memory holds, as a receiver, a thing to store -/
theorem bh_recv {D : va_G} {cy : Nat → ClassId} {base e0 : Nat} {s : State} {H : Heap} {a ci : Nat} {q : vw_C} (hE : bh_Env D cy base e0 s) (hR : bh_Rep D cy base e0 σ H) (hK : bh_K σ a = ci) (hc : vwCl[ci]? = some q) : ∃ cell : Cell, H[a]? = some cell ∧ cell.vm.isStatics = false ∧ s.vm.findClass q.1 = some cell.cls := by
  obtain ⟨cell, g1, g2, g3, -⟩ := (hR.obj hK hc).2
  exact ⟨cell, g1, by rw [g3]; rfl, by rw [g2]; exact (hE.1.1 ci q hc).2.1⟩
theorem bh_castO : ∀ k, k < 12 → ∀ q : vw_C, vwCl[k]? = some q → Cond.castable q.1 "java/lang/Object" ∈ bh_nest := by
  intro k hk q hq
  match k, hk, hq with
  | 0, _, hq | 1, _, hq | 2, _, hq | 3, _, hq | 4, _, hq | 5, _, hq | 6, _, hq | 7, _, hq | 8, _, hq | 9, _, hq | 10, _, hq | 11, _, hq => cases hq; decide +kernel
  | k + 12, hk, _ => omega
/-- what may lie in a row of references -/
theorem bh_lie {D : va_G} {cy : Nat → ClassId} {base e0 : Nat} {s : State} {H : Heap} {ci b : Nat} (hE : bh_Env D cy base e0 s) (hR : bh_Rep D cy base e0 σ H) (h : bh_mayLie σ ci (some b) = true) : ∃ (C : String) (comp : ClassId) (kA : Class) (cell : Cell) (kE kC : Class), s.vm.classes[cy ci]? = some kA ∧ kA.kind = .array comp (.object C) ∧ s.vm.classes[comp]? = some kE ∧ H[b]? = some cell ∧ (∀ q, cell.vm ≠ .statics q) ∧ s.vm.classes[cell.cls]? = some kC ∧ s.vm.assignable cell.cls comp = true := by
  have h9 : (ci = 14 ∧ bh_K σ b = 1) ∨ (ci = 15 ∧ bh_K σ b = 2) ∨ (ci = 16 ∧ bh_K σ b < 12) := by
    simp only [bh_mayLie, Bool.or_eq_true, Bool.and_eq_true, beq_iff_eq, decide_eq_true_eq] at h
    rcases h with (h | h) | h
    · exact Or.inl h
    · exact Or.inr (Or.inl h)
    · exact Or.inr (Or.inr h)
  rcases h9 with ⟨rfl, hK⟩ | ⟨rfl, hK⟩ | ⟨rfl, hK⟩
  · obtain ⟨cell, g1, g2, g3, -⟩ := (hR.obj hK (r := (RX0, TX0, 4)) rfl).2
    obtain ⟨hfc, kC, hkC, hkk⟩ := (hE.1.1 1 (RX0, TX0, 4) rfl).2
    obtain ⟨kA, comp, k1, k2, k3, -⟩ := (hE.1.2 2 _ rfl).2
    obtain rfl : comp = D.1 1 := Option.some.inj (k3.symm.trans hfc)
    exact ⟨_, _, kA, cell, kC, kC, k1, k2, hkC, g1, (fun q h => by rw [g3] at h; cases h), by rw [g2]; exact hkC, by rw [g2]; exact va_assign ⟨hfc, kC, hkC, hkk⟩⟩
  · obtain ⟨cell, g1, g2, g3, -⟩ := (hR.obj hK (r := (RX1, TX1, 2)) rfl).2
    obtain ⟨hfc, kC, hkC, hkk⟩ := (hE.1.1 2 (RX1, TX1, 2) rfl).2
    obtain ⟨kA, comp, k1, k2, k3, -⟩ := (hE.1.2 3 _ rfl).2
    obtain rfl : comp = D.1 2 := Option.some.inj (k3.symm.trans hfc)
    exact ⟨_, _, kA, cell, kC, kC, k1, k2, hkC, g1, (fun q h => by rw [g3] at h; cases h), by rw [g2]; exact hkC, by rw [g2]; exact va_assign ⟨hfc, kC, hkC, hkk⟩⟩
  · obtain ⟨q, hq⟩ : ∃ r, vwCl[bh_K σ b]? = some r := ⟨_, List.getElem?_eq_getElem (show bh_K σ b < vwCl.length from hK)⟩
    obtain ⟨cell, g1, g2, g3, -⟩ := (hR.obj rfl hq).2
    obtain ⟨hfc, kC, hkC, hkk⟩ := (hE.1.1 _ q hq).2
    obtain ⟨kA, comp, k1, k2, k3, -⟩ := (hE.1.2 4 _ rfl).2
    obtain ⟨kE, hkE, -⟩ := Vm.findClass_spec k3
    obtain ⟨c0, t1, f1, f2, f3⟩ := Cond.castable_spec (va_Nw.use (A := #[]) rfl (hE.2.1 _ (bh_castO _ hK q hq)))
    cases hfc.symm.trans f1
    cases k3.symm.trans f2
    exact ⟨_, _, kA, cell, kE, kC, k1, k2, hkE, g1, (fun q h => by rw [g3] at h; cases h), by rw [g2]; exact hkC, by rw [g2]; exact f3⟩

theorem bj_aast {ci a : Nat} {i : Int32} {v : Option Nat} {f : bh_S → Option (α × bh_S)} (hci : 14 ≤ ci ∧ ci < 17) (hdg : decode cc pc = .ok (.aastore, 1)) (kk : ∀ σ1 : bh_S, bh_stR σ ci a i v = some σ1 → bh_J em y cc ws ret NL FR LO X σ1 (pc + 1) lv st (f σ1)) : bh_J em y cc ws ret NL FR LO X σ pc lv (va_rf v :: .int i :: .ref a :: st) ((bh_stR σ ci a i v).bind f) := by
  refine bj_op (fun σ1 hv => ?_)
  have kk := kk σ1 hv
  obtain ⟨⟨hK, hi, hmay⟩, rfl⟩ := bh_stR_spec hv
  intro r σ' hres
  obtain ⟨hm, hk9⟩ := kk r σ' hres
  refine ⟨hm, fun hC => ?_⟩
  have hk9 := hk9 hC
  obtain ⟨l, p, e, s, m, args, below, meth, c, D, cy, base, e0, z0, n0⟩ := X
  obtain ⟨hx, hb, hml, hown, hts, hrt, hlk, hnm, hE⟩ := hC
  intro h0 h1 H locs ls hR hS hl

  obtain ⟨hab0, hO⟩ := hR.refs hK hci.1 (by omega)
  have hab := bh_ab hab0 hi
  cases v with
  | none =>
    have hty : ∃ C : String, ArrOfT s (cy ci) (.object C) := by
      rcases (show ci = 14 ∨ ci = 15 ∨ ci = 16 by omega) with rfl | rfl | rfl
      · exact ⟨_, (hE.1.2 2 _ rfl).1⟩
      · exact ⟨_, (hE.1.2 3 _ rfl).1⟩
      · exact ⟨_, (hE.1.2 4 _ rfl).1⟩
    obtain ⟨C, hA⟩ := hty
    refine va_WaastN (C := C) hx hb hO (hA _ _) (fun q => by cases q) (by rw [arrV_size]; exact hi) rfl rfl hdg (fun H1 e1 hsz oq => ?_)
    rw [arrV_store] at e1
    exact hk9 h0 h1 H1 _ ls (hR.stR hK hci.1 hsz oq e1) ⟨by rw [hsz]; exact hS.1, fun q g1 g2 => by rw [oq q (fun e9 => g2 (by rw [e9]; exact hab))]; exact hS.2.1 q g1 g2, fun q hq => by rcases List.mem_append.mp hq with h | h; exact hS.2.2 q h; rw [List.mem_singleton.mp h]; exact hab⟩ hl
  | some b =>
    obtain ⟨C, comp, kA, cell, kE, kC, k1, k2, k3, k4, k5, k6, k7⟩ := bh_lie hE hR hmay
    refine W.aast hx hb hO (fun q h => by cases h) (fun h => by cases h) k1 k2 rfl k3 ⟨fun h => hi (Or.inl h), by rw [arrV_size]; exact Nat.not_le.mp fun q => hi (Or.inr q)⟩ k4 k5 k6 k7 rfl rfl hdg (fun H1 e1 hsz oq => ?_)
    rw [arrV_store] at e1
    exact hk9 h0 h1 H1 _ ls (hR.stR hK hci.1 hsz oq e1) ⟨by rw [hsz]; exact hS.1, fun q g1 g2 => by rw [oq q (fun e9 => g2 (by rw [e9]; exact hab))]; exact hS.2.1 q g1 g2, fun q hq => by rcases List.mem_append.mp hq with h | h; exact hS.2.2 q h; rw [List.mem_singleton.mp h]; exact hab⟩ hl
theorem bj_new {ci index N : Nat} {C : String} {T : u_T} {f : Nat → bh_S → Option (α × bh_S)} (hc : vwCl[ci]? = some (C, T, N)) (hin : ∀ w ∈ u_ws C T N, w ∈ ws) (ty0 : Nat → FieldType) (hty : ∀ k, k < N → parseFieldDescriptor (T k).2.2.1 = some (ty0 k)) (hdf : ∀ k, k < N → defaultValue (ty0 k) = if bh_isR ci k then .null else .int 0) (hcl : Cond.classLink y.cls index C ∈ ws) (hinst : Cond.instantiable C N ∈ ws) (hini : Cond.initialized C ∈ ws) (hdg : decode cc pc = .ok (.new index, 3)) (kk : ∀ (a : Nat) (σ1 : bh_S), bh_newO σ ci N = some (a, σ1) → bh_J em y cc ws ret NL FR LO X σ1 (pc + 3) lv (.ref a :: st) (f a σ1)) : bh_J em y cc ws ret NL FR LO X σ pc lv st (bh_bnd (bh_newO σ ci N) f) := by
  have kk := kk _ _ rfl
  intro r σ' hres
  obtain ⟨hm, hk9⟩ := kk r σ' hres
  refine ⟨⟨Nat.le_trans (Nat.le_succ _) hm.1, Nat.le_trans (Nat.le_add_right _ N) hm.2⟩, fun hC => ?_⟩
  have hk9 := hk9 hC
  obtain ⟨l, p, e, s, m, args, below, meth, c, D, cy, base, e0, z0, n0⟩ := X
  obtain ⟨hx, hb, hml, hown, hts, hrt, hlk, hnm, hE⟩ := hC
  intro h0 h1 H locs ls hR hS hl

  have hm1 : bh_z σ + 1 ≤ bh_z σ' := hm.1
  have hm2 : bh_n σ + N ≤ bh_n σ' := hm.2
  have h12 : ci < 12 := (List.getElem?_eq_some_iff.mp hc).1
  have hKn := hE.1.1 ci _ hc
  have hz : H.size = bh_z σ := hR.1
  have hbs : base ≤ H.size := Nat.le_trans hE.2.2.1 hS.1
  refine W.newcK hx hb hown (hts _ hcl) (hts _ hinst) (hts _ hini) rfl hdg (show bh_z σ - z0 + 1 ≤ bh_z σ' - z0 by omega) (show bh_n σ - n0 + N ≤ bh_n σ' - n0 by omega) hKn.2.1 hz (fun H1 kC hkC e1 z1 o1 => ?_)
  have hO := u_born ty0 hts hin hKn hkC e1 hty
  refine W.cs (show bh_z σ - z0 + 1 = bh_z σ + 1 - z0 by omega) (show bh_n σ - n0 + N = bh_n σ + N - n0 by omega) ?_
  refine hk9 (show z0 ≤ bh_z σ + 1 by omega) (show n0 ≤ bh_n σ + N by omega) H1 locs ls (hR.new hbs (by rw [z1, hz]) (fun q hq => o1 q (by rw [← hz]; exact hq)) ?_) ⟨by rw [z1]; have := hS.1; omega, fun q g1 g2 => by rw [o1 q (by have := hS.1; omega)]; exact hS.2.1 q g1 g2, hS.2.2⟩ hl
  rw [hz]
  have eK : bh_K (bh_new σ ci N 0) (bh_z σ) = ci := if_pos rfl
  refine ⟨fun r hr => ?_, fun h => ?_, fun h => ?_⟩
  · rw [eK] at hr ⊢
    cases hc.symm.trans hr
    refine hO.to (fun j hj => ?_)
    rw [hdf j hj]
    show _ = if bh_isR ci j then va_rf (if ci = ci ∧ bh_z σ = bh_z σ then none else _) else Value.int (if ci = ci ∧ bh_z σ = bh_z σ then 0 else _)
    rw [if_pos (⟨rfl, rfl⟩ : ci = ci ∧ bh_z σ = bh_z σ), if_pos (⟨rfl, rfl⟩ : ci = ci ∧ bh_z σ = bh_z σ)]
    rfl
  · rw [eK] at h
    omega
  · rw [eK] at h
    omega
theorem bh_newA_spec {σ σ1 : bh_S} {c a : Nat} {n : Int32} (h : bh_newA σ c n = some (a, σ1)) : (¬ n < 0 ∧ n.toNatClampNeg ≤ 100000) ∧ a = bh_z σ ∧ σ1 = bh_new σ c n.toNatClampNeg n.toNatClampNeg := by
  unfold bh_newA at h
  split at h
  · have := Option.some.inj h
    cases this
    exact ⟨by assumption, rfl, rfl⟩
  · cases h
theorem bj_bnd {β : Type} {o : Option (β × bh_S)} {f : β → bh_S → Option (α × bh_S)} (kk : ∀ (v : β) (σ1 : bh_S), o = some (v, σ1) → bh_J em y cc ws ret NL FR LO X σ pc lv st (f v σ1)) : bh_J em y cc ws ret NL FR LO X σ pc lv st (bh_bnd o f) := by
  cases o with
  | none => exact bj_none
  | some q => obtain ⟨v, σ1⟩ := q; exact kk v σ1 rfl
theorem bj_newi {n : Int32} {f : Nat → bh_S → Option (α × bh_S)} (harr : Cond.arrayClass .int ∈ ws) (hdg : decode cc pc = .ok (.newarray .int, 2)) (kk : ∀ (a : Nat) (σ1 : bh_S), bh_newA σ 12 n = some (a, σ1) → bh_J em y cc ws ret NL FR LO X σ1 (pc + 2) lv (.ref a :: st) (f a σ1)) : bh_J em y cc ws ret NL FR LO X σ pc lv (.int n :: st) (bh_bnd (bh_newA σ 12 n) f) := by
  refine bj_bnd (fun a σ1 hv => ?_)
  have kk := kk a σ1 hv
  obtain ⟨⟨hn, hN⟩, rfl, rfl⟩ := bh_newA_spec hv
  intro r σ' hres
  obtain ⟨hm, hk9⟩ := kk r σ' hres
  refine ⟨⟨Nat.le_trans (Nat.le_succ _) hm.1, Nat.le_trans (Nat.le_add_right _ _) hm.2⟩, fun hC => ?_⟩
  have hk9 := hk9 hC
  obtain ⟨l, p, e, s, m, args, below, meth, c, D, cy, base, e0, z0, n0⟩ := X
  obtain ⟨hx, hb, hml, hown, hts, hrt, hlk, hnm, hE⟩ := hC
  intro h0 h1 H locs ls hR hS hl

  generalize hNe : n.toNatClampNeg = N at hN hm hk9 ⊢
  have hm1 : bh_z σ + 1 ≤ bh_z σ' := hm.1
  have hm2 : bh_n σ + N ≤ bh_n σ' := hm.2
  have hz : H.size = bh_z σ := hR.1
  have hbs : base ≤ H.size := Nat.le_trans hE.2.2.1 hS.1
  refine va_newaK (atype := .int) hx hb (hts _ harr) rfl hdg rfl hn hNe (Nat.le_trans (Nat.mul_le_mul hN (show componentBytes _ ≤ 4 by decide)) (by decide)) (show bh_z σ - z0 + 1 ≤ bh_z σ' - z0 by omega) (show bh_n σ - n0 + N ≤ bh_n σ' - n0 by omega) hz (fun H1 cA e1 z1 o1 hAr hNm => ?_)
  have hcA : cA = cy 12 := Option.some.inj (hNm.symm.trans (hE.1.2 0 _ rfl).2)
  subst hcA
  refine W.cs (show bh_z σ - z0 + 1 = bh_z σ + 1 - z0 by omega) (show bh_n σ - n0 + N = bh_n σ + N - n0 by omega) ?_
  refine hk9 (show z0 ≤ bh_z σ + 1 by omega) (show n0 ≤ bh_n σ + N by omega) H1 locs ls (hR.new hbs (by rw [z1, hz]) (fun q hq => o1 q (by rw [← hz]; exact hq)) ?_) ⟨by rw [z1]; have := hS.1; omega, fun q g1 g2 => by rw [o1 q (by have := hS.1; omega)]; exact hS.2.1 q g1 g2, hS.2.2⟩ hl
  rw [hz]
  have eK : bh_K (bh_new σ 12 N N) (bh_z σ) = 12 := if_pos rfl
  refine ⟨fun r hr => ?_, fun h => ?_, fun h => ?_⟩
  · rw [eK] at hr
    exact absurd (List.getElem?_eq_some_iff.mp hr).1 (by decide)
  · rw [eK]
    have eL : bh_L (bh_new σ 12 N N) (bh_z σ) = N := if_pos rfl
    rw [eL]
    refine e1.trans (congrArg some (congrArg (arrV _ _) (funext fun j => ?_)))
    show _ = Value.int (if (12 : Nat) = 12 ∧ bh_z σ = bh_z σ then 0 else _)
    rw [if_pos ⟨rfl, rfl⟩]
    rfl
  · rw [eK] at h
    exact absurd h (by decide)
theorem bj_newz {n : Int32} {f : Nat → bh_S → Option (α × bh_S)} (harr : Cond.arrayClass .boolean ∈ ws) (hdg : decode cc pc = .ok (.newarray .boolean, 2)) (kk : ∀ (a : Nat) (σ1 : bh_S), bh_newA σ 13 n = some (a, σ1) → bh_J em y cc ws ret NL FR LO X σ1 (pc + 2) lv (.ref a :: st) (f a σ1)) : bh_J em y cc ws ret NL FR LO X σ pc lv (.int n :: st) (bh_bnd (bh_newA σ 13 n) f) := by
  refine bj_bnd (fun a σ1 hv => ?_)
  have kk := kk a σ1 hv
  obtain ⟨⟨hn, hN⟩, rfl, rfl⟩ := bh_newA_spec hv
  intro r σ' hres
  obtain ⟨hm, hk9⟩ := kk r σ' hres
  refine ⟨⟨Nat.le_trans (Nat.le_succ _) hm.1, Nat.le_trans (Nat.le_add_right _ _) hm.2⟩, fun hC => ?_⟩
  have hk9 := hk9 hC
  obtain ⟨l, p, e, s, m, args, below, meth, c, D, cy, base, e0, z0, n0⟩ := X
  obtain ⟨hx, hb, hml, hown, hts, hrt, hlk, hnm, hE⟩ := hC
  intro h0 h1 H locs ls hR hS hl

  generalize hNe : n.toNatClampNeg = N at hN hm hk9 ⊢
  have hm1 : bh_z σ + 1 ≤ bh_z σ' := hm.1
  have hm2 : bh_n σ + N ≤ bh_n σ' := hm.2
  have hz : H.size = bh_z σ := hR.1
  have hbs : base ≤ H.size := Nat.le_trans hE.2.2.1 hS.1
  refine va_newaK (atype := .boolean) hx hb (hts _ harr) rfl hdg rfl hn hNe (Nat.le_trans (Nat.mul_le_mul hN (show componentBytes _ ≤ 4 by decide)) (by decide)) (show bh_z σ - z0 + 1 ≤ bh_z σ' - z0 by omega) (show bh_n σ - n0 + N ≤ bh_n σ' - n0 by omega) hz (fun H1 cA e1 z1 o1 hAr hNm => ?_)
  have hcA : cA = cy 13 := Option.some.inj (hNm.symm.trans (hE.1.2 1 _ rfl).2)
  subst hcA
  refine W.cs (show bh_z σ - z0 + 1 = bh_z σ + 1 - z0 by omega) (show bh_n σ - n0 + N = bh_n σ + N - n0 by omega) ?_
  refine hk9 (show z0 ≤ bh_z σ + 1 by omega) (show n0 ≤ bh_n σ + N by omega) H1 locs ls (hR.new hbs (by rw [z1, hz]) (fun q hq => o1 q (by rw [← hz]; exact hq)) ?_) ⟨by rw [z1]; have := hS.1; omega, fun q g1 g2 => by rw [o1 q (by have := hS.1; omega)]; exact hS.2.1 q g1 g2, hS.2.2⟩ hl
  rw [hz]
  have eK : bh_K (bh_new σ 13 N N) (bh_z σ) = 13 := if_pos rfl
  refine ⟨fun r hr => ?_, fun h => ?_, fun h => ?_⟩
  · rw [eK] at hr
    exact absurd (List.getElem?_eq_some_iff.mp hr).1 (by decide)
  · rw [eK]
    have eL : bh_L (bh_new σ 13 N N) (bh_z σ) = N := if_pos rfl
    rw [eL]
    refine e1.trans (congrArg some (congrArg (arrV _ _) (funext fun j => ?_)))
    show _ = Value.int (if (13 : Nat) = 13 ∧ bh_z σ = bh_z σ then 0 else _)
    rw [if_pos ⟨rfl, rfl⟩]
    rfl
  · rw [eK] at h
    exact absurd h (by decide)
theorem bj_newF {index : Nat} {n : Int32} {f : Nat → bh_S → Option (α × bh_S)} (hcl : Cond.classLink y.cls index "BeetHouse$Farmer" ∈ ws) (hdg : decode cc pc = .ok (.anewarray index, 3)) (kk : ∀ (a : Nat) (σ1 : bh_S), bh_newA σ 14 n = some (a, σ1) → bh_J em y cc ws ret NL FR LO X σ1 (pc + 3) lv (.ref a :: st) (f a σ1)) : bh_J em y cc ws ret NL FR LO X σ pc lv (.int n :: st) (bh_bnd (bh_newA σ 14 n) f) := by
  refine bj_bnd (fun a σ1 hv => ?_)
  have kk := kk a σ1 hv
  obtain ⟨⟨hn, hN⟩, rfl, rfl⟩ := bh_newA_spec hv
  intro r σ' hres
  obtain ⟨hm, hk9⟩ := kk r σ' hres
  refine ⟨⟨Nat.le_trans (Nat.le_succ _) hm.1, Nat.le_trans (Nat.le_add_right _ _) hm.2⟩, fun hC => ?_⟩
  have hk9 := hk9 hC
  obtain ⟨l, p, e, s, m, args, below, meth, c, D, cy, base, e0, z0, n0⟩ := X
  obtain ⟨hx, hb, hml, hown, hts, hrt, hlk, hnm, hE⟩ := hC
  intro h0 h1 H locs ls hR hS hl

  have hm1 : bh_z σ + 1 ≤ bh_z σ' := hm.1
  have hm2 : bh_n σ + n.toNatClampNeg ≤ bh_n σ' := hm.2
  have hz : H.size = bh_z σ := hR.1
  have hbs : base ≤ H.size := Nat.le_trans hE.2.2.1 hS.1
  refine W.anew hx hb hown (hts _ hcl) (va_AO.use hE.2.2.2.1.1) rfl hdg rfl hn (by omega) (show bh_z σ - z0 + 1 ≤ bh_z σ' - z0 by omega) (show bh_n σ - n0 + n.toNatClampNeg ≤ bh_n σ' - n0 by omega) (fun cA kA comp f1 f2 f3 f4 => ?_)
  generalize hN' : n.toNatClampNeg = N at hm hk9 hm2 ⊢
  generalize hH1 : H.push ({ cls := cA, slots := Array.replicate N .null, vm := .none } : Cell) = H1
  have z1 : H1.size = H.size + 1 := by rw [← hH1, Array.size_push]
  have e1 : H1[H.size]? = some (arrV cA N (fun _ => .null)) := by rw [← hH1, Array.getElem?_push_size, ← arrV_new]
  have o1 : ∀ q : Nat, q < H.size → H1[q]? = H[q]? := fun q hq => by rw [← hH1, Array.getElem?_push, if_neg (Nat.ne_of_lt hq)]
  have hcA : cA = cy 14 := by
    obtain ⟨kA9, comp9, k1, k2, k3, k4⟩ := (hE.1.2 2 _ rfl).2
    exact Option.some.inj (f1.symm.trans k4)
  subst hcA
  refine W.eq (g2 := F0 m (pc + 3) ls (.ref (bh_z σ) :: st)) (by rw [← hz]) ?_
  refine W.cs (show bh_z σ - z0 + 1 = bh_z σ + 1 - z0 by omega) (show bh_n σ - n0 + N = bh_n σ + N - n0 by omega) ?_
  refine hk9 (show z0 ≤ bh_z σ + 1 by omega) (show n0 ≤ bh_n σ + N by omega) H1 locs ls (hR.new hbs z1 o1 ?_) ⟨by rw [z1]; have := hS.1; omega, fun q g1 g2 => by rw [o1 q (by have := hS.1; omega)]; exact hS.2.1 q g1 g2, hS.2.2⟩ hl
  rw [hz] at e1 ⊢
  have eK : bh_K (bh_new σ 14 N N) (bh_z σ) = 14 := if_pos rfl
  refine ⟨fun r hr => ?_, fun h => ?_, fun h => ?_⟩
  · rw [eK] at hr
    exact absurd (List.getElem?_eq_some_iff.mp hr).1 (by decide)
  · rw [eK] at h
    exact absurd h (by decide)
  · rw [eK]
    have eL : bh_L (bh_new σ 14 N N) (bh_z σ) = N := if_pos rfl
    rw [eL]
    refine e1.trans (congrArg some (congrArg (arrV _ _) (funext fun j => ?_)))
    show _ = va_rf (if (14 : Nat) = 14 ∧ bh_z σ = bh_z σ then none else _)
    rw [if_pos ⟨rfl, rfl⟩]
    rfl
theorem bj_newG {index : Nat} {n : Int32} {f : Nat → bh_S → Option (α × bh_S)} (hcl : Cond.classLink y.cls index "BeetHouse$Gang" ∈ ws) (hdg : decode cc pc = .ok (.anewarray index, 3)) (kk : ∀ (a : Nat) (σ1 : bh_S), bh_newA σ 15 n = some (a, σ1) → bh_J em y cc ws ret NL FR LO X σ1 (pc + 3) lv (.ref a :: st) (f a σ1)) : bh_J em y cc ws ret NL FR LO X σ pc lv (.int n :: st) (bh_bnd (bh_newA σ 15 n) f) := by
  refine bj_bnd (fun a σ1 hv => ?_)
  have kk := kk a σ1 hv
  obtain ⟨⟨hn, hN⟩, rfl, rfl⟩ := bh_newA_spec hv
  intro r σ' hres
  obtain ⟨hm, hk9⟩ := kk r σ' hres
  refine ⟨⟨Nat.le_trans (Nat.le_succ _) hm.1, Nat.le_trans (Nat.le_add_right _ _) hm.2⟩, fun hC => ?_⟩
  have hk9 := hk9 hC
  obtain ⟨l, p, e, s, m, args, below, meth, c, D, cy, base, e0, z0, n0⟩ := X
  obtain ⟨hx, hb, hml, hown, hts, hrt, hlk, hnm, hE⟩ := hC
  intro h0 h1 H locs ls hR hS hl

  have hm1 : bh_z σ + 1 ≤ bh_z σ' := hm.1
  have hm2 : bh_n σ + n.toNatClampNeg ≤ bh_n σ' := hm.2
  have hz : H.size = bh_z σ := hR.1
  have hbs : base ≤ H.size := Nat.le_trans hE.2.2.1 hS.1
  refine W.anew hx hb hown (hts _ hcl) (va_AO.use hE.2.2.2.1.2.1) rfl hdg rfl hn (by omega) (show bh_z σ - z0 + 1 ≤ bh_z σ' - z0 by omega) (show bh_n σ - n0 + n.toNatClampNeg ≤ bh_n σ' - n0 by omega) (fun cA kA comp f1 f2 f3 f4 => ?_)
  generalize hN' : n.toNatClampNeg = N at hm hk9 hm2 ⊢
  generalize hH1 : H.push ({ cls := cA, slots := Array.replicate N .null, vm := .none } : Cell) = H1
  have z1 : H1.size = H.size + 1 := by rw [← hH1, Array.size_push]
  have e1 : H1[H.size]? = some (arrV cA N (fun _ => .null)) := by rw [← hH1, Array.getElem?_push_size, ← arrV_new]
  have o1 : ∀ q : Nat, q < H.size → H1[q]? = H[q]? := fun q hq => by rw [← hH1, Array.getElem?_push, if_neg (Nat.ne_of_lt hq)]
  have hcA : cA = cy 15 := by
    obtain ⟨kA9, comp9, k1, k2, k3, k4⟩ := (hE.1.2 3 _ rfl).2
    exact Option.some.inj (f1.symm.trans k4)
  subst hcA
  refine W.eq (g2 := F0 m (pc + 3) ls (.ref (bh_z σ) :: st)) (by rw [← hz]) ?_
  refine W.cs (show bh_z σ - z0 + 1 = bh_z σ + 1 - z0 by omega) (show bh_n σ - n0 + N = bh_n σ + N - n0 by omega) ?_
  refine hk9 (show z0 ≤ bh_z σ + 1 by omega) (show n0 ≤ bh_n σ + N by omega) H1 locs ls (hR.new hbs z1 o1 ?_) ⟨by rw [z1]; have := hS.1; omega, fun q g1 g2 => by rw [o1 q (by have := hS.1; omega)]; exact hS.2.1 q g1 g2, hS.2.2⟩ hl
  rw [hz] at e1 ⊢
  have eK : bh_K (bh_new σ 15 N N) (bh_z σ) = 15 := if_pos rfl
  refine ⟨fun r hr => ?_, fun h => ?_, fun h => ?_⟩
  · rw [eK] at hr
    exact absurd (List.getElem?_eq_some_iff.mp hr).1 (by decide)
  · rw [eK] at h
    exact absurd h (by decide)
  · rw [eK]
    have eL : bh_L (bh_new σ 15 N N) (bh_z σ) = N := if_pos rfl
    rw [eL]
    refine e1.trans (congrArg some (congrArg (arrV _ _) (funext fun j => ?_)))
    show _ = va_rf (if (15 : Nat) = 15 ∧ bh_z σ = bh_z σ then none else _)
    rw [if_pos ⟨rfl, rfl⟩]
    rfl
theorem bj_newQ {index : Nat} {n : Int32} {f : Nat → bh_S → Option (α × bh_S)} (hcl : Cond.classLink y.cls index "java/lang/Object" ∈ ws) (hdg : decode cc pc = .ok (.anewarray index, 3)) (kk : ∀ (a : Nat) (σ1 : bh_S), bh_newA σ 16 n = some (a, σ1) → bh_J em y cc ws ret NL FR LO X σ1 (pc + 3) lv (.ref a :: st) (f a σ1)) : bh_J em y cc ws ret NL FR LO X σ pc lv (.int n :: st) (bh_bnd (bh_newA σ 16 n) f) := by
  refine bj_bnd (fun a σ1 hv => ?_)
  have kk := kk a σ1 hv
  obtain ⟨⟨hn, hN⟩, rfl, rfl⟩ := bh_newA_spec hv
  intro r σ' hres
  obtain ⟨hm, hk9⟩ := kk r σ' hres
  refine ⟨⟨Nat.le_trans (Nat.le_succ _) hm.1, Nat.le_trans (Nat.le_add_right _ _) hm.2⟩, fun hC => ?_⟩
  have hk9 := hk9 hC
  obtain ⟨l, p, e, s, m, args, below, meth, c, D, cy, base, e0, z0, n0⟩ := X
  obtain ⟨hx, hb, hml, hown, hts, hrt, hlk, hnm, hE⟩ := hC
  intro h0 h1 H locs ls hR hS hl

  have hm1 : bh_z σ + 1 ≤ bh_z σ' := hm.1
  have hm2 : bh_n σ + n.toNatClampNeg ≤ bh_n σ' := hm.2
  have hz : H.size = bh_z σ := hR.1
  have hbs : base ≤ H.size := Nat.le_trans hE.2.2.1 hS.1
  refine W.anew hx hb hown (hts _ hcl) (va_AO.use hE.2.2.2.1.2.2) rfl hdg rfl hn (by omega) (show bh_z σ - z0 + 1 ≤ bh_z σ' - z0 by omega) (show bh_n σ - n0 + n.toNatClampNeg ≤ bh_n σ' - n0 by omega) (fun cA kA comp f1 f2 f3 f4 => ?_)
  generalize hN' : n.toNatClampNeg = N at hm hk9 hm2 ⊢
  generalize hH1 : H.push ({ cls := cA, slots := Array.replicate N .null, vm := .none } : Cell) = H1
  have z1 : H1.size = H.size + 1 := by rw [← hH1, Array.size_push]
  have e1 : H1[H.size]? = some (arrV cA N (fun _ => .null)) := by rw [← hH1, Array.getElem?_push_size, ← arrV_new]
  have o1 : ∀ q : Nat, q < H.size → H1[q]? = H[q]? := fun q hq => by rw [← hH1, Array.getElem?_push, if_neg (Nat.ne_of_lt hq)]
  have hcA : cA = cy 16 := by
    obtain ⟨kA9, comp9, k1, k2, k3, k4⟩ := (hE.1.2 4 _ rfl).2
    exact Option.some.inj (f1.symm.trans k4)
  subst hcA
  refine W.eq (g2 := F0 m (pc + 3) ls (.ref (bh_z σ) :: st)) (by rw [← hz]) ?_
  refine W.cs (show bh_z σ - z0 + 1 = bh_z σ + 1 - z0 by omega) (show bh_n σ - n0 + N = bh_n σ + N - n0 by omega) ?_
  refine hk9 (show z0 ≤ bh_z σ + 1 by omega) (show n0 ≤ bh_n σ + N by omega) H1 locs ls (hR.new hbs z1 o1 ?_) ⟨by rw [z1]; have := hS.1; omega, fun q g1 g2 => by rw [o1 q (by have := hS.1; omega)]; exact hS.2.1 q g1 g2, hS.2.2⟩ hl
  rw [hz] at e1 ⊢
  have eK : bh_K (bh_new σ 16 N N) (bh_z σ) = 16 := if_pos rfl
  refine ⟨fun r hr => ?_, fun h => ?_, fun h => ?_⟩
  · rw [eK] at hr
    exact absurd (List.getElem?_eq_some_iff.mp hr).1 (by decide)
  · rw [eK] at h
    exact absurd h (by decide)
  · rw [eK]
    have eL : bh_L (bh_new σ 16 N N) (bh_z σ) = N := if_pos rfl
    rw [eL]
    refine e1.trans (congrArg some (congrArg (arrV _ _) (funext fun j => ?_)))
    show _ = va_rf (if (16 : Nat) = 16 ∧ bh_z σ = bh_z σ then none else _)
    rw [if_pos ⟨rfl, rfl⟩]
    rfl
theorem bh_cst_spec {σ : bh_S} {c : Nat} {o : Option Nat} {u : Unit} (h : bh_cst σ c o = some u) : o = none ∨ ∃ a, o = some a ∧ bh_K σ a = c := by
  cases o with
  | none => exact Or.inl rfl
  | some a =>
    unfold bh_cst at h
    dsimp only at h
    split at h
    · exact Or.inr ⟨a, rfl, by assumption⟩
    · cases h
theorem bj_cast {ci index N : Nat} {C : String} {T : u_T} {o : Option Nat} {f : Unit → Option (α × bh_S)} (hc : vwCl[ci]? = some (C, T, N)) (hcl : Cond.classLink y.cls index C ∈ ws) (hdg : decode cc pc = .ok (.checkcast index, 3)) (kk : bh_J em y cc ws ret NL FR LO X σ (pc + 3) lv (va_rf o :: st) (f ())) : bh_J em y cc ws ret NL FR LO X σ pc lv (va_rf o :: st) ((bh_cst σ ci o).bind f) := by
  refine bj_op (fun u hv => ?_)
  have hs := bh_cst_spec hv
  intro r σ' hres
  obtain ⟨hm, hk9⟩ := kk r σ' hres
  refine ⟨hm, fun hC => ?_⟩
  have hk9 := hk9 hC
  obtain ⟨l, p, e, s, m, args, below, meth, c, D, cy, base, e0, z0, n0⟩ := X
  obtain ⟨hx, hb, hml, hown, hts, hrt, hlk, hnm, hE⟩ := hC
  intro h0 h1 H locs ls hR hS hl

  rcases hs with rfl | ⟨a, rfl, hK⟩
  · exact lv_castN hx hb hdg (hk9 h0 h1 H locs ls hR hS hl)
  · exact va_castS hx hb hown (hts _ hcl) (hE.1.1 ci _ hc).2 (bh_recv hE hR hK hc) hdg (hk9 h0 h1 H locs ls hR hS hl)
theorem bj_gets {index : Nat} (hlink : Cond.fieldLink y.cls index "java/util/ArrayList" "DEFAULTCAPACITY_EMPTY_ELEMENTDATA" "[Ljava/lang/Object;" ∈ ws) (hdg : decode cc pc = .ok (.getstatic index, 3)) (k : bh_J em y cc ws ret NL FR LO X σ (pc + 3) lv (.ref (bh_e σ) :: st) res) : bh_J em y cc ws ret NL FR LO X σ pc lv st res := by
  intro r σ' hres
  obtain ⟨hm, hk⟩ := k r σ' hres
  refine ⟨hm, fun hC => ?_⟩
  have hk := hk hC
  obtain ⟨l, p, e, s, m, args, below, meth, c, D, cy, base, e0, z0, n0⟩ := X
  obtain ⟨hx, hb, hml, hown, hts, hrt, hlk, hnm, hE⟩ := hC
  intro h0 h1 H locs ls hR hS hl
  rw [hR.2.1] at hk
  exact va_gets hx hb hE.2.2.2.2.1 hS hown (hts _ hlink) (fun _ h => h) hdg (hk h0 h1 H locs ls hR hS hl)
/-- Math.min, Math.max -/
def bh_min (x y : Int32) : Int32 := if y < x then y else x
def bh_max (x y : Int32) : Int32 := if x < y then y else x
theorem bj_min {index : Nat} {x y0 : Int32} (h1w : Cond.methodLink y.cls index Lib.Math.min.name ∈ ws) (h2w : Cond.static Lib.Math.min.name ∈ ws) (h3w : Cond.initialized "java/lang/Math" ∈ ws) (h4w : Cond.code Lib.Math.min.name Lib.Math.min.code 2 (some .int) ∈ ws) (hfr : 1 ≤ FR) (hlo : (st.map fun v => v.category).sum + 13 ≤ LO) (hdg : decode cc pc = .ok (.invokestatic index, 3)) (k : bh_J em y cc ws ret NL FR LO X σ (pc + 3) lv (.int (bh_min x y0) :: st) res) : bh_J em y cc ws ret NL FR LO X σ pc lv (.int y0 :: .int x :: st) res := by
  intro r σ' hres
  obtain ⟨hm, hk⟩ := k r σ' hres
  refine ⟨hm, fun hC => ?_⟩
  have hk := hk hC
  obtain ⟨l, p, e, s, m, args, below, meth, c, D, cy, base, e0, z0, n0⟩ := X
  obtain ⟨hx, hb, hml, hown, hts, hrt, hlk, hnm, hE⟩ := hC
  intro h0 h1 H locs ls hR hS hl
  exact va_mmin hx hb (hml.trans hl.1.symm) hown (hts _ h1w) (hts _ h2w) (hts _ h3w) (hts _ h4w) hfr hlo (show bh_z σ - z0 ≤ bh_z σ' - z0 by have := hm.1; omega) (show bh_n σ - n0 ≤ bh_n σ' - n0 by have := hm.2; omega) hdg (hk h0 h1 H locs ls hR hS hl)
theorem bj_max {index : Nat} {x y0 : Int32} (h1w : Cond.methodLink y.cls index Lib.Math.max.name ∈ ws) (h2w : Cond.static Lib.Math.max.name ∈ ws) (h3w : Cond.initialized "java/lang/Math" ∈ ws) (h4w : Cond.code Lib.Math.max.name Lib.Math.max.code 2 (some .int) ∈ ws) (hfr : 1 ≤ FR) (hlo : (st.map fun v => v.category).sum + 13 ≤ LO) (hdg : decode cc pc = .ok (.invokestatic index, 3)) (k : bh_J em y cc ws ret NL FR LO X σ (pc + 3) lv (.int (bh_max x y0) :: st) res) : bh_J em y cc ws ret NL FR LO X σ pc lv (.int y0 :: .int x :: st) res := by
  intro r σ' hres
  obtain ⟨hm, hk⟩ := k r σ' hres
  refine ⟨hm, fun hC => ?_⟩
  have hk := hk hC
  obtain ⟨l, p, e, s, m, args, below, meth, c, D, cy, base, e0, z0, n0⟩ := X
  obtain ⟨hx, hb, hml, hown, hts, hrt, hlk, hnm, hE⟩ := hC
  intro h0 h1 H locs ls hR hS hl
  exact va_mmax hx hb (hml.trans hl.1.symm) hown (hts _ h1w) (hts _ h2w) (hts _ h3w) (hts _ h4w) hfr hlo (show bh_z σ - z0 ≤ bh_z σ' - z0 by have := hm.1; omega) (show bh_n σ - n0 ≤ bh_n σ' - n0 by have := hm.2; omega) hdg (hk h0 h1 H locs ls hR hS hl)
theorem bj_objInit {index a : Nat} (h1w : Cond.methodLink y.cls index Lib.objectInit ∈ ws) (h2w : Cond.instanceMethod Lib.objectInit ∈ ws) (h3w : Cond.code Lib.objectInit ⟨#[0xb1]⟩ 1 none ∈ ws) (hfr : 1 ≤ FR) (hlo : (st.map fun v => v.category).sum + 12 ≤ LO) (hdg : decode cc pc = .ok (.invokespecial index, 3)) (k : bh_J em y cc ws ret NL FR LO X σ (pc + 3) lv st res) : bh_J em y cc ws ret NL FR LO X σ pc lv (.ref a :: st) res := by
  intro r σ' hres
  obtain ⟨hm, hk⟩ := k r σ' hres
  refine ⟨hm, fun hC => ?_⟩
  have hk := hk hC
  obtain ⟨l, p, e, s, m, args, below, meth, c, D, cy, base, e0, z0, n0⟩ := X
  obtain ⟨hx, hb, hml, hown, hts, hrt, hlk, hnm, hE⟩ := hC
  intro h0 h1 H locs ls hR hS hl
  exact W.objInit hx hb hown (hts _ h1w) (hts _ h2w) (hts _ h3w) rfl (by rw [hml]; exact hl.1) rfl hdg hfr (show 2 * 0 + _ + 12 ≤ LO by omega) (hk h0 h1 H locs ls hR hS hl)
/-- a call that a contract answers -/
def bh_Run {β : Type} (em' : β → Option Value) (y : MethodName) (cc : ByteArray) (ws : List Cond) (ret : Option FieldType) (NL FR LO : Nat) (X : bh_X) (σ : bh_S) (pc : Nat) (lv : List (Nat × Value)) (st rest : List Value) (g : Option (β × bh_S)) : Prop :=
  ∀ (v : β) (σ1 : bh_S), g = some (v, σ1) → (bh_z σ ≤ bh_z σ1 ∧ bh_n σ ≤ bh_n σ1) ∧ (bh_C y cc ws ret NL X → match X with
    | (l, p, e, s, m, args, below, meth, c, D, cy, base, e0, _, _) => ∀ (R : Room) (H : Heap) (locs : List Loc) (ls : Array Slot) (cells slots : Nat), R.frames = FR → R.locals = LO → cells + (bh_z σ1 - bh_z σ) ≤ R.cells → slots + (bh_n σ1 - bh_n σ) ≤ R.slots → bh_Rep D cy base e0 σ H → va_S (fun q => base ≤ q) s.heap H locs → lv_has ls NL lv →
      ∃ av : Array Value, va_Run p l e R s m args below meth c H locs cells slots (bh_z σ1 - bh_z σ) (bh_n σ1 - bh_n σ) (F0 m pc ls st) rest (bh_Q D cy base e0 (em' v) σ1 av) (fun q => base ≤ q))
theorem bj_call {β : Type} {em' : β → Option Value} {rest : List Value} {g : Option (β × bh_S)} {f : β → bh_S → Option (α × bh_S)} (hr : bh_Run em' y cc ws ret NL FR LO X σ pc lv st rest g) (kk : ∀ (v : β) (σ1 : bh_S), g = some (v, σ1) → bh_J em y cc ws ret NL FR LO X σ1 (pc + 3) lv ((em' v).toList ++ rest) (f v σ1)) : bh_J em y cc ws ret NL FR LO X σ pc lv st (bh_bnd g f) := by
  refine bj_bnd (fun v σ1 hv => ?_)
  intro r σ' hres
  obtain ⟨hm, hk9⟩ := kk v σ1 hv r σ' hres
  obtain ⟨hm1, hr9⟩ := hr v σ1 hv
  refine ⟨⟨Nat.le_trans hm1.1 hm.1, Nat.le_trans hm1.2 hm.2⟩, fun hC => ?_⟩
  have hk9 := hk9 hC
  have hr9 := hr9 hC
  obtain ⟨l, p, e, s, m, args, below, meth, c, D, cy, base, e0, z0, n0⟩ := X
  obtain ⟨hx, hb, hml, hown, hts, hrt, hlk, hnm, hE⟩ := hC
  intro h0 h1 H locs ls hR hS hl
  have a1 := hm1.1
  have a2 := hm1.2
  have b1 := hm.1
  have b2 := hm.2
  obtain ⟨av, hr9⟩ := hr9 (bh_Rm FR LO (bh_z σ' - z0) (bh_n σ' - n0)) H locs ls (bh_z σ - z0) (bh_n σ - n0) rfl rfl (show _ ≤ bh_z σ' - z0 by omega) (show _ ≤ bh_n σ' - n0 by omega) hR hS hl
  refine bh_Wcall hr9 hS (fun H1 locs1 hR1 hS1 => ?_)
  exact W.cs (show _ = bh_z σ1 - z0 by omega) (show _ = bh_n σ1 - n0 by omega) (hk9 (by omega) (by omega) H1 locs1 ls hR1 hS1 hl)
theorem bj_callI {rest : List Value} {g : Option (Int32 × bh_S)} {f : Int32 → bh_S → Option (α × bh_S)} (hr : bh_Run eI y cc ws ret NL FR LO X σ pc lv st rest g) (kk : ∀ (v : Int32) (σ1 : bh_S), g = some (v, σ1) → bh_J em y cc ws ret NL FR LO X σ1 (pc + 3) lv (.int v :: rest) (f v σ1)) : bh_J em y cc ws ret NL FR LO X σ pc lv st (bh_bnd g f) := bj_call hr kk
theorem bj_callR {rest : List Value} {g : Option (Option Nat × bh_S)} {f : Option Nat → bh_S → Option (α × bh_S)} (hr : bh_Run eR y cc ws ret NL FR LO X σ pc lv st rest g) (kk : ∀ (v : Option Nat) (σ1 : bh_S), g = some (v, σ1) → bh_J em y cc ws ret NL FR LO X σ1 (pc + 3) lv (va_rf v :: rest) (f v σ1)) : bh_J em y cc ws ret NL FR LO X σ pc lv st (bh_bnd g f) := bj_call hr kk
theorem bj_callU {rest : List Value} {g : Option (Unit × bh_S)} {f : Unit → bh_S → Option (α × bh_S)} (hr : bh_Run eU y cc ws ret NL FR LO X σ pc lv st rest g) (kk : ∀ (v : Unit) (σ1 : bh_S), g = some (v, σ1) → bh_J em y cc ws ret NL FR LO X σ1 (pc + 3) lv rest (f v σ1)) : bh_J em y cc ws ret NL FR LO X σ pc lv st (bh_bnd g f) := bj_call hr kk
section BHC
variable {β : Type} {em' : β → Option Value} {y' : MethodName} {cc' : ByteArray} {ws' ws2 : List Cond} {ret' : Option FieldType} {NL' FR' LO' n index : Nat} {As rest : List Value} {g : Option (β × bh_S)} {b ci : Nat} {q : vw_C}
theorem bh_Pre {D : va_G} {cy : Nat → ClassId} {base e0 : Nat} {s : State} {H : Heap} {locs : List Loc} {av : List Value} (hE : bh_Env D cy base e0 s) (hR : bh_Rep D cy base e0 σ H) (hS : va_S (fun q => base ≤ q) s.heap H locs) : FrameBlind (va_Pc av (fun U => bh_Env D cy base e0 U ∧ bh_Rep D cy base e0 σ U.heap)) ∧ ∀ U : State, U.heap = H → s.WarmedH U.vm → va_Pc av (fun U => bh_Env D cy base e0 U ∧ bh_Rep D cy base e0 σ U.heap) av.toArray U :=
  ⟨fun _ _ _ _ h => ⟨h.1, h.2.1.blind, h.2.2⟩, fun U hU hW => ⟨rfl, hE.moved hS hU hW, by rw [hU]; exact hR⟩⟩
theorem br_V (hM : bh_MX em' X y' ws' FR' LO' (.ref b :: As) σ g) (hw : ws' = Cond.code y' cc' NL' ret' :: ws2) (hG : GoodIn ws (wsV y.cls index q.1 y' ws')) (hc : vwCl[ci]? = some q) (hK : bh_K σ b = ci) (hd : y'.cls = q.1 ∧ y'.cls ≠ "java/lang/invoke/MethodHandle" ∧ y'.cls ≠ "java/lang/invoke/VarHandle" ∧ (parseMethodDescriptor y'.desc).map (fun d => d.parameters.length) = some n) (hn : As.length = n) (hroom : FR' + 1 ≤ FR ∧ 8 + (NL' + 11) + LO' ≤ LO) (hst : st = As.reverse ++ .ref b :: rest) (hcat : (rest.map fun v => v.category).sum ≤ 8) (hdg : decode cc pc = .ok (.invokevirtual index, 3)) : bh_Run em' y cc ws ret NL FR LO X σ pc lv st rest g := by
  intro v σ1 hg
  obtain ⟨hm, hM⟩ := hM v σ1 hg
  refine ⟨hm, fun hC => ?_⟩
  obtain ⟨l, p, e, s, m, args, below, meth, c, D, cy, base, e0, z0, n0⟩ := X
  obtain ⟨hx, hb, hml, hown, hts, hrt, hlk, hnm, hE⟩ := hC
  intro R H locs ls cells slots hRf hRl hcl hsl hR hS hl
  have hP := bh_Pre (av := .ref b :: As) hE hR hS
  exact ⟨_, va_runV (As := As) (rest := rest) ⟨hx, hb, hml, hown, hts⟩ hM (cwV n hts hG hw rfl rfl hd (by rw [hRf, hRl]; exact hroom)) ⟨hP.1, bh_recv hE hR hK hc, hP.2⟩ rfl hn hl.1 hst (lv_room hcat) hdg ⟨hcl, hsl⟩⟩
theorem br_VN {host : String} (hM : bh_MX em' X y' ws' FR' LO' (.ref b :: As) σ g) (hw : ws' = Cond.code y' cc' NL' ret' :: ws2) (hG : GoodIn ws ws') (hN : Cond.methodLinkNest y.cls index y' host ∈ bh_nest) (h1w : Cond.initialized y'.cls ∈ ws) (h2w : Cond.instanceMethod y' ∈ ws) (h3w : Cond.selects q.1 y' y' ∈ ws) (hc : vwCl[ci]? = some q) (hK : bh_K σ b = ci) (hd : y'.cls ≠ "java/lang/invoke/MethodHandle" ∧ y'.cls ≠ "java/lang/invoke/VarHandle" ∧ (parseMethodDescriptor y'.desc).map (fun d => d.parameters.length) = some n) (hn : As.length = n) (hroom : FR' + 1 ≤ FR ∧ 8 + (NL' + 11) + LO' ≤ LO) (hst : st = As.reverse ++ .ref b :: rest) (hcat : (rest.map fun v => v.category).sum ≤ 8) (hdg : decode cc pc = .ok (.invokevirtual index, 3)) : bh_Run em' y cc ws ret NL FR LO X σ pc lv st rest g := by
  intro v σ1 hg
  obtain ⟨hm, hM⟩ := hM v σ1 hg
  refine ⟨hm, fun hC => ?_⟩
  obtain ⟨l, p, e, s, m, args, below, meth, c, D, cy, base, e0, z0, n0⟩ := X
  obtain ⟨hx, hb, hml, hown, hts, hrt, hlk, hnm, hE⟩ := hC
  intro R H locs ls cells slots hRf hRl hcl hsl hR hS hl
  have hP := bh_Pre (av := .ref b :: As) hE hR hS
  exact ⟨_, va_runVN (As := As) (rest := rest) (C := q.1) ⟨hx, hb, hml, hown, hts⟩ hM ⟨va_cnB n hts hG hw rfl rfl (hE.2.1 _ hN) (hts _ h1w) hd (by rw [hRf, hRl]; exact hroom), hts _ h2w, hts _ h3w⟩ ⟨hP.1, bh_recv hE hR hK hc, hP.2⟩ rfl hn hl.1 hst (lv_room hcat) hdg ⟨hcl, hsl⟩⟩
theorem br_S (hM : bh_MX em' X y' ws' FR' LO' As σ g) (hw : ws' = Cond.code y' cc' NL' ret' :: ws2) (hG : GoodIn ws (va_wsS y.cls index y' ws')) (hd : y'.cls ≠ "java/lang/invoke/MethodHandle" ∧ y'.cls ≠ "java/lang/invoke/VarHandle" ∧ (parseMethodDescriptor y'.desc).map (fun d => d.parameters.length) = some n) (hn : As.length = n) (hroom : FR' + 1 ≤ FR ∧ 8 + (NL' + 11) + LO' ≤ LO) (hst : st = As.reverse ++ rest) (hcat : (rest.map fun v => v.category).sum ≤ 8) (hdg : decode cc pc = .ok (.invokestatic index, 3)) : bh_Run em' y cc ws ret NL FR LO X σ pc lv st rest g := by
  intro v σ1 hg
  obtain ⟨hm, hM⟩ := hM v σ1 hg
  refine ⟨hm, fun hC => ?_⟩
  obtain ⟨l, p, e, s, m, args, below, meth, c, D, cy, base, e0, z0, n0⟩ := X
  obtain ⟨hx, hb, hml, hown, hts, hrt, hlk, hnm, hE⟩ := hC
  intro R H locs ls cells slots hRf hRl hcl hsl hR hS hl
  have hP := bh_Pre (av := As) hE hR hS
  exact ⟨_, va_runS (As := As) (rest := rest) ⟨hx, hb, hml, hown, hts⟩ hM (va_cwS n hts hG hw rfl rfl hd (by rw [hRf, hRl]; exact hroom)) hP rfl hn hl.1 hst (lv_room hcat) hdg ⟨hcl, hsl⟩⟩
theorem br_I (hM : bh_MX em' X y' ws' FR' LO' (.ref b :: As) σ g) (hw : ws' = Cond.code y' cc' NL' none :: ws2) (hG : GoodIn ws ws') (h1w : Cond.initialized y'.cls ∈ ws) (h2w : Cond.methodLink y.cls index y' ∈ ws) (h3w : Cond.instanceMethod y' ∈ ws) (hin : y'.name = "<init>") (hd : y'.cls ≠ "java/lang/invoke/MethodHandle" ∧ y'.cls ≠ "java/lang/invoke/VarHandle" ∧ (parseMethodDescriptor y'.desc).map (fun d => d.parameters.length) = some n) (hn : As.length = n) (hroom : FR' + 1 ≤ FR ∧ 8 + (NL' + 11) + LO' ≤ LO) (hst : st = As.reverse ++ .ref b :: rest) (hcat : (rest.map fun v => v.category).sum ≤ 8) (hdg : decode cc pc = .ok (.invokespecial index, 3)) : bh_Run em' y cc ws ret NL FR LO X σ pc lv st rest g := by
  intro v σ1 hg
  obtain ⟨hm, hM⟩ := hM v σ1 hg
  refine ⟨hm, fun hC => ?_⟩
  obtain ⟨l, p, e, s, m, args, below, meth, c, D, cy, base, e0, z0, n0⟩ := X
  obtain ⟨hx, hb, hml, hown, hts, hrt, hlk, hnm, hE⟩ := hC
  intro R H locs ls cells slots hRf hRl hcl hsl hR hS hl
  have hP := bh_Pre (av := .ref b :: As) hE hR hS
  exact ⟨_, va_runI (As := As) (rest := rest) ⟨hx, hb, hml, hown, hts⟩ hM (cwI n hts hG hw rfl rfl (hts _ h1w) (hts _ h2w) (hts _ h3w) hin hd (by rw [hRf, hRl]; exact hroom)) hP rfl hn hl.1 hst (lv_room hcat) hdg ⟨hcl, hsl⟩⟩
theorem br_IN {host : String} (hM : bh_MX em' X y' ws' FR' LO' (.ref b :: As) σ g) (hw : ws' = Cond.code y' cc' NL' none :: ws2) (hG : GoodIn ws ws') (hN : Cond.methodLinkNest y.cls index y' host ∈ bh_nest) (h1w : Cond.initialized y'.cls ∈ ws) (h3w : Cond.instanceMethod y' ∈ ws) (hin : y'.name = "<init>") (hd : y'.cls ≠ "java/lang/invoke/MethodHandle" ∧ y'.cls ≠ "java/lang/invoke/VarHandle" ∧ (parseMethodDescriptor y'.desc).map (fun d => d.parameters.length) = some n) (hn : As.length = n) (hroom : FR' + 1 ≤ FR ∧ 8 + (NL' + 11) + LO' ≤ LO) (hst : st = As.reverse ++ .ref b :: rest) (hcat : (rest.map fun v => v.category).sum ≤ 8) (hdg : decode cc pc = .ok (.invokespecial index, 3)) : bh_Run em' y cc ws ret NL FR LO X σ pc lv st rest g := by
  intro v σ1 hg
  obtain ⟨hm, hM⟩ := hM v σ1 hg
  refine ⟨hm, fun hC => ?_⟩
  obtain ⟨l, p, e, s, m, args, below, meth, c, D, cy, base, e0, z0, n0⟩ := X
  obtain ⟨hx, hb, hml, hown, hts, hrt, hlk, hnm, hE⟩ := hC
  intro R H locs ls cells slots hRf hRl hcl hsl hR hS hl
  have hP := bh_Pre (av := .ref b :: As) hE hR hS
  exact ⟨_, va_runIN (As := As) (rest := rest) ⟨hx, hb, hml, hown, hts⟩ hM ⟨va_cnB n hts hG hw rfl rfl (hE.2.1 _ hN) (hts _ h1w) hd (by rw [hRf, hRl]; exact hroom), hin, hts _ h3w⟩ hP rfl hn hl.1 hst (lv_room hcat) hdg ⟨hcl, hsl⟩⟩
end BHC

end BHJ2
end
