set_option maxRecDepth 100000 in
theorem lm_839 : Cond.castable "[Z" "java/lang/Object" ∈ lw_tbl := List.mem_append_right _ (List.mem_append_right _ (List.mem_append_right _ (List.mem_append_right _ (List.mem_append_right _ (List.mem_of_getElem? (i := 132) rfl)))))
set_option maxRecDepth 100000 in
theorem lm_840 : Cond.castable "[Ljava/lang/Object;" "java/lang/Object" ∈ lw_tbl := List.mem_append_right _ (List.mem_append_right _ (List.mem_append_right _ (List.mem_append_right _ (List.mem_append_right _ (List.mem_of_getElem? (i := 131) rfl)))))
set_option maxRecDepth 100000 in
theorem lm_841 : Cond.castable "[[I" "java/lang/Object" ∈ lw_tbl := List.mem_append_right _ (List.mem_append_right _ (List.mem_append_right _ (List.mem_append_right _ (List.mem_append_right _ (List.mem_of_getElem? (i := 130) rfl)))))
set_option maxRecDepth 100000 in
theorem lm_842 : Cond.castable "[I" "java/lang/Object" ∈ lw_tbl := List.mem_append_right _ (List.mem_append_right _ (List.mem_append_right _ (List.mem_append_right _ (List.mem_append_right _ (List.mem_of_getElem? (i := 129) rfl)))))
set_option maxRecDepth 100000 in
theorem lm_843 : Cond.castable "[LBeetHouse$Gang;" "java/lang/Object" ∈ lw_tbl := List.mem_append_right _ (List.mem_append_right _ (List.mem_append_right _ (List.mem_append_right _ (List.mem_append_right _ (List.mem_of_getElem? (i := 128) rfl)))))
set_option maxRecDepth 100000 in
theorem lm_844 : Cond.castable "[LBeetHouse$Farmer;" "java/lang/Object" ∈ lw_tbl := List.mem_append_right _ (List.mem_append_right _ (List.mem_append_right _ (List.mem_append_right _ (List.mem_append_right _ (List.mem_of_getElem? (i := 127) rfl)))))
set_option maxRecDepth 100000 in
theorem lm_845 : Cond.castable "BeetHouse$Load" "java/lang/Object" ∈ lw_tbl := List.mem_append_right _ (List.mem_append_right _ (List.mem_append_right _ (List.mem_append_right _ (List.mem_append_right _ (List.mem_of_getElem? (i := 123) rfl)))))
set_option maxRecDepth 100000 in
theorem lm_846 : Cond.castable "BeetHouse$Lorry" "java/lang/Object" ∈ lw_tbl := List.mem_append_right _ (List.mem_append_right _ (List.mem_append_right _ (List.mem_append_right _ (List.mem_append_right _ (List.mem_of_getElem? (i := 122) rfl)))))
set_option maxRecDepth 100000 in
theorem lm_847 : Cond.castable "BeetHouse$Plot" "java/lang/Object" ∈ lw_tbl := List.mem_append_right _ (List.mem_append_right _ (List.mem_append_right _ (List.mem_append_right _ (List.mem_append_right _ (List.mem_of_getElem? (i := 121) rfl)))))
set_option maxRecDepth 100000 in
theorem lm_848 : Cond.castable "BeetHouseModel" "java/lang/Object" ∈ lw_tbl := List.mem_append_right _ (List.mem_append_right _ (List.mem_append_right _ (List.mem_append_right _ (List.mem_append_right _ (List.mem_of_getElem? (i := 120) rfl)))))
set_option maxRecDepth 100000 in
theorem lm_849 : Cond.castable "BeetHouse$Orders" "java/lang/Object" ∈ lw_tbl := List.mem_append_right _ (List.mem_append_right _ (List.mem_append_right _ (List.mem_append_right _ (List.mem_append_right _ (List.mem_of_getElem? (i := 119) rfl)))))
set_option maxRecDepth 100000 in
theorem lm_850 : Cond.castable "BeetHouse$Mill" "java/lang/Object" ∈ lw_tbl := List.mem_append_right _ (List.mem_append_right _ (List.mem_append_right _ (List.mem_append_right _ (List.mem_append_right _ (List.mem_of_getElem? (i := 118) rfl)))))
set_option maxRecDepth 100000 in
theorem lm_851 : Cond.castable "BeetHouse$Yard" "java/lang/Object" ∈ lw_tbl := List.mem_append_right _ (List.mem_append_right _ (List.mem_append_right _ (List.mem_append_right _ (List.mem_append_right _ (List.mem_of_getElem? (i := 117) rfl)))))
set_option maxRecDepth 100000 in
theorem lm_852 : Cond.castable "BeetHouse$Weather" "java/lang/Object" ∈ lw_tbl := List.mem_append_right _ (List.mem_append_right _ (List.mem_append_right _ (List.mem_append_right _ (List.mem_append_right _ (List.mem_of_getElem? (i := 116) rfl)))))
set_option maxRecDepth 100000 in
theorem lm_853 : Cond.castable "java/util/ArrayList" "java/lang/Object" ∈ lw_tbl := List.mem_append_right _ (List.mem_append_right _ (List.mem_append_right _ (List.mem_append_right _ (List.mem_append_right _ (List.mem_of_getElem? (i := 115) rfl)))))
set_option maxRecDepth 100000 in
theorem lm_854 : Cond.castable "BeetHouse" "java/lang/Object" ∈ lw_tbl := List.mem_append_right _ (List.mem_append_right _ (List.mem_append_right _ (List.mem_append_right _ (List.mem_append_right _ (List.mem_of_getElem? (i := 114) rfl)))))
set_option maxRecDepth 100000 in
theorem lm_855 : Cond.castable "BeetHouse$Gang" "java/lang/Object" ∈ lw_tbl := List.mem_append_right _ (List.mem_append_right _ (List.mem_append_right _ (List.mem_append_right _ (List.mem_append_right _ (List.mem_of_getElem? (i := 113) rfl)))))
set_option maxRecDepth 100000 in
theorem lm_856 : Cond.castable "BeetHouse$Farmer" "java/lang/Object" ∈ lw_tbl := List.mem_append_right _ (List.mem_append_right _ (List.mem_append_right _ (List.mem_append_right _ (List.mem_append_right _ (List.mem_of_getElem? (i := 112) rfl)))))
set_option maxRecDepth 100000 in
theorem lm_857 : Cond.methodLinkNest "BeetHouse" 204 ⟨"BeetHouse$Orders", "plotAtPlace", "(I)I"⟩ "BeetHouse" ∈ lw_tbl := List.mem_append_right _ (List.mem_append_right _ (List.mem_append_right _ (List.mem_append_left _ (List.mem_of_getElem? (i := 239) rfl))))
set_option maxRecDepth 100000 in
theorem lm_858 : Cond.methodLinkNest "BeetHouse" 201 ⟨"BeetHouse$Orders", "leastWaste", "()I"⟩ "BeetHouse" ∈ lw_tbl := List.mem_append_right _ (List.mem_append_right _ (List.mem_append_right _ (List.mem_append_left _ (List.mem_of_getElem? (i := 231) rfl))))
set_option maxRecDepth 100000 in
theorem lm_859 : Cond.methodLinkNest "BeetHouse" 341 ⟨"BeetHouse$Orders", "search", "()V"⟩ "BeetHouse" ∈ lw_tbl := List.mem_append_right _ (List.mem_append_right _ (List.mem_append_right _ (List.mem_append_left _ (List.mem_of_getElem? (i := 217) rfl))))
set_option maxRecDepth 100000 in
theorem lm_860 : Cond.methodLinkNest "BeetHouse$Orders" 48 ⟨"BeetHouse$Plot", "unitsFor", "(I)I"⟩ "BeetHouse" ∈ lw_tbl := List.mem_append_right _ (List.mem_append_right _ (List.mem_append_right _ (List.mem_append_left _ (List.mem_of_getElem? (i := 216) rfl))))
set_option maxRecDepth 100000 in
theorem lm_861 : Cond.methodLinkNest "BeetHouse$Orders" 60 ⟨"BeetHouse$Plot", "wasteOf", "(II)I"⟩ "BeetHouse" ∈ lw_tbl := List.mem_append_right _ (List.mem_append_right _ (List.mem_append_right _ (List.mem_append_left _ (List.mem_of_getElem? (i := 215) rfl))))
set_option maxRecDepth 100000 in
theorem lm_862 : Cond.methodLinkNest "BeetHouse$Orders" 55 ⟨"BeetHouse$Weather", "numberOf", "(I)I"⟩ "BeetHouse" ∈ lw_tbl := List.mem_append_right _ (List.mem_append_right _ (List.mem_append_right _ (List.mem_append_left _ (List.mem_of_getElem? (i := 214) rfl))))
set_option maxRecDepth 100000 in
theorem lm_863 : Cond.methodLinkNest "BeetHouse" 338 ⟨"BeetHouse$Orders", "add", "(LBeetHouse$Plot;ILBeetHouse$Weather;)Z"⟩ "BeetHouse" ∈ lw_tbl := List.mem_append_right _ (List.mem_append_right _ (List.mem_append_right _ (List.mem_append_left _ (List.mem_of_getElem? (i := 206) rfl))))
set_option maxRecDepth 100000 in
theorem lm_864 : Cond.methodLinkNest "BeetHouse" 335 ⟨"BeetHouse$Orders", "clear", "(I)V"⟩ "BeetHouse" ∈ lw_tbl := List.mem_append_right _ (List.mem_append_right _ (List.mem_append_right _ (List.mem_append_left _ (List.mem_of_getElem? (i := 202) rfl))))
set_option maxRecDepth 100000 in
theorem lm_865 : Cond.methodLinkNest "BeetHouse" 194 ⟨"BeetHouse$Farmer", "claim", "(I)I"⟩ "BeetHouse" ∈ lw_tbl := List.mem_append_right _ (List.mem_append_right _ (List.mem_append_right _ (List.mem_append_left _ (List.mem_of_getElem? (i := 189) rfl))))
set_option maxRecDepth 100000 in
theorem lm_866 : Cond.methodLinkNest "BeetHouse" 297 ⟨"BeetHouse$Plot", "spoil", "(I)V"⟩ "BeetHouse" ∈ lw_tbl := List.mem_append_right _ (List.mem_append_right _ (List.mem_append_right _ (List.mem_append_left _ (List.mem_of_getElem? (i := 179) rfl))))
set_option maxRecDepth 100000 in
theorem lm_867 : Cond.methodLinkNest "BeetHouse" 332 ⟨"BeetHouse$Plot", "waste", "(I)V"⟩ "BeetHouse" ∈ lw_tbl := List.mem_append_right _ (List.mem_append_right _ (List.mem_append_right _ (List.mem_append_left _ (List.mem_of_getElem? (i := 170) rfl))))
set_option maxRecDepth 100000 in
theorem lm_868 : Cond.methodLinkNest "BeetHouse" 329 ⟨"BeetHouse$Weather", "numberOf", "(I)I"⟩ "BeetHouse" ∈ lw_tbl := List.mem_append_right _ (List.mem_append_right _ (List.mem_append_right _ (List.mem_append_left _ (List.mem_of_getElem? (i := 166) rfl))))
set_option maxRecDepth 100000 in
theorem lm_869 : Cond.methodLinkNest "BeetHouse$Mill" 62 ⟨"BeetHouse$Plot", "unitsFor", "(I)I"⟩ "BeetHouse" ∈ lw_tbl := List.mem_append_right _ (List.mem_append_right _ (List.mem_append_right _ (List.mem_append_left _ (List.mem_of_getElem? (i := 149) rfl))))
set_option maxRecDepth 100000 in
theorem lm_870 : Cond.methodLinkNest "BeetHouse$Mill" 50 ⟨"BeetHouse$Plot", "rootsFor", "(I)I"⟩ "BeetHouse" ∈ lw_tbl := List.mem_append_right _ (List.mem_append_right _ (List.mem_append_right _ (List.mem_append_left _ (List.mem_of_getElem? (i := 144) rfl))))
set_option maxRecDepth 100000 in
theorem lm_871 : Cond.methodLinkNest "BeetHouse" 290 ⟨"BeetHouse$Mill", "grind", "(LBeetHouse$Yard;)V"⟩ "BeetHouse" ∈ lw_tbl := List.mem_append_right _ (List.mem_append_right _ (List.mem_append_right _ (List.mem_append_left _ (List.mem_of_getElem? (i := 134) rfl))))
set_option maxRecDepth 100000 in
theorem lm_872 : Cond.methodLinkNest "BeetHouse" 320 ⟨"BeetHouse$Lorry", "comeHome", "()V"⟩ "BeetHouse" ∈ lw_tbl := List.mem_append_right _ (List.mem_append_right _ (List.mem_append_right _ (List.mem_append_left _ (List.mem_of_getElem? (i := 130) rfl))))
set_option maxRecDepth 100000 in
theorem lm_873 : Cond.methodLinkNest "BeetHouse" 313 ⟨"BeetHouse$Yard", "take", "(LBeetHouse$Load;)V"⟩ "BeetHouse" ∈ lw_tbl := List.mem_append_right _ (List.mem_append_right _ (List.mem_append_right _ (List.mem_append_left _ (List.mem_of_getElem? (i := 120) rfl))))
set_option maxRecDepth 100000 in
theorem lm_874 : Cond.methodLinkNest "BeetHouse" 310 ⟨"BeetHouse$Load", "<init>", "(LBeetHouse$Plot;II)V"⟩ "BeetHouse" ∈ lw_tbl := List.mem_append_right _ (List.mem_append_right _ (List.mem_append_right _ (List.mem_append_left _ (List.mem_of_getElem? (i := 98) rfl))))
set_option maxRecDepth 100000 in
theorem lm_875 : Cond.methodLinkNest "BeetHouse" 303 ⟨"BeetHouse$Yard", "hasRoomFor", "(I)Z"⟩ "BeetHouse" ∈ lw_tbl := List.mem_append_right _ (List.mem_append_right _ (List.mem_append_right _ (List.mem_append_left _ (List.mem_of_getElem? (i := 88) rfl))))
set_option maxRecDepth 100000 in
theorem lm_876 : Cond.methodLinkNest "BeetHouse$Lorry" 46 ⟨"BeetHouse$Plot", "wayBack", "()I"⟩ "BeetHouse" ∈ lw_tbl := List.mem_append_right _ (List.mem_append_right _ (List.mem_append_right _ (List.mem_append_left _ (List.mem_of_getElem? (i := 80) rfl))))
set_option maxRecDepth 100000 in
theorem lm_877 : Cond.methodLinkNest "BeetHouse$Lorry" 61 ⟨"BeetHouse$Plot", "lose", "(II)V"⟩ "BeetHouse" ∈ lw_tbl := List.mem_append_right _ (List.mem_append_right _ (List.mem_append_right _ (List.mem_append_left _ (List.mem_of_getElem? (i := 76) rfl))))
set_option maxRecDepth 100000 in
theorem lm_878 : Cond.methodLinkNest "BeetHouse$Lorry" 57 ⟨"BeetHouse$Plot", "sugarIn", "(I)I"⟩ "BeetHouse" ∈ lw_tbl := List.mem_append_right _ (List.mem_append_right _ (List.mem_append_right _ (List.mem_append_left _ (List.mem_of_getElem? (i := 72) rfl))))
set_option maxRecDepth 100000 in
theorem lm_879 : Cond.methodLinkNest "BeetHouse" 284 ⟨"BeetHouse$Lorry", "arrive", "(I)V"⟩ "BeetHouse" ∈ lw_tbl := List.mem_append_right _ (List.mem_append_right _ (List.mem_append_right _ (List.mem_append_left _ (List.mem_of_getElem? (i := 63) rfl))))
set_option maxRecDepth 100000 in
theorem lm_880 : Cond.methodLinkNest "BeetHouse" 300 ⟨"BeetHouse$Plot", "lift", "(I)V"⟩ "BeetHouse" ∈ lw_tbl := List.mem_append_right _ (List.mem_append_right _ (List.mem_append_right _ (List.mem_append_left _ (List.mem_of_getElem? (i := 58) rfl))))
set_option maxRecDepth 100000 in
theorem lm_881 : Cond.methodLinkNest "BeetHouse" 180 ⟨"BeetHouse$Plot", "thaw", "(I)Z"⟩ "BeetHouse" ∈ lw_tbl := List.mem_append_right _ (List.mem_append_right _ (List.mem_append_right _ (List.mem_append_left _ (List.mem_of_getElem? (i := 42) rfl))))
set_option maxRecDepth 100000 in
theorem lm_882 : Cond.methodLinkNest "BeetHouse" 176 ⟨"BeetHouse$Plot", "freeze", "()Z"⟩ "BeetHouse" ∈ lw_tbl := List.mem_append_right _ (List.mem_append_right _ (List.mem_append_right _ (List.mem_append_left _ (List.mem_of_getElem? (i := 38) rfl))))
set_option maxRecDepth 100000 in
theorem lm_883 : Cond.methodLinkNest "BeetHouse" 277 ⟨"BeetHouse$Farmer", "comesBefore", "(LBeetHouse$Farmer;I)Z"⟩ "BeetHouse" ∈ lw_tbl := List.mem_append_right _ (List.mem_append_right _ (List.mem_append_left _ (List.mem_of_getElem? (i := 238) rfl)))
set_option maxRecDepth 100000 in
theorem lm_884 : Cond.methodLinkNest "BeetHouse" 267 ⟨"BeetHouse$Lorry", "isOutTo", "(LBeetHouse$Plot;)Z"⟩ "BeetHouse" ∈ lw_tbl := List.mem_append_right _ (List.mem_append_right _ (List.mem_append_left _ (List.mem_of_getElem? (i := 234) rfl)))
set_option maxRecDepth 100000 in
theorem lm_885 : Cond.methodLinkNest "BeetHouse" 127 ⟨"BeetHouse$Lorry", "setOut", "(LBeetHouse$Plot;I)V"⟩ "BeetHouse" ∈ lw_tbl := List.mem_append_right _ (List.mem_append_right _ (List.mem_append_left _ (List.mem_of_getElem? (i := 214) rfl)))
set_option maxRecDepth 100000 in
theorem lm_886 : Cond.methodLinkNest "BeetHouse" 119 ⟨"BeetHouse$Lorry", "<init>", "(I)V"⟩ "BeetHouse" ∈ lw_tbl := List.mem_append_right _ (List.mem_append_right _ (List.mem_append_left _ (List.mem_of_getElem? (i := 169) rfl)))
set_option maxRecDepth 100000 in
theorem lm_887 : Cond.methodLinkNest "BeetHouse" 99 ⟨"BeetHouse$Plot", "<init>", "(ILBeetHouse$Farmer;IIIZ)V"⟩ "BeetHouse" ∈ lw_tbl := List.mem_append_right _ (List.mem_append_right _ (List.mem_append_left _ (List.mem_of_getElem? (i := 17) rfl)))
set_option maxRecDepth 100000 in
theorem lm_888 : Cond.methodLinkNest "BeetHouse" 77 ⟨"BeetHouse$Gang", "<init>", "()V"⟩ "BeetHouse" ∈ lw_tbl := List.mem_append_right _ (List.mem_append_left _ (List.mem_of_getElem? (i := 182) rfl))
set_option maxRecDepth 100000 in
theorem lm_889 : Cond.methodLinkNest "BeetHouse" 74 ⟨"BeetHouse$Farmer", "<init>", "(I)V"⟩ "BeetHouse" ∈ lw_tbl := List.mem_append_right _ (List.mem_append_left _ (List.mem_of_getElem? (i := 160) rfl))
set_option maxRecDepth 100000 in
theorem lm_890 : Cond.methodLinkNest "BeetHouse" 54 ⟨"BeetHouse$Orders", "<init>", "()V"⟩ "BeetHouse" ∈ lw_tbl := List.mem_append_right _ (List.mem_append_left _ (List.mem_of_getElem? (i := 131) rfl))
set_option maxRecDepth 100000 in
theorem lm_891 : Cond.methodLinkNest "BeetHouse" 47 ⟨"BeetHouse$Mill", "<init>", "()V"⟩ "BeetHouse" ∈ lw_tbl := List.mem_append_right _ (List.mem_append_left _ (List.mem_of_getElem? (i := 104) rfl))
set_option maxRecDepth 100000 in
theorem lm_892 : Cond.methodLinkNest "BeetHouse" 40 ⟨"BeetHouse$Yard", "<init>", "()V"⟩ "BeetHouse" ∈ lw_tbl := List.mem_append_right _ (List.mem_append_left _ (List.mem_of_getElem? (i := 77) rfl))
set_option maxRecDepth 100000 in
theorem lm_893 : Cond.methodLinkNest "BeetHouse" 33 ⟨"BeetHouse$Weather", "<init>", "()V"⟩ "BeetHouse" ∈ lw_tbl := List.mem_append_right _ (List.mem_append_left _ (List.mem_of_getElem? (i := 61) rfl))
set_option maxRecDepth 100000 in
theorem lm_894 : Cond.fieldLinkNest "BeetHouse" 247 "BeetHouse$Load" "sugar" "I" "BeetHouse" ∈ lw_tbl := List.mem_append_right _ (List.mem_append_right _ (List.mem_append_right _ (List.mem_append_left _ (List.mem_of_getElem? (i := 112) rfl))))
set_option maxRecDepth 100000 in
theorem lm_895 : Cond.fieldLinkNest "BeetHouse$Mill" 66 "BeetHouse$Load" "sugar" "I" "BeetHouse" ∈ lw_tbl := List.mem_append_right _ (List.mem_append_right _ (List.mem_append_right _ (List.mem_append_left _ (List.mem_of_getElem? (i := 111) rfl))))
set_option maxRecDepth 100000 in
theorem lm_896 : Cond.fieldLinkNest "BeetHouse" 246 "BeetHouse$Load" "roots" "I" "BeetHouse" ∈ lw_tbl := List.mem_append_right _ (List.mem_append_right _ (List.mem_append_right _ (List.mem_append_left _ (List.mem_of_getElem? (i := 109) rfl))))
set_option maxRecDepth 100000 in
theorem lm_897 : Cond.fieldLinkNest "BeetHouse$Yard" 30 "BeetHouse$Load" "roots" "I" "BeetHouse" ∈ lw_tbl := List.mem_append_right _ (List.mem_append_right _ (List.mem_append_right _ (List.mem_append_left _ (List.mem_of_getElem? (i := 108) rfl))))
set_option maxRecDepth 100000 in
theorem lm_898 : Cond.fieldLinkNest "BeetHouse$Mill" 43 "BeetHouse$Load" "roots" "I" "BeetHouse" ∈ lw_tbl := List.mem_append_right _ (List.mem_append_right _ (List.mem_append_right _ (List.mem_append_left _ (List.mem_of_getElem? (i := 107) rfl))))
set_option maxRecDepth 100000 in
theorem lm_899 : Cond.fieldLinkNest "BeetHouse" 245 "BeetHouse$Load" "plot" "LBeetHouse$Plot;" "BeetHouse" ∈ lw_tbl := List.mem_append_right _ (List.mem_append_right _ (List.mem_append_right _ (List.mem_append_left _ (List.mem_of_getElem? (i := 105) rfl))))
set_option maxRecDepth 100000 in
theorem lm_900 : Cond.fieldLinkNest "BeetHouse$Yard" 33 "BeetHouse$Load" "plot" "LBeetHouse$Plot;" "BeetHouse" ∈ lw_tbl := List.mem_append_right _ (List.mem_append_right _ (List.mem_append_right _ (List.mem_append_left _ (List.mem_of_getElem? (i := 104) rfl))))
set_option maxRecDepth 100000 in
theorem lm_901 : Cond.fieldLinkNest "BeetHouse$Mill" 46 "BeetHouse$Load" "plot" "LBeetHouse$Plot;" "BeetHouse" ∈ lw_tbl := List.mem_append_right _ (List.mem_append_right _ (List.mem_append_right _ (List.mem_append_left _ (List.mem_of_getElem? (i := 103) rfl))))
set_option maxRecDepth 100000 in
theorem lm_902 : Cond.fieldLinkNest "BeetHouse" 237 "BeetHouse$Lorry" "brought" "I" "BeetHouse" ∈ lw_tbl := List.mem_append_right _ (List.mem_append_right _ (List.mem_append_left _ (List.mem_of_getElem? (i := 188) rfl)))
set_option maxRecDepth 100000 in
theorem lm_903 : Cond.fieldLinkNest "BeetHouse" 234 "BeetHouse$Lorry" "drowned" "I" "BeetHouse" ∈ lw_tbl := List.mem_append_right _ (List.mem_append_right _ (List.mem_append_left _ (List.mem_of_getElem? (i := 186) rfl)))
set_option maxRecDepth 100000 in
theorem lm_904 : Cond.fieldLinkNest "BeetHouse" 233 "BeetHouse$Lorry" "sugar" "I" "BeetHouse" ∈ lw_tbl := List.mem_append_right _ (List.mem_append_right _ (List.mem_append_left _ (List.mem_of_getElem? (i := 184) rfl)))
set_option maxRecDepth 100000 in
theorem lm_905 : Cond.fieldLinkNest "BeetHouse" 232 "BeetHouse$Lorry" "roots" "I" "BeetHouse" ∈ lw_tbl := List.mem_append_right _ (List.mem_append_right _ (List.mem_append_left _ (List.mem_of_getElem? (i := 182) rfl)))
set_option maxRecDepth 100000 in
theorem lm_906 : Cond.fieldLinkNest "BeetHouse" 131 "BeetHouse$Lorry" "there" "I" "BeetHouse" ∈ lw_tbl := List.mem_append_right _ (List.mem_append_right _ (List.mem_append_left _ (List.mem_of_getElem? (i := 180) rfl)))
set_option maxRecDepth 100000 in
theorem lm_907 : Cond.fieldLinkNest "BeetHouse" 231 "BeetHouse$Lorry" "plot" "LBeetHouse$Plot;" "BeetHouse" ∈ lw_tbl := List.mem_append_right _ (List.mem_append_right _ (List.mem_append_left _ (List.mem_of_getElem? (i := 178) rfl)))
set_option maxRecDepth 100000 in
theorem lm_908 : Cond.fieldLinkNest "BeetHouse" 124 "BeetHouse$Lorry" "state" "I" "BeetHouse" ∈ lw_tbl := List.mem_append_right _ (List.mem_append_right _ (List.mem_append_left _ (List.mem_of_getElem? (i := 176) rfl)))
set_option maxRecDepth 100000 in
theorem lm_909 : Cond.fieldLinkNest "BeetHouse" 271 "BeetHouse$Lorry" "capacity" "I" "BeetHouse" ∈ lw_tbl := List.mem_append_right _ (List.mem_append_right _ (List.mem_append_left _ (List.mem_of_getElem? (i := 174) rfl)))
set_option maxRecDepth 100000 in
theorem lm_910 : Cond.fieldLinkNest "BeetHouse" 222 "BeetHouse$Plot" "came" "I" "BeetHouse" ∈ lw_tbl := List.mem_append_right _ (List.mem_append_right _ (List.mem_append_left _ (List.mem_of_getElem? (i := 52) rfl)))
set_option maxRecDepth 100000 in
theorem lm_911 : Cond.fieldLinkNest "BeetHouse$Yard" 37 "BeetHouse$Plot" "came" "I" "BeetHouse" ∈ lw_tbl := List.mem_append_right _ (List.mem_append_right _ (List.mem_append_left _ (List.mem_of_getElem? (i := 51) rfl)))
set_option maxRecDepth 100000 in
theorem lm_912 : Cond.fieldLinkNest "BeetHouse" 219 "BeetHouse$Plot" "spoiled" "I" "BeetHouse" ∈ lw_tbl := List.mem_append_right _ (List.mem_append_right _ (List.mem_append_left _ (List.mem_of_getElem? (i := 49) rfl)))
set_option maxRecDepth 100000 in
theorem lm_913 : Cond.fieldLinkNest "BeetHouse" 216 "BeetHouse$Plot" "wasted" "I" "BeetHouse" ∈ lw_tbl := List.mem_append_right _ (List.mem_append_right _ (List.mem_append_left _ (List.mem_of_getElem? (i := 47) rfl)))
set_option maxRecDepth 100000 in
theorem lm_914 : Cond.fieldLinkNest "BeetHouse" 213 "BeetHouse$Plot" "thawedSince" "I" "BeetHouse" ∈ lw_tbl := List.mem_append_right _ (List.mem_append_right _ (List.mem_append_left _ (List.mem_of_getElem? (i := 45) rfl)))
set_option maxRecDepth 100000 in
theorem lm_915 : Cond.fieldLinkNest "BeetHouse" 166 "BeetHouse$Plot" "frozen" "Z" "BeetHouse" ∈ lw_tbl := List.mem_append_right _ (List.mem_append_right _ (List.mem_append_left _ (List.mem_of_getElem? (i := 43) rfl)))
set_option maxRecDepth 100000 in
theorem lm_916 : Cond.fieldLinkNest "BeetHouse" 169 "BeetHouse$Plot" "covered" "Z" "BeetHouse" ∈ lw_tbl := List.mem_append_right _ (List.mem_append_right _ (List.mem_append_left _ (List.mem_of_getElem? (i := 41) rfl)))
set_option maxRecDepth 100000 in
theorem lm_917 : Cond.fieldLinkNest "BeetHouse" 210 "BeetHouse$Plot" "sugar" "I" "BeetHouse" ∈ lw_tbl := List.mem_append_right _ (List.mem_append_right _ (List.mem_append_left _ (List.mem_of_getElem? (i := 39) rfl)))
set_option maxRecDepth 100000 in
theorem lm_918 : Cond.fieldLinkNest "BeetHouse$Orders" 52 "BeetHouse$Plot" "sugar" "I" "BeetHouse" ∈ lw_tbl := List.mem_append_right _ (List.mem_append_right _ (List.mem_append_left _ (List.mem_of_getElem? (i := 38) rfl)))
set_option maxRecDepth 100000 in
theorem lm_919 : Cond.fieldLinkNest "BeetHouse" 163 "BeetHouse$Plot" "roots" "I" "BeetHouse" ∈ lw_tbl := List.mem_append_right _ (List.mem_append_right _ (List.mem_append_left _ (List.mem_of_getElem? (i := 36) rfl)))
set_option maxRecDepth 100000 in
theorem lm_920 : Cond.fieldLinkNest "BeetHouse$Lorry" 50 "BeetHouse$Plot" "roots" "I" "BeetHouse" ∈ lw_tbl := List.mem_append_right _ (List.mem_append_right _ (List.mem_append_left _ (List.mem_of_getElem? (i := 35) rfl)))
set_option maxRecDepth 100000 in
theorem lm_921 : Cond.fieldLinkNest "BeetHouse$Orders" 45 "BeetHouse$Plot" "roots" "I" "BeetHouse" ∈ lw_tbl := List.mem_append_right _ (List.mem_append_right _ (List.mem_append_left _ (List.mem_of_getElem? (i := 34) rfl)))
set_option maxRecDepth 100000 in
theorem lm_922 : Cond.fieldLinkNest "BeetHouse" 207 "BeetHouse$Plot" "ground" "I" "BeetHouse" ∈ lw_tbl := List.mem_append_right _ (List.mem_append_right _ (List.mem_append_left _ (List.mem_of_getElem? (i := 32) rfl)))
set_option maxRecDepth 100000 in
theorem lm_923 : Cond.fieldLinkNest "BeetHouse$Lorry" 37 "BeetHouse$Plot" "way" "I" "BeetHouse" ∈ lw_tbl := List.mem_append_right _ (List.mem_append_right _ (List.mem_append_left _ (List.mem_of_getElem? (i := 29) rfl)))
set_option maxRecDepth 100000 in
theorem lm_924 : Cond.fieldLinkNest "BeetHouse" 223 "BeetHouse$Plot" "farmer" "LBeetHouse$Farmer;" "BeetHouse" ∈ lw_tbl := List.mem_append_right _ (List.mem_append_right _ (List.mem_append_left _ (List.mem_of_getElem? (i := 26) rfl)))
set_option maxRecDepth 100000 in
theorem lm_925 : Cond.fieldLinkNest "BeetHouse$Yard" 40 "BeetHouse$Plot" "farmer" "LBeetHouse$Farmer;" "BeetHouse" ∈ lw_tbl := List.mem_append_right _ (List.mem_append_right _ (List.mem_append_left _ (List.mem_of_getElem? (i := 25) rfl)))
set_option maxRecDepth 100000 in
theorem lm_926 : Cond.fieldLinkNest "BeetHouse" 146 "BeetHouse$Plot" "number" "I" "BeetHouse" ∈ lw_tbl := List.mem_append_right _ (List.mem_append_right _ (List.mem_append_left _ (List.mem_of_getElem? (i := 23) rfl)))
set_option maxRecDepth 100000 in
theorem lm_927 : Cond.fieldLinkNest "BeetHouse$Orders" 36 "BeetHouse$Plot" "number" "I" "BeetHouse" ∈ lw_tbl := List.mem_append_right _ (List.mem_append_right _ (List.mem_append_left _ (List.mem_of_getElem? (i := 22) rfl)))
set_option maxRecDepth 100000 in
theorem lm_928 : Cond.fieldLinkNest "BeetHouse" 113 "BeetHouse$Gang" "plot" "LBeetHouse$Plot;" "BeetHouse" ∈ lw_tbl := List.mem_append_right _ (List.mem_append_left _ (List.mem_of_getElem? (i := 189) rfl))
set_option maxRecDepth 100000 in
theorem lm_929 : Cond.fieldLinkNest "BeetHouse" 110 "BeetHouse$Gang" "rate" "I" "BeetHouse" ∈ lw_tbl := List.mem_append_right _ (List.mem_append_left _ (List.mem_of_getElem? (i := 187) rfl))
set_option maxRecDepth 100000 in
theorem lm_930 : Cond.fieldLinkNest "BeetHouse$Yard" 44 "BeetHouse$Farmer" "came" "I" "BeetHouse" ∈ lw_tbl := List.mem_append_right _ (List.mem_append_left _ (List.mem_of_getElem? (i := 171) rfl))
set_option maxRecDepth 100000 in
theorem lm_931 : Cond.fieldLinkNest "BeetHouse" 248 "BeetHouse$Farmer" "coins" "I" "BeetHouse" ∈ lw_tbl := List.mem_append_right _ (List.mem_append_left _ (List.mem_of_getElem? (i := 169) rfl))
set_option maxRecDepth 100000 in
theorem lm_932 : Cond.fieldLinkNest "BeetHouse" 90 "BeetHouse$Farmer" "share" "I" "BeetHouse" ∈ lw_tbl := List.mem_append_right _ (List.mem_append_left _ (List.mem_of_getElem? (i := 167) rfl))
set_option maxRecDepth 100000 in
theorem lm_933 : Cond.fieldLinkNest "BeetHouse" 197 "BeetHouse$Farmer" "number" "I" "BeetHouse" ∈ lw_tbl := List.mem_append_right _ (List.mem_append_left _ (List.mem_of_getElem? (i := 165) rfl))
set_option maxRecDepth 100000 in
theorem lm_934 : Cond.fieldLinkNest "BeetHouse" 258 "BeetHouse$Mill" "lack" "I" "BeetHouse" ∈ lw_tbl := List.mem_append_right _ (List.mem_append_left _ (List.mem_of_getElem? (i := 117) rfl))
set_option maxRecDepth 100000 in
theorem lm_935 : Cond.fieldLinkNest "BeetHouse" 255 "BeetHouse$Mill" "stood" "I" "BeetHouse" ∈ lw_tbl := List.mem_append_right _ (List.mem_append_left _ (List.mem_of_getElem? (i := 115) rfl))
set_option maxRecDepth 100000 in
theorem lm_936 : Cond.fieldLinkNest "BeetHouse" 252 "BeetHouse$Mill" "sugarWon" "I" "BeetHouse" ∈ lw_tbl := List.mem_append_right _ (List.mem_append_left _ (List.mem_of_getElem? (i := 113) rfl))
set_option maxRecDepth 100000 in
theorem lm_937 : Cond.fieldLinkNest "BeetHouse" 184 "BeetHouse$Mill" "eaten" "I" "BeetHouse" ∈ lw_tbl := List.mem_append_right _ (List.mem_append_left _ (List.mem_of_getElem? (i := 111) rfl))
set_option maxRecDepth 100000 in
theorem lm_938 : Cond.fieldLinkNest "BeetHouse" 152 "BeetHouse$Mill" "rate" "I" "BeetHouse" ∈ lw_tbl := List.mem_append_right _ (List.mem_append_left _ (List.mem_of_getElem? (i := 109) rfl))
set_option maxRecDepth 100000 in
theorem lm_939 : Cond.fieldLinkNest "BeetHouse" 191 "BeetHouse$Yard" "came" "I" "BeetHouse" ∈ lw_tbl := List.mem_append_right _ (List.mem_append_left _ (List.mem_of_getElem? (i := 92) rfl))
set_option maxRecDepth 100000 in
theorem lm_940 : Cond.fieldLinkNest "BeetHouse" 251 "BeetHouse$Yard" "roots" "I" "BeetHouse" ∈ lw_tbl := List.mem_append_right _ (List.mem_append_left _ (List.mem_of_getElem? (i := 90) rfl))
set_option maxRecDepth 100000 in
theorem lm_941 : Cond.fieldLinkNest "BeetHouse$Mill" 65 "BeetHouse$Yard" "roots" "I" "BeetHouse" ∈ lw_tbl := List.mem_append_right _ (List.mem_append_left _ (List.mem_of_getElem? (i := 89) rfl))
set_option maxRecDepth 100000 in
theorem lm_942 : Cond.fieldLinkNest "BeetHouse" 149 "BeetHouse$Yard" "room" "I" "BeetHouse" ∈ lw_tbl := List.mem_append_right _ (List.mem_append_left _ (List.mem_of_getElem? (i := 87) rfl))
set_option maxRecDepth 100000 in
theorem lm_943 : Cond.fieldLinkNest "BeetHouse" 240 "BeetHouse$Yard" "loads" "Ljava/util/ArrayList;" "BeetHouse" ∈ lw_tbl := List.mem_append_right _ (List.mem_append_left _ (List.mem_of_getElem? (i := 85) rfl))
set_option maxRecDepth 100000 in
theorem lm_944 : Cond.fieldLinkNest "BeetHouse$Mill" 25 "BeetHouse$Yard" "loads" "Ljava/util/ArrayList;" "BeetHouse" ∈ lw_tbl := List.mem_append_right _ (List.mem_append_left _ (List.mem_of_getElem? (i := 84) rfl))
set_option maxRecDepth 100000 in
theorem lm_945 : Cond.fieldLinkNest "BeetHouse" 153 "BeetHouse$Weather" "numbers" "[I" "BeetHouse" ∈ lw_tbl := List.mem_append_right _ (List.mem_append_left _ (List.mem_of_getElem? (i := 68) rfl))
set_option maxRecDepth 100000 in
theorem lm_946 : Cond.fieldLinkNest "BeetHouse" 160 "BeetHouse$Weather" "warmths" "[I" "BeetHouse" ∈ lw_tbl := List.mem_append_right _ (List.mem_append_left _ (List.mem_of_getElem? (i := 66) rfl))
set_option maxRecDepth 100000 in
theorem lm_947 : Cond.arrayOver (.object "BeetHouse$Farmer") ∈ lw_tbl := List.mem_append_right _ (List.mem_append_left _ (List.mem_of_getElem? (i := 30) rfl))
set_option maxRecDepth 100000 in
theorem lm_948 : Cond.arrayOver (.object "BeetHouse$Gang") ∈ lw_tbl := List.mem_append_right _ (List.mem_append_left _ (List.mem_of_getElem? (i := 58) rfl))
set_option maxRecDepth 100000 in
theorem lm_949 : Cond.arrayOver (.object "java/lang/Object") ∈ lw_tbl := List.mem_append_right _ (List.mem_append_right _ (List.mem_append_left _ (List.mem_of_getElem? (i := 131) rfl)))
set_option maxRecDepth 100000 in
theorem lm_950 : Cond.arrayOver (.array .int) ∈ lw_tbl := List.mem_append_right _ (List.mem_append_left _ (List.mem_of_getElem? (i := 136) rfl))
set_option maxRecDepth 100000 in
theorem lm_951 : Cond.laysStatic "java/util/ArrayList" "DEFAULTCAPACITY_EMPTY_ELEMENTDATA" "[Ljava/lang/Object;" ∈ lw_tbl := List.mem_append_right _ (List.mem_append_left _ (List.mem_of_getElem? (i := 44) rfl))
set_option maxRecDepth 100000 in
theorem lm_952 : Cond.declares ⟨"java/lang/Object", "getClass", "()Ljava/lang/Class;"⟩ ∈ lw_tbl := List.mem_append_right _ (List.mem_append_right _ (List.mem_append_right _ (List.mem_append_right _ (List.mem_append_right _ (List.mem_of_getElem? (i := 126) rfl)))))
set_option maxRecDepth 100000 in
theorem hi_L_law_Jx4a65c : ∀ w ∈ u_ws RJx4a65c TJx4a65c 3, w ∈ lw_tbl := (List.forall_mem_cons.mpr ⟨lm_41, (List.forall_mem_cons.mpr ⟨lm_40, (List.forall_mem_cons.mpr ⟨lm_39, (fun _ h => absurd h List.not_mem_nil)⟩)⟩)⟩)
set_option maxRecDepth 100000 in
theorem hi_L_law_X0 : ∀ w ∈ u_ws RX0 TX0 4, w ∈ lw_tbl := (List.forall_mem_cons.mpr ⟨lm_20, (List.forall_mem_cons.mpr ⟨lm_19, (List.forall_mem_cons.mpr ⟨lm_18, (List.forall_mem_cons.mpr ⟨lm_17, (fun _ h => absurd h List.not_mem_nil)⟩)⟩)⟩)⟩)
set_option maxRecDepth 100000 in
theorem hi_L_law_X1 : ∀ w ∈ u_ws RX1 TX1 2, w ∈ lw_tbl := (List.forall_mem_cons.mpr ⟨lm_16, (List.forall_mem_cons.mpr ⟨lm_15, (fun _ h => absurd h List.not_mem_nil)⟩)⟩)
set_option maxRecDepth 100000 in
theorem hi_L_law_X2 : ∀ w ∈ u_ws RX2 TX2 3, w ∈ lw_tbl := (List.forall_mem_cons.mpr ⟨lm_506, (List.forall_mem_cons.mpr ⟨lm_505, (List.forall_mem_cons.mpr ⟨lm_504, (fun _ h => absurd h List.not_mem_nil)⟩)⟩)⟩)
set_option maxRecDepth 100000 in
theorem hi_L_law_X3 : ∀ w ∈ u_ws RX3 TX3 8, w ∈ lw_tbl := (List.forall_mem_cons.mpr ⟨lm_307, (List.forall_mem_cons.mpr ⟨lm_306, (List.forall_mem_cons.mpr ⟨lm_305, (List.forall_mem_cons.mpr ⟨lm_304, (List.forall_mem_cons.mpr ⟨lm_303, (List.forall_mem_cons.mpr ⟨lm_302, (List.forall_mem_cons.mpr ⟨lm_301, (List.forall_mem_cons.mpr ⟨lm_300, (fun _ h => absurd h List.not_mem_nil)⟩)⟩)⟩)⟩)⟩)⟩)⟩)⟩)
set_option maxRecDepth 100000 in
theorem hi_L_law_X4 : ∀ w ∈ u_ws RX4 TX4 5, w ∈ lw_tbl := (List.forall_mem_cons.mpr ⟨lm_32, (List.forall_mem_cons.mpr ⟨lm_31, (List.forall_mem_cons.mpr ⟨lm_30, (List.forall_mem_cons.mpr ⟨lm_29, (List.forall_mem_cons.mpr ⟨lm_28, (fun _ h => absurd h List.not_mem_nil)⟩)⟩)⟩)⟩)⟩)
set_option maxRecDepth 100000 in
theorem hi_L_law_X5 : ∀ w ∈ u_ws RX5 TX5 7, w ∈ lw_tbl := (List.forall_mem_cons.mpr ⟨lm_27, (List.forall_mem_cons.mpr ⟨lm_26, (List.forall_mem_cons.mpr ⟨lm_25, (List.forall_mem_cons.mpr ⟨lm_24, (List.forall_mem_cons.mpr ⟨lm_23, (List.forall_mem_cons.mpr ⟨lm_22, (List.forall_mem_cons.mpr ⟨lm_21, (fun _ h => absurd h List.not_mem_nil)⟩)⟩)⟩)⟩)⟩)⟩)⟩)
set_option maxRecDepth 100000 in
theorem hi_L_law_X6 : ∀ w ∈ u_ws RX6 TX6 14, w ∈ lw_tbl := (List.forall_mem_cons.mpr ⟨lm_396, (List.forall_mem_cons.mpr ⟨lm_395, (List.forall_mem_cons.mpr ⟨lm_394, (List.forall_mem_cons.mpr ⟨lm_393, (List.forall_mem_cons.mpr ⟨lm_392, (List.forall_mem_cons.mpr ⟨lm_391, (List.forall_mem_cons.mpr ⟨lm_390, (List.forall_mem_cons.mpr ⟨lm_389, (List.forall_mem_cons.mpr ⟨lm_388, (List.forall_mem_cons.mpr ⟨lm_387, (List.forall_mem_cons.mpr ⟨lm_386, (List.forall_mem_cons.mpr ⟨lm_385, (List.forall_mem_cons.mpr ⟨lm_384, (List.forall_mem_cons.mpr ⟨lm_383, (fun _ h => absurd h List.not_mem_nil)⟩)⟩)⟩)⟩)⟩)⟩)⟩)⟩)⟩)⟩)⟩)⟩)⟩)⟩)
set_option maxRecDepth 100000 in
theorem hi_L_law_X7 : ∀ w ∈ u_ws RX7 TX7 2, w ∈ lw_tbl := (List.forall_mem_cons.mpr ⟨lm_38, (List.forall_mem_cons.mpr ⟨lm_37, (fun _ h => absurd h List.not_mem_nil)⟩)⟩)
set_option maxRecDepth 100000 in
theorem hi_L_law_X8 : ∀ w ∈ u_ws RX8 TX8 4, w ∈ lw_tbl := (List.forall_mem_cons.mpr ⟨lm_36, (List.forall_mem_cons.mpr ⟨lm_35, (List.forall_mem_cons.mpr ⟨lm_34, (List.forall_mem_cons.mpr ⟨lm_33, (fun _ h => absurd h List.not_mem_nil)⟩)⟩)⟩)⟩)
set_option maxRecDepth 100000 in
theorem bh_nest_in : ∀ w ∈ bh_nest, w ∈ lw_tbl := (List.forall_mem_cons.mpr ⟨lm_946, (List.forall_mem_cons.mpr ⟨lm_945, (List.forall_mem_cons.mpr ⟨lm_944, (List.forall_mem_cons.mpr ⟨lm_943, (List.forall_mem_cons.mpr ⟨lm_942, (List.forall_mem_cons.mpr ⟨lm_941, (List.forall_mem_cons.mpr ⟨lm_940, (List.forall_mem_cons.mpr ⟨lm_939, (List.forall_mem_cons.mpr ⟨lm_938, (List.forall_mem_cons.mpr ⟨lm_937, (List.forall_mem_cons.mpr ⟨lm_936, (List.forall_mem_cons.mpr ⟨lm_935, (List.forall_mem_cons.mpr ⟨lm_934, (List.forall_mem_cons.mpr ⟨lm_933, (List.forall_mem_cons.mpr ⟨lm_932, (List.forall_mem_cons.mpr ⟨lm_931, (List.forall_mem_cons.mpr ⟨lm_930, (List.forall_mem_cons.mpr ⟨lm_929, (List.forall_mem_cons.mpr ⟨lm_928, (List.forall_mem_cons.mpr ⟨lm_927, (List.forall_mem_cons.mpr ⟨lm_926, (List.forall_mem_cons.mpr ⟨lm_925, (List.forall_mem_cons.mpr ⟨lm_924, (List.forall_mem_cons.mpr ⟨lm_923, (List.forall_mem_cons.mpr ⟨lm_922, (List.forall_mem_cons.mpr ⟨lm_921, (List.forall_mem_cons.mpr ⟨lm_920, (List.forall_mem_cons.mpr ⟨lm_919, (List.forall_mem_cons.mpr ⟨lm_918, (List.forall_mem_cons.mpr ⟨lm_917, (List.forall_mem_cons.mpr ⟨lm_916, (List.forall_mem_cons.mpr ⟨lm_915, (List.forall_mem_cons.mpr ⟨lm_914, (List.forall_mem_cons.mpr ⟨lm_913, (List.forall_mem_cons.mpr ⟨lm_912, (List.forall_mem_cons.mpr ⟨lm_911, (List.forall_mem_cons.mpr ⟨lm_910, (List.forall_mem_cons.mpr ⟨lm_909, (List.forall_mem_cons.mpr ⟨lm_908, (List.forall_mem_cons.mpr ⟨lm_907, (List.forall_mem_cons.mpr ⟨lm_906, (List.forall_mem_cons.mpr ⟨lm_905, (List.forall_mem_cons.mpr ⟨lm_904, (List.forall_mem_cons.mpr ⟨lm_903, (List.forall_mem_cons.mpr ⟨lm_902, (List.forall_mem_cons.mpr ⟨lm_901, (List.forall_mem_cons.mpr ⟨lm_900, (List.forall_mem_cons.mpr ⟨lm_899, (List.forall_mem_cons.mpr ⟨lm_898, (List.forall_mem_cons.mpr ⟨lm_897, (List.forall_mem_cons.mpr ⟨lm_896, (List.forall_mem_cons.mpr ⟨lm_895, (List.forall_mem_cons.mpr ⟨lm_894, (List.forall_mem_cons.mpr ⟨lm_893, (List.forall_mem_cons.mpr ⟨lm_892, (List.forall_mem_cons.mpr ⟨lm_891, (List.forall_mem_cons.mpr ⟨lm_890, (List.forall_mem_cons.mpr ⟨lm_889, (List.forall_mem_cons.mpr ⟨lm_888, (List.forall_mem_cons.mpr ⟨lm_887, (List.forall_mem_cons.mpr ⟨lm_886, (List.forall_mem_cons.mpr ⟨lm_885, (List.forall_mem_cons.mpr ⟨lm_884, (List.forall_mem_cons.mpr ⟨lm_883, (List.forall_mem_cons.mpr ⟨lm_882, (List.forall_mem_cons.mpr ⟨lm_881, (List.forall_mem_cons.mpr ⟨lm_880, (List.forall_mem_cons.mpr ⟨lm_879, (List.forall_mem_cons.mpr ⟨lm_878, (List.forall_mem_cons.mpr ⟨lm_877, (List.forall_mem_cons.mpr ⟨lm_876, (List.forall_mem_cons.mpr ⟨lm_875, (List.forall_mem_cons.mpr ⟨lm_874, (List.forall_mem_cons.mpr ⟨lm_873, (List.forall_mem_cons.mpr ⟨lm_872, (List.forall_mem_cons.mpr ⟨lm_871, (List.forall_mem_cons.mpr ⟨lm_870, (List.forall_mem_cons.mpr ⟨lm_869, (List.forall_mem_cons.mpr ⟨lm_868, (List.forall_mem_cons.mpr ⟨lm_867, (List.forall_mem_cons.mpr ⟨lm_866, (List.forall_mem_cons.mpr ⟨lm_865, (List.forall_mem_cons.mpr ⟨lm_864, (List.forall_mem_cons.mpr ⟨lm_863, (List.forall_mem_cons.mpr ⟨lm_862, (List.forall_mem_cons.mpr ⟨lm_861, (List.forall_mem_cons.mpr ⟨lm_860, (List.forall_mem_cons.mpr ⟨lm_859, (List.forall_mem_cons.mpr ⟨lm_858, (List.forall_mem_cons.mpr ⟨lm_857, (List.forall_mem_cons.mpr ⟨lm_856, (List.forall_mem_cons.mpr ⟨lm_855, (List.forall_mem_cons.mpr ⟨lm_854, (List.forall_mem_cons.mpr ⟨lm_853, (List.forall_mem_cons.mpr ⟨lm_852, (List.forall_mem_cons.mpr ⟨lm_851, (List.forall_mem_cons.mpr ⟨lm_850, (List.forall_mem_cons.mpr ⟨lm_849, (List.forall_mem_cons.mpr ⟨lm_848, (List.forall_mem_cons.mpr ⟨lm_847, (List.forall_mem_cons.mpr ⟨lm_846, (List.forall_mem_cons.mpr ⟨lm_845, (List.forall_mem_cons.mpr ⟨lm_844, (List.forall_mem_cons.mpr ⟨lm_843, (List.forall_mem_cons.mpr ⟨lm_842, (List.forall_mem_cons.mpr ⟨lm_841, (List.forall_mem_cons.mpr ⟨lm_840, (List.forall_mem_cons.mpr ⟨lm_839, (fun _ h => absurd h List.not_mem_nil)⟩)⟩)⟩)⟩)⟩)⟩)⟩)⟩)⟩)⟩)⟩)⟩)⟩)⟩)⟩)⟩)⟩)⟩)⟩)⟩)⟩)⟩)⟩)⟩)⟩)⟩)⟩)⟩)⟩)⟩)⟩)⟩)⟩)⟩)⟩)⟩)⟩)⟩)⟩)⟩)⟩)⟩)⟩)⟩)⟩)⟩)⟩)⟩)⟩)⟩)⟩)⟩)⟩)⟩)⟩)⟩)⟩)⟩)⟩)⟩)⟩)⟩)⟩)⟩)⟩)⟩)⟩)⟩)⟩)⟩)⟩)⟩)⟩)⟩)⟩)⟩)⟩)⟩)⟩)⟩)⟩)⟩)⟩)⟩)⟩)⟩)⟩)⟩)⟩)⟩)⟩)⟩)⟩)⟩)⟩)⟩)⟩)⟩)⟩)⟩)⟩)⟩)⟩)⟩)⟩)⟩)⟩)⟩)
def bh_ini (z e0 : Nat) : bh_S := ((fun a => if a = e0 then 16 else 99), (fun _ _ _ => 0), (fun _ _ _ => none), (fun _ => 0), z, 0, e0)
theorem bh_Wroom {p : Program} {l : Launch} {e : Env} {R R' : Room} {s : State} {m : MethodId} {args : Array Value} {below : List Frame} {meth : Method} {c : Code} {H : Heap} {locs : List Loc} {cells slots : Nat} {Q Q' : State → Prop} {g : JFrame} (h1 : R.frames ≤ R'.frames) (h2 : R.cells ≤ R'.cells) (h3 : R.slots ≤ R'.slots) (h4 : R.locals ≤ R'.locals) (hQ : ∀ t, Q t → Q' t) (k : W p l e R s m args below meth c H locs cells slots Q g) : W p l e R' s m args below meth c H locs cells slots Q' g := by
  intro T hT X
  have hr : s.hasRoom e.platform R = true := by
    have h := X.room
    simp only [State.hasRoom, Bool.and_eq_true, decide_eq_true_eq] at h ⊢
    obtain ⟨⟨⟨⟨a, b1, b2, b3, b4, b5⟩, c⟩, d⟩, f⟩ := h
    exact ⟨⟨⟨⟨by omega, by omega, by omega, by omega, by omega, b5⟩, by omega⟩, by omega⟩, f⟩
  obtain ⟨t, a, b⟩ := k T hT { X with room := hr }
  exact ⟨t, a, hQ t b⟩
