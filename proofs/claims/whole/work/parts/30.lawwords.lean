theorem hd_X10_best : yX10_best.cls ≠ "java/lang/invoke/MethodHandle" ∧ yX10_best.cls ≠ "java/lang/invoke/VarHandle" ∧ (parseMethodDescriptor yX10_best.desc).map (fun d => d.parameters.length) = some 0 := by decide +kernel
theorem hd_X10_coins : yX10_coins.cls ≠ "java/lang/invoke/MethodHandle" ∧ yX10_coins.cls ≠ "java/lang/invoke/VarHandle" ∧ (parseMethodDescriptor yX10_coins.desc).map (fun d => d.parameters.length) = some 1 := by decide +kernel
theorem hd_X10_count : yX10_count.cls ≠ "java/lang/invoke/MethodHandle" ∧ yX10_count.cls ≠ "java/lang/invoke/VarHandle" ∧ (parseMethodDescriptor yX10_count.desc).map (fun d => d.parameters.length) = some 1 := by decide +kernel
theorem hd_X10_cover : yX10_cover.cls ≠ "java/lang/invoke/MethodHandle" ∧ yX10_cover.cls ≠ "java/lang/invoke/VarHandle" ∧ (parseMethodDescriptor yX10_cover.desc).map (fun d => d.parameters.length) = some 2 := by decide +kernel
theorem hd_X10_field : yX10_field.cls ≠ "java/lang/invoke/MethodHandle" ∧ yX10_field.cls ≠ "java/lang/invoke/VarHandle" ∧ (parseMethodDescriptor yX10_field.desc).map (fun d => d.parameters.length) = some 5 := by decide +kernel
theorem hd_X10_fieldOf : yX10_fieldOf.cls ≠ "java/lang/invoke/MethodHandle" ∧ yX10_fieldOf.cls ≠ "java/lang/invoke/VarHandle" ∧ (parseMethodDescriptor yX10_fieldOf.desc).map (fun d => d.parameters.length) = some 2 := by decide +kernel
theorem hd_X10_frost : yX10_frost.cls ≠ "java/lang/invoke/MethodHandle" ∧ yX10_frost.cls ≠ "java/lang/invoke/VarHandle" ∧ (parseMethodDescriptor yX10_frost.desc).map (fun d => d.parameters.length) = some 1 := by decide +kernel
theorem hd_X10_gang : yX10_gang.cls ≠ "java/lang/invoke/MethodHandle" ∧ yX10_gang.cls ≠ "java/lang/invoke/VarHandle" ∧ (parseMethodDescriptor yX10_gang.desc).map (fun d => d.parameters.length) = some 3 := by decide +kernel
theorem hd_X10_hours : yX10_hours.cls ≠ "java/lang/invoke/MethodHandle" ∧ yX10_hours.cls ≠ "java/lang/invoke/VarHandle" ∧ (parseMethodDescriptor yX10_hours.desc).map (fun d => d.parameters.length) = some 1 := by decide +kernel
theorem hd_X10_init : yX10_init.cls ≠ "java/lang/invoke/MethodHandle" ∧ yX10_init.cls ≠ "java/lang/invoke/VarHandle" ∧ (parseMethodDescriptor yX10_init.desc).map (fun d => d.parameters.length) = some 0 := by decide +kernel
theorem hd_X10_load : yX10_load.cls ≠ "java/lang/invoke/MethodHandle" ∧ yX10_load.cls ≠ "java/lang/invoke/VarHandle" ∧ (parseMethodDescriptor yX10_load.desc).map (fun d => d.parameters.length) = some 2 := by decide +kernel
theorem hd_X10_lorry : yX10_lorry.cls ≠ "java/lang/invoke/MethodHandle" ∧ yX10_lorry.cls ≠ "java/lang/invoke/VarHandle" ∧ (parseMethodDescriptor yX10_lorry.desc).map (fun d => d.parameters.length) = some 1 := by decide +kernel
theorem hd_X10_lorryOf : yX10_lorryOf.cls ≠ "java/lang/invoke/MethodHandle" ∧ yX10_lorryOf.cls ≠ "java/lang/invoke/VarHandle" ∧ (parseMethodDescriptor yX10_lorryOf.desc).map (fun d => d.parameters.length) = some 2 := by decide +kernel
theorem hd_X10_next : yX10_next.cls ≠ "java/lang/invoke/MethodHandle" ∧ yX10_next.cls ≠ "java/lang/invoke/VarHandle" ∧ (parseMethodDescriptor yX10_next.desc).map (fun d => d.parameters.length) = some 0 := by decide +kernel
theorem hd_X10_order : yX10_order.cls ≠ "java/lang/invoke/MethodHandle" ∧ yX10_order.cls ≠ "java/lang/invoke/VarHandle" ∧ (parseMethodDescriptor yX10_order.desc).map (fun d => d.parameters.length) = some 1 := by decide +kernel
theorem hd_X10_owed : yX10_owed.cls ≠ "java/lang/invoke/MethodHandle" ∧ yX10_owed.cls ≠ "java/lang/invoke/VarHandle" ∧ (parseMethodDescriptor yX10_owed.desc).map (fun d => d.parameters.length) = some 1 := by decide +kernel
theorem hd_X10_price : yX10_price.cls ≠ "java/lang/invoke/MethodHandle" ∧ yX10_price.cls ≠ "java/lang/invoke/VarHandle" ∧ (parseMethodDescriptor yX10_price.desc).map (fun d => d.parameters.length) = some 2 := by decide +kernel
theorem hd_X10_send : yX10_send.cls ≠ "java/lang/invoke/MethodHandle" ∧ yX10_send.cls ≠ "java/lang/invoke/VarHandle" ∧ (parseMethodDescriptor yX10_send.desc).map (fun d => d.parameters.length) = some 2 := by decide +kernel
theorem hd_X10_share : yX10_share.cls ≠ "java/lang/invoke/MethodHandle" ∧ yX10_share.cls ≠ "java/lang/invoke/VarHandle" ∧ (parseMethodDescriptor yX10_share.desc).map (fun d => d.parameters.length) = some 2 := by decide +kernel
theorem hd_X10_table : yX10_table.cls ≠ "java/lang/invoke/MethodHandle" ∧ yX10_table.cls ≠ "java/lang/invoke/VarHandle" ∧ (parseMethodDescriptor yX10_table.desc).map (fun d => d.parameters.length) = some 2 := by decide +kernel
theorem hd_X10_turn : yX10_turn.cls ≠ "java/lang/invoke/MethodHandle" ∧ yX10_turn.cls ≠ "java/lang/invoke/VarHandle" ∧ (parseMethodDescriptor yX10_turn.desc).map (fun d => d.parameters.length) = some 0 := by decide +kernel
theorem hd_X10_warmth : yX10_warmth.cls ≠ "java/lang/invoke/MethodHandle" ∧ yX10_warmth.cls ≠ "java/lang/invoke/VarHandle" ∧ (parseMethodDescriptor yX10_warmth.desc).map (fun d => d.parameters.length) = some 2 := by decide +kernel
theorem hd_X10_works : yX10_works.cls ≠ "java/lang/invoke/MethodHandle" ∧ yX10_works.cls ≠ "java/lang/invoke/VarHandle" ∧ (parseMethodDescriptor yX10_works.desc).map (fun d => d.parameters.length) = some 2 := by decide +kernel
theorem hd_X9_best : yX9_best.cls ≠ "java/lang/invoke/MethodHandle" ∧ yX9_best.cls ≠ "java/lang/invoke/VarHandle" ∧ (parseMethodDescriptor yX9_best.desc).map (fun d => d.parameters.length) = some 0 := by decide +kernel
theorem hd_X9_coins : yX9_coins.cls ≠ "java/lang/invoke/MethodHandle" ∧ yX9_coins.cls ≠ "java/lang/invoke/VarHandle" ∧ (parseMethodDescriptor yX9_coins.desc).map (fun d => d.parameters.length) = some 1 := by decide +kernel
theorem hd_X9_count : yX9_count.cls ≠ "java/lang/invoke/MethodHandle" ∧ yX9_count.cls ≠ "java/lang/invoke/VarHandle" ∧ (parseMethodDescriptor yX9_count.desc).map (fun d => d.parameters.length) = some 1 := by decide +kernel
theorem hd_X9_cover : yX9_cover.cls ≠ "java/lang/invoke/MethodHandle" ∧ yX9_cover.cls ≠ "java/lang/invoke/VarHandle" ∧ (parseMethodDescriptor yX9_cover.desc).map (fun d => d.parameters.length) = some 2 := by decide +kernel
theorem hd_X9_field : yX9_field.cls ≠ "java/lang/invoke/MethodHandle" ∧ yX9_field.cls ≠ "java/lang/invoke/VarHandle" ∧ (parseMethodDescriptor yX9_field.desc).map (fun d => d.parameters.length) = some 5 := by decide +kernel
theorem hd_X9_fieldOf : yX9_fieldOf.cls ≠ "java/lang/invoke/MethodHandle" ∧ yX9_fieldOf.cls ≠ "java/lang/invoke/VarHandle" ∧ (parseMethodDescriptor yX9_fieldOf.desc).map (fun d => d.parameters.length) = some 2 := by decide +kernel
theorem hd_X9_frost : yX9_frost.cls ≠ "java/lang/invoke/MethodHandle" ∧ yX9_frost.cls ≠ "java/lang/invoke/VarHandle" ∧ (parseMethodDescriptor yX9_frost.desc).map (fun d => d.parameters.length) = some 1 := by decide +kernel
theorem hd_X9_gang : yX9_gang.cls ≠ "java/lang/invoke/MethodHandle" ∧ yX9_gang.cls ≠ "java/lang/invoke/VarHandle" ∧ (parseMethodDescriptor yX9_gang.desc).map (fun d => d.parameters.length) = some 3 := by decide +kernel
theorem hd_X9_hours : yX9_hours.cls ≠ "java/lang/invoke/MethodHandle" ∧ yX9_hours.cls ≠ "java/lang/invoke/VarHandle" ∧ (parseMethodDescriptor yX9_hours.desc).map (fun d => d.parameters.length) = some 1 := by decide +kernel
theorem hd_X9_init : yX9_init.cls ≠ "java/lang/invoke/MethodHandle" ∧ yX9_init.cls ≠ "java/lang/invoke/VarHandle" ∧ (parseMethodDescriptor yX9_init.desc).map (fun d => d.parameters.length) = some 0 := by decide +kernel
theorem hd_X9_load : yX9_load.cls ≠ "java/lang/invoke/MethodHandle" ∧ yX9_load.cls ≠ "java/lang/invoke/VarHandle" ∧ (parseMethodDescriptor yX9_load.desc).map (fun d => d.parameters.length) = some 2 := by decide +kernel
theorem hd_X9_lorry : yX9_lorry.cls ≠ "java/lang/invoke/MethodHandle" ∧ yX9_lorry.cls ≠ "java/lang/invoke/VarHandle" ∧ (parseMethodDescriptor yX9_lorry.desc).map (fun d => d.parameters.length) = some 1 := by decide +kernel
theorem hd_X9_lorryOf : yX9_lorryOf.cls ≠ "java/lang/invoke/MethodHandle" ∧ yX9_lorryOf.cls ≠ "java/lang/invoke/VarHandle" ∧ (parseMethodDescriptor yX9_lorryOf.desc).map (fun d => d.parameters.length) = some 2 := by decide +kernel
theorem hd_X9_next : yX9_next.cls ≠ "java/lang/invoke/MethodHandle" ∧ yX9_next.cls ≠ "java/lang/invoke/VarHandle" ∧ (parseMethodDescriptor yX9_next.desc).map (fun d => d.parameters.length) = some 0 := by decide +kernel
theorem hd_X9_order : yX9_order.cls ≠ "java/lang/invoke/MethodHandle" ∧ yX9_order.cls ≠ "java/lang/invoke/VarHandle" ∧ (parseMethodDescriptor yX9_order.desc).map (fun d => d.parameters.length) = some 1 := by decide +kernel
theorem hd_X9_owed : yX9_owed.cls ≠ "java/lang/invoke/MethodHandle" ∧ yX9_owed.cls ≠ "java/lang/invoke/VarHandle" ∧ (parseMethodDescriptor yX9_owed.desc).map (fun d => d.parameters.length) = some 1 := by decide +kernel
theorem hd_X9_price : yX9_price.cls ≠ "java/lang/invoke/MethodHandle" ∧ yX9_price.cls ≠ "java/lang/invoke/VarHandle" ∧ (parseMethodDescriptor yX9_price.desc).map (fun d => d.parameters.length) = some 2 := by decide +kernel
theorem hd_X9_send : yX9_send.cls ≠ "java/lang/invoke/MethodHandle" ∧ yX9_send.cls ≠ "java/lang/invoke/VarHandle" ∧ (parseMethodDescriptor yX9_send.desc).map (fun d => d.parameters.length) = some 2 := by decide +kernel
theorem hd_X9_share : yX9_share.cls ≠ "java/lang/invoke/MethodHandle" ∧ yX9_share.cls ≠ "java/lang/invoke/VarHandle" ∧ (parseMethodDescriptor yX9_share.desc).map (fun d => d.parameters.length) = some 2 := by decide +kernel
theorem hd_X9_table : yX9_table.cls ≠ "java/lang/invoke/MethodHandle" ∧ yX9_table.cls ≠ "java/lang/invoke/VarHandle" ∧ (parseMethodDescriptor yX9_table.desc).map (fun d => d.parameters.length) = some 2 := by decide +kernel
theorem hd_X9_turn : yX9_turn.cls ≠ "java/lang/invoke/MethodHandle" ∧ yX9_turn.cls ≠ "java/lang/invoke/VarHandle" ∧ (parseMethodDescriptor yX9_turn.desc).map (fun d => d.parameters.length) = some 0 := by decide +kernel
theorem hd_X9_warmth : yX9_warmth.cls ≠ "java/lang/invoke/MethodHandle" ∧ yX9_warmth.cls ≠ "java/lang/invoke/VarHandle" ∧ (parseMethodDescriptor yX9_warmth.desc).map (fun d => d.parameters.length) = some 2 := by decide +kernel
theorem hd_X9_works : yX9_works.cls ≠ "java/lang/invoke/MethodHandle" ∧ yX9_works.cls ≠ "java/lang/invoke/VarHandle" ∧ (parseMethodDescriptor yX9_works.desc).map (fun d => d.parameters.length) = some 2 := by decide +kernel
set_option maxRecDepth 100000 in
theorem lm_0 : u_lay RX9 TX9 11 ∈ lw_tbl := List.mem_append_right _ (List.mem_append_left _ (List.mem_of_getElem? (i := 229) rfl))
set_option maxRecDepth 100000 in
theorem lm_1 : u_lay RX9 TX9 10 ∈ lw_tbl := List.mem_append_right _ (List.mem_append_left _ (List.mem_of_getElem? (i := 227) rfl))
set_option maxRecDepth 100000 in
theorem lm_2 : u_lay RX9 TX9 9 ∈ lw_tbl := List.mem_append_right _ (List.mem_append_left _ (List.mem_of_getElem? (i := 225) rfl))
set_option maxRecDepth 100000 in
theorem lm_3 : u_lay RX9 TX9 8 ∈ lw_tbl := List.mem_append_right _ (List.mem_append_left _ (List.mem_of_getElem? (i := 223) rfl))
set_option maxRecDepth 100000 in
theorem lm_4 : u_lay RX9 TX9 7 ∈ lw_tbl := List.mem_append_right _ (List.mem_append_left _ (List.mem_of_getElem? (i := 221) rfl))
set_option maxRecDepth 100000 in
theorem lm_5 : u_lay RX9 TX9 6 ∈ lw_tbl := List.mem_append_right _ (List.mem_append_left _ (List.mem_of_getElem? (i := 219) rfl))
set_option maxRecDepth 100000 in
theorem lm_6 : u_lay RX9 TX9 5 ∈ lw_tbl := List.mem_append_right _ (List.mem_append_left _ (List.mem_of_getElem? (i := 217) rfl))
set_option maxRecDepth 100000 in
theorem lm_7 : u_lay RX9 TX9 4 ∈ lw_tbl := List.mem_append_right _ (List.mem_append_left _ (List.mem_of_getElem? (i := 215) rfl))
set_option maxRecDepth 100000 in
theorem lm_8 : u_lay RX9 TX9 3 ∈ lw_tbl := List.mem_append_right _ (List.mem_append_left _ (List.mem_of_getElem? (i := 213) rfl))
set_option maxRecDepth 100000 in
theorem lm_9 : u_lay RX9 TX9 2 ∈ lw_tbl := List.mem_append_right _ (List.mem_append_left _ (List.mem_of_getElem? (i := 211) rfl))
set_option maxRecDepth 100000 in
theorem lm_10 : u_lay RX9 TX9 1 ∈ lw_tbl := List.mem_append_right _ (List.mem_append_left _ (List.mem_of_getElem? (i := 209) rfl))
set_option maxRecDepth 100000 in
theorem lm_11 : u_lay RX9 TX9 0 ∈ lw_tbl := List.mem_append_right _ (List.mem_append_left _ (List.mem_of_getElem? (i := 207) rfl))
set_option maxRecDepth 100000 in
theorem lm_12 : Cond.classLink RL 7 RX9 ∈ lw_tbl := List.mem_append_right _ (List.mem_append_left _ (List.mem_of_getElem? (i := 21) rfl))
set_option maxRecDepth 100000 in
theorem lm_13 : Cond.instantiable RX9 12 ∈ lw_tbl := List.mem_append_right _ (List.mem_append_left _ (List.mem_of_getElem? (i := 22) rfl))
set_option maxRecDepth 100000 in
theorem lm_14 : Cond.initialized RX9 ∈ lw_tbl := List.mem_append_right _ (List.mem_append_left _ (List.mem_of_getElem? (i := 1) rfl))
set_option maxRecDepth 100000 in
theorem lm_15 : u_lay RX1 TX1 1 ∈ lw_tbl := List.mem_append_right _ (List.mem_append_left _ (List.mem_of_getElem? (i := 192) rfl))
set_option maxRecDepth 100000 in
theorem lm_16 : u_lay RX1 TX1 0 ∈ lw_tbl := List.mem_append_right _ (List.mem_append_left _ (List.mem_of_getElem? (i := 190) rfl))
set_option maxRecDepth 100000 in
theorem lm_17 : u_lay RX0 TX0 3 ∈ lw_tbl := List.mem_append_right _ (List.mem_append_left _ (List.mem_of_getElem? (i := 178) rfl))
set_option maxRecDepth 100000 in
theorem lm_18 : u_lay RX0 TX0 2 ∈ lw_tbl := List.mem_append_right _ (List.mem_append_left _ (List.mem_of_getElem? (i := 176) rfl))
set_option maxRecDepth 100000 in
theorem lm_19 : u_lay RX0 TX0 1 ∈ lw_tbl := List.mem_append_right _ (List.mem_append_left _ (List.mem_of_getElem? (i := 174) rfl))
set_option maxRecDepth 100000 in
theorem lm_20 : u_lay RX0 TX0 0 ∈ lw_tbl := List.mem_append_right _ (List.mem_append_left _ (List.mem_of_getElem? (i := 172) rfl))
set_option maxRecDepth 100000 in
theorem lm_21 : u_lay RX5 TX5 6 ∈ lw_tbl := List.mem_append_right _ (List.mem_append_left _ (List.mem_of_getElem? (i := 156) rfl))
set_option maxRecDepth 100000 in
theorem lm_22 : u_lay RX5 TX5 5 ∈ lw_tbl := List.mem_append_right _ (List.mem_append_left _ (List.mem_of_getElem? (i := 154) rfl))
set_option maxRecDepth 100000 in
theorem lm_23 : u_lay RX5 TX5 4 ∈ lw_tbl := List.mem_append_right _ (List.mem_append_left _ (List.mem_of_getElem? (i := 152) rfl))
set_option maxRecDepth 100000 in
theorem lm_24 : u_lay RX5 TX5 3 ∈ lw_tbl := List.mem_append_right _ (List.mem_append_left _ (List.mem_of_getElem? (i := 150) rfl))
set_option maxRecDepth 100000 in
theorem lm_25 : u_lay RX5 TX5 2 ∈ lw_tbl := List.mem_append_right _ (List.mem_append_left _ (List.mem_of_getElem? (i := 148) rfl))
set_option maxRecDepth 100000 in
theorem lm_26 : u_lay RX5 TX5 1 ∈ lw_tbl := List.mem_append_right _ (List.mem_append_left _ (List.mem_of_getElem? (i := 146) rfl))
set_option maxRecDepth 100000 in
theorem lm_27 : u_lay RX5 TX5 0 ∈ lw_tbl := List.mem_append_right _ (List.mem_append_left _ (List.mem_of_getElem? (i := 144) rfl))
set_option maxRecDepth 100000 in
theorem lm_28 : u_lay RX4 TX4 4 ∈ lw_tbl := List.mem_append_right _ (List.mem_append_left _ (List.mem_of_getElem? (i := 126) rfl))
set_option maxRecDepth 100000 in
theorem lm_29 : u_lay RX4 TX4 3 ∈ lw_tbl := List.mem_append_right _ (List.mem_append_left _ (List.mem_of_getElem? (i := 124) rfl))
set_option maxRecDepth 100000 in
theorem lm_30 : u_lay RX4 TX4 2 ∈ lw_tbl := List.mem_append_right _ (List.mem_append_left _ (List.mem_of_getElem? (i := 122) rfl))
set_option maxRecDepth 100000 in
theorem lm_31 : u_lay RX4 TX4 1 ∈ lw_tbl := List.mem_append_right _ (List.mem_append_left _ (List.mem_of_getElem? (i := 120) rfl))
set_option maxRecDepth 100000 in
theorem lm_32 : u_lay RX4 TX4 0 ∈ lw_tbl := List.mem_append_right _ (List.mem_append_left _ (List.mem_of_getElem? (i := 118) rfl))
set_option maxRecDepth 100000 in
theorem lm_33 : u_lay RX8 TX8 3 ∈ lw_tbl := List.mem_append_right _ (List.mem_append_left _ (List.mem_of_getElem? (i := 99) rfl))
set_option maxRecDepth 100000 in
theorem lm_34 : u_lay RX8 TX8 2 ∈ lw_tbl := List.mem_append_right _ (List.mem_append_left _ (List.mem_of_getElem? (i := 97) rfl))
set_option maxRecDepth 100000 in
theorem lm_35 : u_lay RX8 TX8 1 ∈ lw_tbl := List.mem_append_right _ (List.mem_append_left _ (List.mem_of_getElem? (i := 95) rfl))
set_option maxRecDepth 100000 in
theorem lm_36 : u_lay RX8 TX8 0 ∈ lw_tbl := List.mem_append_right _ (List.mem_append_left _ (List.mem_of_getElem? (i := 93) rfl))
set_option maxRecDepth 100000 in
theorem lm_37 : u_lay RX7 TX7 1 ∈ lw_tbl := List.mem_append_right _ (List.mem_append_left _ (List.mem_of_getElem? (i := 71) rfl))
set_option maxRecDepth 100000 in
theorem lm_38 : u_lay RX7 TX7 0 ∈ lw_tbl := List.mem_append_right _ (List.mem_append_left _ (List.mem_of_getElem? (i := 69) rfl))
set_option maxRecDepth 100000 in
theorem lm_39 : u_lay RJx4a65c TJx4a65c 2 ∈ lw_tbl := List.mem_append_right _ (List.mem_append_left _ (List.mem_of_getElem? (i := 52) rfl))
set_option maxRecDepth 100000 in
theorem lm_40 : u_lay RJx4a65c TJx4a65c 1 ∈ lw_tbl := List.mem_append_right _ (List.mem_append_left _ (List.mem_of_getElem? (i := 50) rfl))
set_option maxRecDepth 100000 in
theorem lm_41 : u_lay RJx4a65c TJx4a65c 0 ∈ lw_tbl := List.mem_append_right _ (List.mem_append_left _ (List.mem_of_getElem? (i := 54) rfl))
set_option maxRecDepth 100000 in
theorem lm_42 : Cond.fieldLink RX1 13 "BeetHouse$Gang" "plot" "LBeetHouse$Plot;" ∈ lw_tbl := List.mem_append_right _ (List.mem_append_left _ (List.mem_of_getElem? (i := 188) rfl))
set_option maxRecDepth 100000 in
theorem lm_43 : Cond.fieldLink RX1 7 "BeetHouse$Gang" "rate" "I" ∈ lw_tbl := List.mem_append_right _ (List.mem_append_left _ (List.mem_of_getElem? (i := 186) rfl))
set_option maxRecDepth 100000 in
theorem lm_44 : Cond.methodLink RX1 1 objectInit ∈ lw_tbl := List.mem_append_right _ (List.mem_append_left _ (List.mem_of_getElem? (i := 185) rfl))
set_option maxRecDepth 100000 in
theorem lm_45 : Cond.code yX1_init cX1_init 1 none ∈ lw_tbl := List.mem_append_right _ (List.mem_append_left _ (List.mem_of_getElem? (i := 184) rfl))
set_option maxRecDepth 100000 in
theorem lm_46 : Cond.instanceMethod yX1_init ∈ lw_tbl := List.mem_append_right _ (List.mem_append_left _ (List.mem_of_getElem? (i := 183) rfl))
set_option maxRecDepth 100000 in
theorem lm_47 : Cond.fieldLink RX0 19 "BeetHouse$Farmer" "number" "I" ∈ lw_tbl := List.mem_append_right _ (List.mem_append_left _ (List.mem_of_getElem? (i := 164) rfl))
set_option maxRecDepth 100000 in
theorem lm_48 : Cond.fieldLink RX0 16 "BeetHouse$Farmer" "came" "I" ∈ lw_tbl := List.mem_append_right _ (List.mem_append_left _ (List.mem_of_getElem? (i := 170) rfl))
set_option maxRecDepth 100000 in
theorem lm_49 : Cond.fieldLink RX0 13 "BeetHouse$Farmer" "coins" "I" ∈ lw_tbl := List.mem_append_right _ (List.mem_append_left _ (List.mem_of_getElem? (i := 168) rfl))
set_option maxRecDepth 100000 in
theorem lm_50 : Cond.fieldLink RX0 7 "BeetHouse$Farmer" "share" "I" ∈ lw_tbl := List.mem_append_right _ (List.mem_append_left _ (List.mem_of_getElem? (i := 166) rfl))
set_option maxRecDepth 100000 in
theorem lm_51 : Cond.methodLink RX0 1 objectInit ∈ lw_tbl := List.mem_append_right _ (List.mem_append_left _ (List.mem_of_getElem? (i := 163) rfl))
set_option maxRecDepth 100000 in
theorem lm_52 : Cond.code yX0_init cX0_init 2 none ∈ lw_tbl := List.mem_append_right _ (List.mem_append_left _ (List.mem_of_getElem? (i := 162) rfl))
set_option maxRecDepth 100000 in
theorem lm_53 : Cond.instanceMethod yX0_init ∈ lw_tbl := List.mem_append_right _ (List.mem_append_left _ (List.mem_of_getElem? (i := 161) rfl))
set_option maxRecDepth 100000 in
theorem lm_54 : Cond.fieldLink RX5 33 "BeetHouse$Orders" "now" "I" ∈ lw_tbl := List.mem_append_right _ (List.mem_append_left _ (List.mem_of_getElem? (i := 143) rfl))
set_option maxRecDepth 100000 in
theorem lm_55 : Cond.fieldLink RX5 29 "BeetHouse$Orders" "size" "I" ∈ lw_tbl := List.mem_append_right _ (List.mem_append_left _ (List.mem_of_getElem? (i := 142) rfl))
set_option maxRecDepth 100000 in
theorem lm_56 : Cond.fieldLink RX5 26 "BeetHouse$Orders" "chosenAfter" "[I" ∈ lw_tbl := List.mem_append_right _ (List.mem_append_left _ (List.mem_of_getElem? (i := 141) rfl))
set_option maxRecDepth 100000 in
theorem lm_57 : Cond.fieldLink RX5 23 "BeetHouse$Orders" "leastAfter" "[I" ∈ lw_tbl := List.mem_append_right _ (List.mem_append_left _ (List.mem_of_getElem? (i := 140) rfl))
set_option maxRecDepth 100000 in
theorem lm_58 : Cond.fieldLink RX5 20 "BeetHouse$Orders" "begins" "[I" ∈ lw_tbl := List.mem_append_right _ (List.mem_append_left _ (List.mem_of_getElem? (i := 139) rfl))
set_option maxRecDepth 100000 in
theorem lm_59 : Cond.fieldLink RX5 17 "BeetHouse$Orders" "wasteByEnds" "[[I" ∈ lw_tbl := List.mem_append_right _ (List.mem_append_left _ (List.mem_of_getElem? (i := 138) rfl))
set_option maxRecDepth 100000 in
theorem lm_60 : Cond.classLink RX5 15 "[[I" ∈ lw_tbl := List.mem_append_right _ (List.mem_append_left _ (List.mem_of_getElem? (i := 135) rfl))
set_option maxRecDepth 100000 in
theorem lm_61 : Cond.fieldLink RX5 9 "BeetHouse$Orders" "numbers" "[I" ∈ lw_tbl := List.mem_append_right _ (List.mem_append_left _ (List.mem_of_getElem? (i := 137) rfl))
set_option maxRecDepth 100000 in
theorem lm_62 : Cond.methodLink RX5 3 objectInit ∈ lw_tbl := List.mem_append_right _ (List.mem_append_left _ (List.mem_of_getElem? (i := 134) rfl))
set_option maxRecDepth 100000 in
theorem lm_63 : Cond.code yX5_init cX5_init 1 none ∈ lw_tbl := List.mem_append_right _ (List.mem_append_left _ (List.mem_of_getElem? (i := 133) rfl))
set_option maxRecDepth 100000 in
theorem lm_64 : Cond.instanceMethod yX5_init ∈ lw_tbl := List.mem_append_right _ (List.mem_append_left _ (List.mem_of_getElem? (i := 132) rfl))
set_option maxRecDepth 100000 in
theorem lm_65 : Cond.fieldLink RX4 22 "BeetHouse$Mill" "lack" "I" ∈ lw_tbl := List.mem_append_right _ (List.mem_append_left _ (List.mem_of_getElem? (i := 116) rfl))
set_option maxRecDepth 100000 in
theorem lm_66 : Cond.fieldLink RX4 19 "BeetHouse$Mill" "stood" "I" ∈ lw_tbl := List.mem_append_right _ (List.mem_append_left _ (List.mem_of_getElem? (i := 114) rfl))
set_option maxRecDepth 100000 in
theorem lm_67 : Cond.fieldLink RX4 16 "BeetHouse$Mill" "sugarWon" "I" ∈ lw_tbl := List.mem_append_right _ (List.mem_append_left _ (List.mem_of_getElem? (i := 112) rfl))
set_option maxRecDepth 100000 in
theorem lm_68 : Cond.fieldLink RX4 13 "BeetHouse$Mill" "eaten" "I" ∈ lw_tbl := List.mem_append_right _ (List.mem_append_left _ (List.mem_of_getElem? (i := 110) rfl))
set_option maxRecDepth 100000 in
theorem lm_69 : Cond.fieldLink RX4 7 "BeetHouse$Mill" "rate" "I" ∈ lw_tbl := List.mem_append_right _ (List.mem_append_left _ (List.mem_of_getElem? (i := 108) rfl))
set_option maxRecDepth 100000 in
theorem lm_70 : Cond.methodLink RX4 1 objectInit ∈ lw_tbl := List.mem_append_right _ (List.mem_append_left _ (List.mem_of_getElem? (i := 107) rfl))
set_option maxRecDepth 100000 in
theorem lm_71 : Cond.code yX4_init cX4_init 1 none ∈ lw_tbl := List.mem_append_right _ (List.mem_append_left _ (List.mem_of_getElem? (i := 106) rfl))
set_option maxRecDepth 100000 in
theorem lm_72 : Cond.instanceMethod yX4_init ∈ lw_tbl := List.mem_append_right _ (List.mem_append_left _ (List.mem_of_getElem? (i := 105) rfl))
set_option maxRecDepth 100000 in
theorem lm_73 : Cond.methodLink RX8 9 yJx4a65c_init_da8c8 ∈ lw_tbl := List.mem_append_right _ (List.mem_append_left _ (List.mem_of_getElem? (i := 82) rfl))
set_option maxRecDepth 100000 in
theorem lm_74 : Cond.fieldLink RX8 23 "BeetHouse$Yard" "came" "I" ∈ lw_tbl := List.mem_append_right _ (List.mem_append_left _ (List.mem_of_getElem? (i := 91) rfl))
set_option maxRecDepth 100000 in
theorem lm_75 : Cond.fieldLink RX8 20 "BeetHouse$Yard" "roots" "I" ∈ lw_tbl := List.mem_append_right _ (List.mem_append_left _ (List.mem_of_getElem? (i := 88) rfl))
set_option maxRecDepth 100000 in
theorem lm_76 : Cond.fieldLink RX8 16 "BeetHouse$Yard" "room" "I" ∈ lw_tbl := List.mem_append_right _ (List.mem_append_left _ (List.mem_of_getElem? (i := 86) rfl))
set_option maxRecDepth 100000 in
theorem lm_77 : Cond.fieldLink RX8 10 "BeetHouse$Yard" "loads" "Ljava/util/ArrayList;" ∈ lw_tbl := List.mem_append_right _ (List.mem_append_left _ (List.mem_of_getElem? (i := 83) rfl))
set_option maxRecDepth 100000 in
theorem lm_78 : Cond.classLink RX8 7 RJx4a65c ∈ lw_tbl := List.mem_append_right _ (List.mem_append_left _ (List.mem_of_getElem? (i := 81) rfl))
set_option maxRecDepth 100000 in
theorem lm_79 : Cond.methodLink RX8 1 objectInit ∈ lw_tbl := List.mem_append_right _ (List.mem_append_left _ (List.mem_of_getElem? (i := 80) rfl))
set_option maxRecDepth 100000 in
theorem lm_80 : Cond.code yX8_init cX8_init 1 none ∈ lw_tbl := List.mem_append_right _ (List.mem_append_left _ (List.mem_of_getElem? (i := 79) rfl))
set_option maxRecDepth 100000 in
theorem lm_81 : Cond.instanceMethod yX8_init ∈ lw_tbl := List.mem_append_right _ (List.mem_append_left _ (List.mem_of_getElem? (i := 78) rfl))
set_option maxRecDepth 100000 in
theorem lm_82 : Cond.fieldLink RX7 15 "BeetHouse$Weather" "numbers" "[I" ∈ lw_tbl := List.mem_append_right _ (List.mem_append_left _ (List.mem_of_getElem? (i := 67) rfl))
set_option maxRecDepth 100000 in
theorem lm_83 : Cond.fieldLink RX7 9 "BeetHouse$Weather" "warmths" "[I" ∈ lw_tbl := List.mem_append_right _ (List.mem_append_left _ (List.mem_of_getElem? (i := 65) rfl))
set_option maxRecDepth 100000 in
theorem lm_84 : Cond.methodLink RX7 3 objectInit ∈ lw_tbl := List.mem_append_right _ (List.mem_append_left _ (List.mem_of_getElem? (i := 64) rfl))
set_option maxRecDepth 100000 in
theorem lm_85 : Cond.code yX7_init cX7_init 2 none ∈ lw_tbl := List.mem_append_right _ (List.mem_append_left _ (List.mem_of_getElem? (i := 63) rfl))
set_option maxRecDepth 100000 in
theorem lm_86 : Cond.instanceMethod yX7_init ∈ lw_tbl := List.mem_append_right _ (List.mem_append_left _ (List.mem_of_getElem? (i := 62) rfl))
set_option maxRecDepth 100000 in
theorem lm_87 : Cond.methodLink RJxa1e45 1 objectInit ∈ lw_tbl := List.mem_append_right _ (List.mem_append_left _ (List.mem_of_getElem? (i := 42) rfl))
set_option maxRecDepth 100000 in
theorem lm_88 : Cond.code yJxa1e45_init_da8c8 cJxa1e45_init_da8c8 1 none ∈ lw_tbl := List.mem_append_right _ (List.mem_append_left _ (List.mem_of_getElem? (i := 41) rfl))
set_option maxRecDepth 100000 in
theorem lm_89 : Cond.initialized RJxa1e45 ∈ lw_tbl := List.mem_append_right _ (List.mem_append_left _ (List.mem_of_getElem? (i := 2) rfl))
set_option maxRecDepth 100000 in
theorem lm_90 : Cond.instanceMethod yJxa1e45_init_da8c8 ∈ lw_tbl := List.mem_append_right _ (List.mem_append_left _ (List.mem_of_getElem? (i := 40) rfl))
set_option maxRecDepth 100000 in
theorem lm_91 : Cond.methodLink RJxc12de 1 yJxa1e45_init_da8c8 ∈ lw_tbl := List.mem_append_right _ (List.mem_append_left _ (List.mem_of_getElem? (i := 39) rfl))
set_option maxRecDepth 100000 in
theorem lm_92 : Cond.fieldLink RJxc12de 7 "java/util/AbstractList" "modCount" "I" ∈ lw_tbl := List.mem_append_right _ (List.mem_append_left _ (List.mem_of_getElem? (i := 47) rfl))
set_option maxRecDepth 100000 in
theorem lm_93 : Cond.code yJxc12de_init_da8c8 cJxc12de_init_da8c8 1 none ∈ lw_tbl := List.mem_append_right _ (List.mem_append_left _ (List.mem_of_getElem? (i := 38) rfl))
set_option maxRecDepth 100000 in
theorem lm_94 : Cond.initialized RJxc12de ∈ lw_tbl := List.mem_append_right _ (List.mem_append_left _ (List.mem_of_getElem? (i := 3) rfl))
set_option maxRecDepth 100000 in
theorem lm_95 : Cond.instanceMethod yJxc12de_init_da8c8 ∈ lw_tbl := List.mem_append_right _ (List.mem_append_left _ (List.mem_of_getElem? (i := 37) rfl))
set_option maxRecDepth 100000 in
theorem lm_96 : Cond.methodLink RJx4a65c 1 yJxc12de_init_da8c8 ∈ lw_tbl := List.mem_append_right _ (List.mem_append_left _ (List.mem_of_getElem? (i := 36) rfl))
set_option maxRecDepth 100000 in
theorem lm_97 : Cond.fieldLink RJx4a65c 9 "java/util/ArrayList" "elementData" "[Ljava/lang/Object;" ∈ lw_tbl := List.mem_append_right _ (List.mem_append_left _ (List.mem_of_getElem? (i := 45) rfl))
set_option maxRecDepth 100000 in
theorem lm_98 : Cond.fieldLink RJx4a65c 39 "java/util/ArrayList" "DEFAULTCAPACITY_EMPTY_ELEMENTDATA" "[Ljava/lang/Object;" ∈ lw_tbl := List.mem_append_right _ (List.mem_append_left _ (List.mem_of_getElem? (i := 43) rfl))
set_option maxRecDepth 100000 in
theorem lm_99 : Cond.code yJx4a65c_init_da8c8 cJx4a65c_init_da8c8 1 none ∈ lw_tbl := List.mem_append_right _ (List.mem_append_left _ (List.mem_of_getElem? (i := 35) rfl))
set_option maxRecDepth 100000 in
theorem lm_100 : Cond.instanceMethod yJx4a65c_init_da8c8 ∈ lw_tbl := List.mem_append_right _ (List.mem_append_left _ (List.mem_of_getElem? (i := 34) rfl))
set_option maxRecDepth 100000 in
theorem lm_101 : Cond.methodLink RX9 17 yJx4a65c_init_da8c8 ∈ lw_tbl := List.mem_append_right _ (List.mem_append_left _ (List.mem_of_getElem? (i := 33) rfl))
set_option maxRecDepth 100000 in
theorem lm_102 : Cond.initialized RX1 ∈ lw_tbl := List.mem_append_right _ (List.mem_append_left _ (List.mem_of_getElem? (i := 10) rfl))
set_option maxRecDepth 100000 in
theorem lm_103 : Cond.instantiable RX1 2 ∈ lw_tbl := List.mem_append_right _ (List.mem_append_left _ (List.mem_of_getElem? (i := 181) rfl))
set_option maxRecDepth 100000 in
theorem lm_104 : Cond.initialized RX0 ∈ lw_tbl := List.mem_append_right _ (List.mem_append_left _ (List.mem_of_getElem? (i := 9) rfl))
set_option maxRecDepth 100000 in
theorem lm_105 : Cond.instantiable RX0 4 ∈ lw_tbl := List.mem_append_right _ (List.mem_append_left _ (List.mem_of_getElem? (i := 159) rfl))
set_option maxRecDepth 100000 in
theorem lm_106 : Cond.fieldLink RX9 70 "BeetHouse" "hour" "I" ∈ lw_tbl := List.mem_append_right _ (List.mem_append_left _ (List.mem_of_getElem? (i := 206) rfl))
set_option maxRecDepth 100000 in
theorem lm_107 : Cond.fieldLink RX9 66 "BeetHouse" "freezing" "Z" ∈ lw_tbl := List.mem_append_right _ (List.mem_append_left _ (List.mem_of_getElem? (i := 205) rfl))
set_option maxRecDepth 100000 in
theorem lm_108 : Cond.fieldLink RX9 63 "BeetHouse" "refusals" "[I" ∈ lw_tbl := List.mem_append_right _ (List.mem_append_left _ (List.mem_of_getElem? (i := 204) rfl))
set_option maxRecDepth 100000 in
theorem lm_109 : Cond.fieldLink RX9 59 "BeetHouse" "prices" "[I" ∈ lw_tbl := List.mem_append_right _ (List.mem_append_left _ (List.mem_of_getElem? (i := 203) rfl))
set_option maxRecDepth 100000 in
theorem lm_110 : Cond.arrayClass .int ∈ lw_tbl := List.mem_append_right _ (List.mem_append_left _ (List.mem_of_getElem? (i := 74) rfl))
set_option maxRecDepth 100000 in
theorem lm_111 : Cond.fieldLink RX9 55 "BeetHouse" "orders" "LBeetHouse$Orders;" ∈ lw_tbl := List.mem_append_right _ (List.mem_append_left _ (List.mem_of_getElem? (i := 202) rfl))
set_option maxRecDepth 100000 in
theorem lm_112 : Cond.initialized RX5 ∈ lw_tbl := List.mem_append_right _ (List.mem_append_left _ (List.mem_of_getElem? (i := 8) rfl))
set_option maxRecDepth 100000 in
theorem lm_113 : Cond.instantiable RX5 7 ∈ lw_tbl := List.mem_append_right _ (List.mem_append_left _ (List.mem_of_getElem? (i := 130) rfl))
set_option maxRecDepth 100000 in
theorem lm_114 : Cond.classLink RX9 52 RX5 ∈ lw_tbl := List.mem_append_right _ (List.mem_append_left _ (List.mem_of_getElem? (i := 129) rfl))
set_option maxRecDepth 100000 in
theorem lm_115 : Cond.fieldLink RX9 48 "BeetHouse" "mill" "LBeetHouse$Mill;" ∈ lw_tbl := List.mem_append_right _ (List.mem_append_left _ (List.mem_of_getElem? (i := 201) rfl))
set_option maxRecDepth 100000 in
theorem lm_116 : Cond.initialized RX4 ∈ lw_tbl := List.mem_append_right _ (List.mem_append_left _ (List.mem_of_getElem? (i := 7) rfl))
set_option maxRecDepth 100000 in
theorem lm_117 : Cond.instantiable RX4 5 ∈ lw_tbl := List.mem_append_right _ (List.mem_append_left _ (List.mem_of_getElem? (i := 103) rfl))
set_option maxRecDepth 100000 in
theorem lm_118 : Cond.classLink RX9 45 RX4 ∈ lw_tbl := List.mem_append_right _ (List.mem_append_left _ (List.mem_of_getElem? (i := 102) rfl))
set_option maxRecDepth 100000 in
theorem lm_119 : Cond.fieldLink RX9 41 "BeetHouse" "yard" "LBeetHouse$Yard;" ∈ lw_tbl := List.mem_append_right _ (List.mem_append_left _ (List.mem_of_getElem? (i := 200) rfl))
set_option maxRecDepth 100000 in
theorem lm_120 : Cond.initialized RX8 ∈ lw_tbl := List.mem_append_right _ (List.mem_append_left _ (List.mem_of_getElem? (i := 6) rfl))
set_option maxRecDepth 100000 in
theorem lm_121 : Cond.instantiable RX8 4 ∈ lw_tbl := List.mem_append_right _ (List.mem_append_left _ (List.mem_of_getElem? (i := 76) rfl))
set_option maxRecDepth 100000 in
theorem lm_122 : Cond.classLink RX9 38 RX8 ∈ lw_tbl := List.mem_append_right _ (List.mem_append_left _ (List.mem_of_getElem? (i := 75) rfl))
set_option maxRecDepth 100000 in
theorem lm_123 : Cond.fieldLink RX9 34 "BeetHouse" "weather" "LBeetHouse$Weather;" ∈ lw_tbl := List.mem_append_right _ (List.mem_append_left _ (List.mem_of_getElem? (i := 199) rfl))
set_option maxRecDepth 100000 in
theorem lm_124 : Cond.initialized RX7 ∈ lw_tbl := List.mem_append_right _ (List.mem_append_left _ (List.mem_of_getElem? (i := 5) rfl))
set_option maxRecDepth 100000 in
theorem lm_125 : Cond.instantiable RX7 2 ∈ lw_tbl := List.mem_append_right _ (List.mem_append_left _ (List.mem_of_getElem? (i := 60) rfl))
set_option maxRecDepth 100000 in
theorem lm_126 : Cond.classLink RX9 31 RX7 ∈ lw_tbl := List.mem_append_right _ (List.mem_append_left _ (List.mem_of_getElem? (i := 59) rfl))
set_option maxRecDepth 100000 in
theorem lm_127 : Cond.fieldLink RX9 28 "BeetHouse" "lorries" "Ljava/util/ArrayList;" ∈ lw_tbl := List.mem_append_right _ (List.mem_append_left _ (List.mem_of_getElem? (i := 198) rfl))
set_option maxRecDepth 100000 in
theorem lm_128 : Cond.fieldLink RX9 24 "BeetHouse" "gangs" "[LBeetHouse$Gang;" ∈ lw_tbl := List.mem_append_right _ (List.mem_append_left _ (List.mem_of_getElem? (i := 197) rfl))
set_option maxRecDepth 100000 in
theorem lm_129 : Cond.classLink RX9 22 RX1 ∈ lw_tbl := List.mem_append_right _ (List.mem_append_left _ (List.mem_of_getElem? (i := 57) rfl))
set_option maxRecDepth 100000 in
theorem lm_130 : Cond.fieldLink RX9 18 "BeetHouse" "plots" "Ljava/util/ArrayList;" ∈ lw_tbl := List.mem_append_right _ (List.mem_append_left _ (List.mem_of_getElem? (i := 196) rfl))
set_option maxRecDepth 100000 in
theorem lm_131 : Cond.initialized RJx4a65c ∈ lw_tbl := List.mem_append_right _ (List.mem_append_left _ (List.mem_of_getElem? (i := 4) rfl))
set_option maxRecDepth 100000 in
theorem lm_132 : Cond.instantiable RJx4a65c 3 ∈ lw_tbl := List.mem_append_right _ (List.mem_append_left _ (List.mem_of_getElem? (i := 32) rfl))
set_option maxRecDepth 100000 in
theorem lm_133 : Cond.classLink RX9 15 RJx4a65c ∈ lw_tbl := List.mem_append_right _ (List.mem_append_left _ (List.mem_of_getElem? (i := 31) rfl))
set_option maxRecDepth 100000 in
theorem lm_134 : Cond.fieldLink RX9 11 "BeetHouse" "farmers" "[LBeetHouse$Farmer;" ∈ lw_tbl := List.mem_append_right _ (List.mem_append_left _ (List.mem_of_getElem? (i := 195) rfl))
set_option maxRecDepth 100000 in
theorem lm_135 : Cond.classLink RX9 9 RX0 ∈ lw_tbl := List.mem_append_right _ (List.mem_append_left _ (List.mem_of_getElem? (i := 29) rfl))
set_option maxRecDepth 100000 in
theorem lm_136 : Cond.code objectInit ⟨#[0xb1]⟩ 1 none ∈ lw_tbl := List.mem_append_right _ (List.mem_append_left _ (List.mem_of_getElem? (i := 28) rfl))
set_option maxRecDepth 100000 in
theorem lm_137 : Cond.instanceMethod objectInit ∈ lw_tbl := List.mem_append_right _ (List.mem_append_left _ (List.mem_of_getElem? (i := 27) rfl))
set_option maxRecDepth 100000 in
theorem lm_138 : Cond.methodLink RX9 1 objectInit ∈ lw_tbl := List.mem_append_right _ (List.mem_append_left _ (List.mem_of_getElem? (i := 26) rfl))
set_option maxRecDepth 100000 in
theorem lm_139 : Cond.code yX9_init cX9_init 2 none ∈ lw_tbl := List.mem_append_right _ (List.mem_append_left _ (List.mem_of_getElem? (i := 25) rfl))
set_option maxRecDepth 100000 in
theorem lm_140 : Cond.methodLink RL 9 yX9_init ∈ lw_tbl := List.mem_append_right _ (List.mem_append_left _ (List.mem_of_getElem? (i := 23) rfl))
set_option maxRecDepth 100000 in
theorem lm_141 : Cond.instanceMethod yX9_init ∈ lw_tbl := List.mem_append_right _ (List.mem_append_left _ (List.mem_of_getElem? (i := 24) rfl))
set_option maxRecDepth 100000 in
theorem lm_142 : u_lay RX10 TX10 48 ∈ lw_tbl := List.mem_append_right _ (List.mem_append_right _ (List.mem_append_right _ (List.mem_append_right _ (List.mem_append_left _ (List.mem_of_getElem? (i := 186) rfl)))))
set_option maxRecDepth 100000 in
theorem lm_143 : u_lay RX10 TX10 47 ∈ lw_tbl := List.mem_append_right _ (List.mem_append_right _ (List.mem_append_right _ (List.mem_append_right _ (List.mem_append_left _ (List.mem_of_getElem? (i := 184) rfl)))))
set_option maxRecDepth 100000 in
theorem lm_144 : u_lay RX10 TX10 46 ∈ lw_tbl := List.mem_append_right _ (List.mem_append_right _ (List.mem_append_right _ (List.mem_append_right _ (List.mem_append_left _ (List.mem_of_getElem? (i := 182) rfl)))))
set_option maxRecDepth 100000 in
theorem lm_145 : u_lay RX10 TX10 45 ∈ lw_tbl := List.mem_append_right _ (List.mem_append_right _ (List.mem_append_right _ (List.mem_append_right _ (List.mem_append_left _ (List.mem_of_getElem? (i := 180) rfl)))))
set_option maxRecDepth 100000 in
theorem lm_146 : u_lay RX10 TX10 44 ∈ lw_tbl := List.mem_append_right _ (List.mem_append_right _ (List.mem_append_right _ (List.mem_append_right _ (List.mem_append_left _ (List.mem_of_getElem? (i := 178) rfl)))))
set_option maxRecDepth 100000 in
theorem lm_147 : u_lay RX10 TX10 43 ∈ lw_tbl := List.mem_append_right _ (List.mem_append_right _ (List.mem_append_right _ (List.mem_append_right _ (List.mem_append_left _ (List.mem_of_getElem? (i := 176) rfl)))))
set_option maxRecDepth 100000 in
theorem lm_148 : u_lay RX10 TX10 42 ∈ lw_tbl := List.mem_append_right _ (List.mem_append_right _ (List.mem_append_right _ (List.mem_append_right _ (List.mem_append_left _ (List.mem_of_getElem? (i := 174) rfl)))))
set_option maxRecDepth 100000 in
theorem lm_149 : u_lay RX10 TX10 41 ∈ lw_tbl := List.mem_append_right _ (List.mem_append_right _ (List.mem_append_right _ (List.mem_append_right _ (List.mem_append_left _ (List.mem_of_getElem? (i := 172) rfl)))))
set_option maxRecDepth 100000 in
theorem lm_150 : u_lay RX10 TX10 40 ∈ lw_tbl := List.mem_append_right _ (List.mem_append_right _ (List.mem_append_right _ (List.mem_append_right _ (List.mem_append_left _ (List.mem_of_getElem? (i := 170) rfl)))))
set_option maxRecDepth 100000 in
theorem lm_151 : u_lay RX10 TX10 39 ∈ lw_tbl := List.mem_append_right _ (List.mem_append_right _ (List.mem_append_right _ (List.mem_append_right _ (List.mem_append_left _ (List.mem_of_getElem? (i := 168) rfl)))))
set_option maxRecDepth 100000 in
theorem lm_152 : u_lay RX10 TX10 38 ∈ lw_tbl := List.mem_append_right _ (List.mem_append_right _ (List.mem_append_right _ (List.mem_append_right _ (List.mem_append_left _ (List.mem_of_getElem? (i := 166) rfl)))))
set_option maxRecDepth 100000 in
theorem lm_153 : u_lay RX10 TX10 37 ∈ lw_tbl := List.mem_append_right _ (List.mem_append_right _ (List.mem_append_right _ (List.mem_append_right _ (List.mem_append_left _ (List.mem_of_getElem? (i := 164) rfl)))))
set_option maxRecDepth 100000 in
theorem lm_154 : u_lay RX10 TX10 36 ∈ lw_tbl := List.mem_append_right _ (List.mem_append_right _ (List.mem_append_right _ (List.mem_append_right _ (List.mem_append_left _ (List.mem_of_getElem? (i := 162) rfl)))))
set_option maxRecDepth 100000 in
theorem lm_155 : u_lay RX10 TX10 35 ∈ lw_tbl := List.mem_append_right _ (List.mem_append_right _ (List.mem_append_right _ (List.mem_append_right _ (List.mem_append_left _ (List.mem_of_getElem? (i := 160) rfl)))))
set_option maxRecDepth 100000 in
theorem lm_156 : u_lay RX10 TX10 34 ∈ lw_tbl := List.mem_append_right _ (List.mem_append_right _ (List.mem_append_right _ (List.mem_append_right _ (List.mem_append_left _ (List.mem_of_getElem? (i := 158) rfl)))))
set_option maxRecDepth 100000 in
theorem lm_157 : u_lay RX10 TX10 33 ∈ lw_tbl := List.mem_append_right _ (List.mem_append_right _ (List.mem_append_right _ (List.mem_append_right _ (List.mem_append_left _ (List.mem_of_getElem? (i := 156) rfl)))))
set_option maxRecDepth 100000 in
theorem lm_158 : u_lay RX10 TX10 32 ∈ lw_tbl := List.mem_append_right _ (List.mem_append_right _ (List.mem_append_right _ (List.mem_append_right _ (List.mem_append_left _ (List.mem_of_getElem? (i := 154) rfl)))))
set_option maxRecDepth 100000 in
theorem lm_159 : u_lay RX10 TX10 31 ∈ lw_tbl := List.mem_append_right _ (List.mem_append_right _ (List.mem_append_right _ (List.mem_append_right _ (List.mem_append_left _ (List.mem_of_getElem? (i := 152) rfl)))))
set_option maxRecDepth 100000 in
theorem lm_160 : u_lay RX10 TX10 30 ∈ lw_tbl := List.mem_append_right _ (List.mem_append_right _ (List.mem_append_right _ (List.mem_append_right _ (List.mem_append_left _ (List.mem_of_getElem? (i := 150) rfl)))))
set_option maxRecDepth 100000 in
theorem lm_161 : u_lay RX10 TX10 29 ∈ lw_tbl := List.mem_append_right _ (List.mem_append_right _ (List.mem_append_right _ (List.mem_append_right _ (List.mem_append_left _ (List.mem_of_getElem? (i := 148) rfl)))))
set_option maxRecDepth 100000 in
theorem lm_162 : u_lay RX10 TX10 28 ∈ lw_tbl := List.mem_append_right _ (List.mem_append_right _ (List.mem_append_right _ (List.mem_append_right _ (List.mem_append_left _ (List.mem_of_getElem? (i := 146) rfl)))))
set_option maxRecDepth 100000 in
theorem lm_163 : u_lay RX10 TX10 27 ∈ lw_tbl := List.mem_append_right _ (List.mem_append_right _ (List.mem_append_right _ (List.mem_append_right _ (List.mem_append_left _ (List.mem_of_getElem? (i := 144) rfl)))))
set_option maxRecDepth 100000 in
theorem lm_164 : u_lay RX10 TX10 26 ∈ lw_tbl := List.mem_append_right _ (List.mem_append_right _ (List.mem_append_right _ (List.mem_append_right _ (List.mem_append_left _ (List.mem_of_getElem? (i := 142) rfl)))))
set_option maxRecDepth 100000 in
theorem lm_165 : u_lay RX10 TX10 25 ∈ lw_tbl := List.mem_append_right _ (List.mem_append_right _ (List.mem_append_right _ (List.mem_append_right _ (List.mem_append_left _ (List.mem_of_getElem? (i := 140) rfl)))))
set_option maxRecDepth 100000 in
theorem lm_166 : u_lay RX10 TX10 24 ∈ lw_tbl := List.mem_append_right _ (List.mem_append_right _ (List.mem_append_right _ (List.mem_append_right _ (List.mem_append_left _ (List.mem_of_getElem? (i := 138) rfl)))))
set_option maxRecDepth 100000 in
theorem lm_167 : u_lay RX10 TX10 23 ∈ lw_tbl := List.mem_append_right _ (List.mem_append_right _ (List.mem_append_right _ (List.mem_append_right _ (List.mem_append_left _ (List.mem_of_getElem? (i := 136) rfl)))))
set_option maxRecDepth 100000 in
theorem lm_168 : u_lay RX10 TX10 22 ∈ lw_tbl := List.mem_append_right _ (List.mem_append_right _ (List.mem_append_right _ (List.mem_append_right _ (List.mem_append_left _ (List.mem_of_getElem? (i := 134) rfl)))))
set_option maxRecDepth 100000 in
theorem lm_169 : u_lay RX10 TX10 21 ∈ lw_tbl := List.mem_append_right _ (List.mem_append_right _ (List.mem_append_right _ (List.mem_append_right _ (List.mem_append_left _ (List.mem_of_getElem? (i := 132) rfl)))))
set_option maxRecDepth 100000 in
theorem lm_170 : u_lay RX10 TX10 20 ∈ lw_tbl := List.mem_append_right _ (List.mem_append_right _ (List.mem_append_right _ (List.mem_append_right _ (List.mem_append_left _ (List.mem_of_getElem? (i := 130) rfl)))))
set_option maxRecDepth 100000 in
theorem lm_171 : u_lay RX10 TX10 19 ∈ lw_tbl := List.mem_append_right _ (List.mem_append_right _ (List.mem_append_right _ (List.mem_append_right _ (List.mem_append_left _ (List.mem_of_getElem? (i := 128) rfl)))))
set_option maxRecDepth 100000 in
theorem lm_172 : u_lay RX10 TX10 18 ∈ lw_tbl := List.mem_append_right _ (List.mem_append_right _ (List.mem_append_right _ (List.mem_append_right _ (List.mem_append_left _ (List.mem_of_getElem? (i := 126) rfl)))))
set_option maxRecDepth 100000 in
theorem lm_173 : u_lay RX10 TX10 17 ∈ lw_tbl := List.mem_append_right _ (List.mem_append_right _ (List.mem_append_right _ (List.mem_append_right _ (List.mem_append_left _ (List.mem_of_getElem? (i := 124) rfl)))))
set_option maxRecDepth 100000 in
theorem lm_174 : u_lay RX10 TX10 16 ∈ lw_tbl := List.mem_append_right _ (List.mem_append_right _ (List.mem_append_right _ (List.mem_append_right _ (List.mem_append_left _ (List.mem_of_getElem? (i := 122) rfl)))))
set_option maxRecDepth 100000 in
theorem lm_175 : u_lay RX10 TX10 15 ∈ lw_tbl := List.mem_append_right _ (List.mem_append_right _ (List.mem_append_right _ (List.mem_append_right _ (List.mem_append_left _ (List.mem_of_getElem? (i := 120) rfl)))))
set_option maxRecDepth 100000 in
theorem lm_176 : u_lay RX10 TX10 14 ∈ lw_tbl := List.mem_append_right _ (List.mem_append_right _ (List.mem_append_right _ (List.mem_append_right _ (List.mem_append_left _ (List.mem_of_getElem? (i := 118) rfl)))))
set_option maxRecDepth 100000 in
theorem lm_177 : u_lay RX10 TX10 13 ∈ lw_tbl := List.mem_append_right _ (List.mem_append_right _ (List.mem_append_right _ (List.mem_append_right _ (List.mem_append_left _ (List.mem_of_getElem? (i := 116) rfl)))))
set_option maxRecDepth 100000 in
theorem lm_178 : u_lay RX10 TX10 12 ∈ lw_tbl := List.mem_append_right _ (List.mem_append_right _ (List.mem_append_right _ (List.mem_append_right _ (List.mem_append_left _ (List.mem_of_getElem? (i := 114) rfl)))))
set_option maxRecDepth 100000 in
theorem lm_179 : u_lay RX10 TX10 11 ∈ lw_tbl := List.mem_append_right _ (List.mem_append_right _ (List.mem_append_right _ (List.mem_append_right _ (List.mem_append_left _ (List.mem_of_getElem? (i := 112) rfl)))))
set_option maxRecDepth 100000 in
theorem lm_180 : u_lay RX10 TX10 10 ∈ lw_tbl := List.mem_append_right _ (List.mem_append_right _ (List.mem_append_right _ (List.mem_append_right _ (List.mem_append_left _ (List.mem_of_getElem? (i := 110) rfl)))))
set_option maxRecDepth 100000 in
theorem lm_181 : u_lay RX10 TX10 9 ∈ lw_tbl := List.mem_append_right _ (List.mem_append_right _ (List.mem_append_right _ (List.mem_append_right _ (List.mem_append_left _ (List.mem_of_getElem? (i := 108) rfl)))))
set_option maxRecDepth 100000 in
theorem lm_182 : u_lay RX10 TX10 8 ∈ lw_tbl := List.mem_append_right _ (List.mem_append_right _ (List.mem_append_right _ (List.mem_append_right _ (List.mem_append_left _ (List.mem_of_getElem? (i := 106) rfl)))))
set_option maxRecDepth 100000 in
theorem lm_183 : u_lay RX10 TX10 7 ∈ lw_tbl := List.mem_append_right _ (List.mem_append_right _ (List.mem_append_right _ (List.mem_append_right _ (List.mem_append_left _ (List.mem_of_getElem? (i := 104) rfl)))))
set_option maxRecDepth 100000 in
theorem lm_184 : u_lay RX10 TX10 6 ∈ lw_tbl := List.mem_append_right _ (List.mem_append_right _ (List.mem_append_right _ (List.mem_append_right _ (List.mem_append_left _ (List.mem_of_getElem? (i := 102) rfl)))))
set_option maxRecDepth 100000 in
theorem lm_185 : u_lay RX10 TX10 5 ∈ lw_tbl := List.mem_append_right _ (List.mem_append_right _ (List.mem_append_right _ (List.mem_append_right _ (List.mem_append_left _ (List.mem_of_getElem? (i := 100) rfl)))))
set_option maxRecDepth 100000 in
theorem lm_186 : u_lay RX10 TX10 4 ∈ lw_tbl := List.mem_append_right _ (List.mem_append_right _ (List.mem_append_right _ (List.mem_append_right _ (List.mem_append_left _ (List.mem_of_getElem? (i := 98) rfl)))))
set_option maxRecDepth 100000 in
theorem lm_187 : u_lay RX10 TX10 3 ∈ lw_tbl := List.mem_append_right _ (List.mem_append_right _ (List.mem_append_right _ (List.mem_append_right _ (List.mem_append_left _ (List.mem_of_getElem? (i := 96) rfl)))))
set_option maxRecDepth 100000 in
theorem lm_188 : u_lay RX10 TX10 2 ∈ lw_tbl := List.mem_append_right _ (List.mem_append_right _ (List.mem_append_right _ (List.mem_append_right _ (List.mem_append_left _ (List.mem_of_getElem? (i := 94) rfl)))))
set_option maxRecDepth 100000 in
theorem lm_189 : u_lay RX10 TX10 1 ∈ lw_tbl := List.mem_append_right _ (List.mem_append_right _ (List.mem_append_right _ (List.mem_append_right _ (List.mem_append_left _ (List.mem_of_getElem? (i := 92) rfl)))))
set_option maxRecDepth 100000 in
theorem lm_190 : u_lay RX10 TX10 0 ∈ lw_tbl := List.mem_append_right _ (List.mem_append_right _ (List.mem_append_right _ (List.mem_append_right _ (List.mem_append_left _ (List.mem_of_getElem? (i := 90) rfl)))))
set_option maxRecDepth 100000 in
theorem lm_191 : Cond.classLink RL 10 RX10 ∈ lw_tbl := List.mem_append_right _ (List.mem_append_right _ (List.mem_append_right _ (List.mem_append_right _ (List.mem_append_left _ (List.mem_of_getElem? (i := 35) rfl)))))
set_option maxRecDepth 100000 in
theorem lm_192 : Cond.instantiable RX10 49 ∈ lw_tbl := List.mem_append_right _ (List.mem_append_right _ (List.mem_append_right _ (List.mem_append_right _ (List.mem_append_left _ (List.mem_of_getElem? (i := 36) rfl)))))
set_option maxRecDepth 100000 in
theorem lm_193 : Cond.initialized RX10 ∈ lw_tbl := List.mem_append_right _ (List.mem_append_left _ (List.mem_of_getElem? (i := 11) rfl))
set_option maxRecDepth 100000 in
theorem lm_194 : Cond.fieldLink RX10 117 "BeetHouseModel" "least" "[I" ∈ lw_tbl := List.mem_append_right _ (List.mem_append_right _ (List.mem_append_right _ (List.mem_append_right _ (List.mem_append_left _ (List.mem_of_getElem? (i := 88) rfl)))))
set_option maxRecDepth 100000 in
theorem lm_195 : Cond.fieldLink RX10 114 "BeetHouseModel" "lasts" "[I" ∈ lw_tbl := List.mem_append_right _ (List.mem_append_right _ (List.mem_append_right _ (List.mem_append_right _ (List.mem_append_left _ (List.mem_of_getElem? (i := 87) rfl)))))
set_option maxRecDepth 100000 in
theorem lm_196 : Cond.fieldLink RX10 111 "BeetHouseModel" "heap" "[I" ∈ lw_tbl := List.mem_append_right _ (List.mem_append_right _ (List.mem_append_right _ (List.mem_append_right _ (List.mem_append_left _ (List.mem_of_getElem? (i := 86) rfl)))))
set_option maxRecDepth 100000 in
theorem lm_197 : Cond.fieldLink RX10 108 "BeetHouseModel" "loadSugar" "[I" ∈ lw_tbl := List.mem_append_right _ (List.mem_append_right _ (List.mem_append_right _ (List.mem_append_right _ (List.mem_append_left _ (List.mem_of_getElem? (i := 84) rfl)))))
set_option maxRecDepth 100000 in
theorem lm_198 : Cond.fieldLink RX10 105 "BeetHouseModel" "loadRoots" "[I" ∈ lw_tbl := List.mem_append_right _ (List.mem_append_right _ (List.mem_append_right _ (List.mem_append_right _ (List.mem_append_left _ (List.mem_of_getElem? (i := 83) rfl)))))
set_option maxRecDepth 100000 in
theorem lm_199 : Cond.fieldLink RX10 102 "BeetHouseModel" "loadField" "[I" ∈ lw_tbl := List.mem_append_right _ (List.mem_append_right _ (List.mem_append_right _ (List.mem_append_right _ (List.mem_append_left _ (List.mem_of_getElem? (i := 82) rfl)))))
set_option maxRecDepth 100000 in
theorem lm_200 : Cond.fieldLink RX10 99 "BeetHouseModel" "brought" "[I" ∈ lw_tbl := List.mem_append_right _ (List.mem_append_right _ (List.mem_append_right _ (List.mem_append_right _ (List.mem_append_left _ (List.mem_of_getElem? (i := 81) rfl)))))
set_option maxRecDepth 100000 in
theorem lm_201 : Cond.fieldLink RX10 96 "BeetHouseModel" "drowned" "[I" ∈ lw_tbl := List.mem_append_right _ (List.mem_append_right _ (List.mem_append_right _ (List.mem_append_right _ (List.mem_append_left _ (List.mem_of_getElem? (i := 80) rfl)))))
set_option maxRecDepth 100000 in
theorem lm_202 : Cond.fieldLink RX10 93 "BeetHouseModel" "hasSugar" "[I" ∈ lw_tbl := List.mem_append_right _ (List.mem_append_right _ (List.mem_append_right _ (List.mem_append_right _ (List.mem_append_left _ (List.mem_of_getElem? (i := 79) rfl)))))
set_option maxRecDepth 100000 in
theorem lm_203 : Cond.fieldLink RX10 90 "BeetHouseModel" "has" "[I" ∈ lw_tbl := List.mem_append_right _ (List.mem_append_right _ (List.mem_append_right _ (List.mem_append_right _ (List.mem_append_left _ (List.mem_of_getElem? (i := 78) rfl)))))
set_option maxRecDepth 100000 in
theorem lm_204 : Cond.fieldLink RX10 87 "BeetHouseModel" "there" "[I" ∈ lw_tbl := List.mem_append_right _ (List.mem_append_right _ (List.mem_append_right _ (List.mem_append_right _ (List.mem_append_left _ (List.mem_of_getElem? (i := 77) rfl)))))
set_option maxRecDepth 100000 in
theorem lm_205 : Cond.fieldLink RX10 84 "BeetHouseModel" "to" "[I" ∈ lw_tbl := List.mem_append_right _ (List.mem_append_right _ (List.mem_append_right _ (List.mem_append_right _ (List.mem_append_left _ (List.mem_of_getElem? (i := 76) rfl)))))
set_option maxRecDepth 100000 in
theorem lm_206 : Cond.fieldLink RX10 81 "BeetHouseModel" "does" "[I" ∈ lw_tbl := List.mem_append_right _ (List.mem_append_right _ (List.mem_append_right _ (List.mem_append_right _ (List.mem_append_left _ (List.mem_of_getElem? (i := 75) rfl)))))
set_option maxRecDepth 100000 in
theorem lm_207 : Cond.fieldLink RX10 78 "BeetHouseModel" "size" "[I" ∈ lw_tbl := List.mem_append_right _ (List.mem_append_right _ (List.mem_append_right _ (List.mem_append_right _ (List.mem_append_left _ (List.mem_of_getElem? (i := 74) rfl)))))
set_option maxRecDepth 100000 in
theorem lm_208 : Cond.fieldLink RX10 75 "BeetHouseModel" "gangField" "[I" ∈ lw_tbl := List.mem_append_right _ (List.mem_append_right _ (List.mem_append_right _ (List.mem_append_right _ (List.mem_append_left _ (List.mem_of_getElem? (i := 73) rfl)))))
set_option maxRecDepth 100000 in
theorem lm_209 : Cond.fieldLink RX10 72 "BeetHouseModel" "gangRate" "[I" ∈ lw_tbl := List.mem_append_right _ (List.mem_append_right _ (List.mem_append_right _ (List.mem_append_right _ (List.mem_append_left _ (List.mem_of_getElem? (i := 72) rfl)))))
set_option maxRecDepth 100000 in
theorem lm_210 : Cond.fieldLink RX10 69 "BeetHouseModel" "frozen" "[Z" ∈ lw_tbl := List.mem_append_right _ (List.mem_append_right _ (List.mem_append_right _ (List.mem_append_right _ (List.mem_append_left _ (List.mem_of_getElem? (i := 71) rfl)))))
set_option maxRecDepth 100000 in
theorem lm_211 : Cond.fieldLink RX10 66 "BeetHouseModel" "covered" "[Z" ∈ lw_tbl := List.mem_append_right _ (List.mem_append_right _ (List.mem_append_right _ (List.mem_append_right _ (List.mem_append_left _ (List.mem_of_getElem? (i := 70) rfl)))))
set_option maxRecDepth 100000 in
theorem lm_212 : Cond.fieldLink RX10 62 "BeetHouseModel" "stony" "[Z" ∈ lw_tbl := List.mem_append_right _ (List.mem_append_right _ (List.mem_append_right _ (List.mem_append_right _ (List.mem_append_left _ (List.mem_of_getElem? (i := 69) rfl)))))
set_option maxRecDepth 100000 in
theorem lm_213 : Cond.arrayClass .boolean ∈ lw_tbl := List.mem_append_right _ (List.mem_append_right _ (List.mem_append_right _ (List.mem_append_right _ (List.mem_append_left _ (List.mem_of_getElem? (i := 189) rfl)))))
set_option maxRecDepth 100000 in
theorem lm_214 : Cond.fieldLink RX10 59 "BeetHouseModel" "came" "[I" ∈ lw_tbl := List.mem_append_right _ (List.mem_append_right _ (List.mem_append_right _ (List.mem_append_right _ (List.mem_append_left _ (List.mem_of_getElem? (i := 68) rfl)))))
set_option maxRecDepth 100000 in
theorem lm_215 : Cond.fieldLink RX10 56 "BeetHouseModel" "gone" "[I" ∈ lw_tbl := List.mem_append_right _ (List.mem_append_right _ (List.mem_append_right _ (List.mem_append_right _ (List.mem_append_left _ (List.mem_of_getElem? (i := 67) rfl)))))
set_option maxRecDepth 100000 in
theorem lm_216 : Cond.fieldLink RX10 53 "BeetHouseModel" "waste" "[I" ∈ lw_tbl := List.mem_append_right _ (List.mem_append_right _ (List.mem_append_right _ (List.mem_append_right _ (List.mem_append_left _ (List.mem_of_getElem? (i := 66) rfl)))))
set_option maxRecDepth 100000 in
theorem lm_217 : Cond.fieldLink RX10 50 "BeetHouseModel" "thawed" "[I" ∈ lw_tbl := List.mem_append_right _ (List.mem_append_right _ (List.mem_append_right _ (List.mem_append_right _ (List.mem_append_left _ (List.mem_of_getElem? (i := 65) rfl)))))
set_option maxRecDepth 100000 in
theorem lm_218 : Cond.fieldLink RX10 47 "BeetHouseModel" "sugar" "[I" ∈ lw_tbl := List.mem_append_right _ (List.mem_append_right _ (List.mem_append_right _ (List.mem_append_right _ (List.mem_append_left _ (List.mem_of_getElem? (i := 64) rfl)))))
set_option maxRecDepth 100000 in
theorem lm_219 : Cond.fieldLink RX10 44 "BeetHouseModel" "roots" "[I" ∈ lw_tbl := List.mem_append_right _ (List.mem_append_right _ (List.mem_append_right _ (List.mem_append_right _ (List.mem_append_left _ (List.mem_of_getElem? (i := 63) rfl)))))
set_option maxRecDepth 100000 in
theorem lm_220 : Cond.fieldLink RX10 41 "BeetHouseModel" "way" "[I" ∈ lw_tbl := List.mem_append_right _ (List.mem_append_right _ (List.mem_append_right _ (List.mem_append_right _ (List.mem_append_left _ (List.mem_of_getElem? (i := 62) rfl)))))
set_option maxRecDepth 100000 in
theorem lm_221 : Cond.fieldLink RX10 38 "BeetHouseModel" "sweet" "[I" ∈ lw_tbl := List.mem_append_right _ (List.mem_append_right _ (List.mem_append_right _ (List.mem_append_right _ (List.mem_append_left _ (List.mem_of_getElem? (i := 61) rfl)))))
set_option maxRecDepth 100000 in
theorem lm_222 : Cond.fieldLink RX10 35 "BeetHouseModel" "ground" "[I" ∈ lw_tbl := List.mem_append_right _ (List.mem_append_right _ (List.mem_append_right _ (List.mem_append_right _ (List.mem_append_left _ (List.mem_of_getElem? (i := 60) rfl)))))
set_option maxRecDepth 100000 in
theorem lm_223 : Cond.fieldLink RX10 32 "BeetHouseModel" "farmer" "[I" ∈ lw_tbl := List.mem_append_right _ (List.mem_append_right _ (List.mem_append_right _ (List.mem_append_right _ (List.mem_append_left _ (List.mem_of_getElem? (i := 59) rfl)))))
set_option maxRecDepth 100000 in
theorem lm_224 : Cond.fieldLink RX10 28 "BeetHouseModel" "room" "I" ∈ lw_tbl := List.mem_append_right _ (List.mem_append_right _ (List.mem_append_right _ (List.mem_append_right _ (List.mem_append_left _ (List.mem_of_getElem? (i := 50) rfl)))))
set_option maxRecDepth 100000 in
theorem lm_225 : Cond.fieldLink RX10 25 "BeetHouseModel" "prices" "[I" ∈ lw_tbl := List.mem_append_right _ (List.mem_append_right _ (List.mem_append_right _ (List.mem_append_right _ (List.mem_append_left _ (List.mem_of_getElem? (i := 46) rfl)))))
set_option maxRecDepth 100000 in
theorem lm_226 : Cond.fieldLink RX10 22 "BeetHouseModel" "tables" "[I" ∈ lw_tbl := List.mem_append_right _ (List.mem_append_right _ (List.mem_append_right _ (List.mem_append_right _ (List.mem_append_left _ (List.mem_of_getElem? (i := 45) rfl)))))
set_option maxRecDepth 100000 in
theorem lm_227 : Cond.fieldLink RX10 19 "BeetHouseModel" "warmths" "[I" ∈ lw_tbl := List.mem_append_right _ (List.mem_append_right _ (List.mem_append_right _ (List.mem_append_right _ (List.mem_append_left _ (List.mem_of_getElem? (i := 44) rfl)))))
set_option maxRecDepth 100000 in
theorem lm_228 : Cond.fieldLink RX10 16 "BeetHouseModel" "coins" "[I" ∈ lw_tbl := List.mem_append_right _ (List.mem_append_right _ (List.mem_append_right _ (List.mem_append_right _ (List.mem_append_left _ (List.mem_of_getElem? (i := 43) rfl)))))
set_option maxRecDepth 100000 in
theorem lm_229 : Cond.fieldLink RX10 13 "BeetHouseModel" "shares" "[I" ∈ lw_tbl := List.mem_append_right _ (List.mem_append_right _ (List.mem_append_right _ (List.mem_append_right _ (List.mem_append_left _ (List.mem_of_getElem? (i := 42) rfl)))))
set_option maxRecDepth 100000 in
theorem lm_230 : Cond.fieldLink RX10 7 "BeetHouseModel" "refusals" "[I" ∈ lw_tbl := List.mem_append_right _ (List.mem_append_right _ (List.mem_append_right _ (List.mem_append_right _ (List.mem_append_left _ (List.mem_of_getElem? (i := 41) rfl)))))
set_option maxRecDepth 100000 in
theorem lm_231 : Cond.methodLink RX10 1 objectInit ∈ lw_tbl := List.mem_append_right _ (List.mem_append_right _ (List.mem_append_right _ (List.mem_append_right _ (List.mem_append_left _ (List.mem_of_getElem? (i := 40) rfl)))))
set_option maxRecDepth 100000 in
theorem lm_232 : Cond.code yX10_init cX10_init 2 none ∈ lw_tbl := List.mem_append_right _ (List.mem_append_right _ (List.mem_append_right _ (List.mem_append_right _ (List.mem_append_left _ (List.mem_of_getElem? (i := 39) rfl)))))
set_option maxRecDepth 100000 in
theorem lm_233 : Cond.methodLink RL 12 yX10_init ∈ lw_tbl := List.mem_append_right _ (List.mem_append_right _ (List.mem_append_right _ (List.mem_append_right _ (List.mem_append_left _ (List.mem_of_getElem? (i := 37) rfl)))))
set_option maxRecDepth 100000 in
theorem lm_234 : Cond.instanceMethod yX10_init ∈ lw_tbl := List.mem_append_right _ (List.mem_append_right _ (List.mem_append_right _ (List.mem_append_right _ (List.mem_append_left _ (List.mem_of_getElem? (i := 38) rfl)))))
set_option maxRecDepth 100000 in
theorem lm_235 : Cond.code yX9_outside cX9_outside 3 (some .int) ∈ lw_tbl := List.mem_append_right _ (List.mem_append_right _ (List.mem_append_left _ (List.mem_of_getElem? (i := 6) rfl)))
set_option maxRecDepth 100000 in
theorem lm_236 : Cond.static yX9_outside ∈ lw_tbl := List.mem_append_right _ (List.mem_append_right _ (List.mem_append_left _ (List.mem_of_getElem? (i := 5) rfl)))
set_option maxRecDepth 100000 in
theorem lm_237 : Cond.methodLink RX9 86 yX9_outside ∈ lw_tbl := List.mem_append_right _ (List.mem_append_right _ (List.mem_append_left _ (List.mem_of_getElem? (i := 4) rfl)))
set_option maxRecDepth 100000 in
theorem lm_238 : Cond.code yX9_refuse cX9_refuse 2 (some .int) ∈ lw_tbl := List.mem_append_right _ (List.mem_append_right _ (List.mem_append_left _ (List.mem_of_getElem? (i := 3) rfl)))
set_option maxRecDepth 100000 in
theorem lm_239 : Cond.selects RX9 yX9_refuse yX9_refuse ∈ lw_tbl := List.mem_append_left _ (List.mem_of_getElem? (i := 1) rfl)
set_option maxRecDepth 100000 in
theorem lm_240 : Cond.instanceMethod yX9_refuse ∈ lw_tbl := List.mem_append_right _ (List.mem_append_right _ (List.mem_append_left _ (List.mem_of_getElem? (i := 2) rfl)))
set_option maxRecDepth 100000 in
theorem lm_241 : Cond.methodLink RX9 82 yX9_refuse ∈ lw_tbl := List.mem_append_right _ (List.mem_append_right _ (List.mem_append_left _ (List.mem_of_getElem? (i := 0) rfl)))
set_option maxRecDepth 100000 in
theorem lm_242 : Cond.code yX9_farmerAt cX9_farmerAt 2 (some (.object "BeetHouse$Farmer")) ∈ lw_tbl := List.mem_append_right _ (List.mem_append_left _ (List.mem_of_getElem? (i := 239) rfl))
set_option maxRecDepth 100000 in
theorem lm_243 : Cond.selects RX9 yX9_farmerAt yX9_farmerAt ∈ lw_tbl := List.mem_append_left _ (List.mem_of_getElem? (i := 0) rfl)
set_option maxRecDepth 100000 in
theorem lm_244 : Cond.instanceMethod yX9_farmerAt ∈ lw_tbl := List.mem_append_right _ (List.mem_append_left _ (List.mem_of_getElem? (i := 238) rfl))
set_option maxRecDepth 100000 in
theorem lm_245 : Cond.methodLink RX9 78 yX9_farmerAt ∈ lw_tbl := List.mem_append_right _ (List.mem_append_left _ (List.mem_of_getElem? (i := 236) rfl))
set_option maxRecDepth 100000 in
theorem lm_246 : Cond.code yX9_share cX9_share 6 (some .int) ∈ lw_tbl := List.mem_append_right _ (List.mem_append_left _ (List.mem_of_getElem? (i := 235) rfl))
set_option maxRecDepth 100000 in
theorem lm_247 : Cond.selects RX9 yX9_share yX9_share ∈ lw_tbl := List.mem_append_right _ (List.mem_append_left _ (List.mem_of_getElem? (i := 234) rfl))
set_option maxRecDepth 100000 in
theorem lm_248 : Cond.instanceMethod yX9_share ∈ lw_tbl := List.mem_append_right _ (List.mem_append_left _ (List.mem_of_getElem? (i := 233) rfl))
set_option maxRecDepth 100000 in
theorem lm_249 : Cond.methodLink RL 13 yX9_share ∈ lw_tbl := List.mem_append_right _ (List.mem_append_left _ (List.mem_of_getElem? (i := 232) rfl))
set_option maxRecDepth 100000 in
theorem lm_250 : Cond.code yX10_refuse cX10_refuse 2 (some .int) ∈ lw_tbl := List.mem_append_right _ (List.mem_append_right _ (List.mem_append_right _ (List.mem_append_right _ (List.mem_append_left _ (List.mem_of_getElem? (i := 200) rfl)))))
set_option maxRecDepth 100000 in
theorem lm_251 : Cond.selects RX10 yX10_refuse yX10_refuse ∈ lw_tbl := List.mem_append_left _ (List.mem_of_getElem? (i := 53) rfl)
set_option maxRecDepth 100000 in
theorem lm_252 : Cond.instanceMethod yX10_refuse ∈ lw_tbl := List.mem_append_right _ (List.mem_append_right _ (List.mem_append_right _ (List.mem_append_right _ (List.mem_append_left _ (List.mem_of_getElem? (i := 199) rfl)))))
set_option maxRecDepth 100000 in
theorem lm_253 : Cond.methodLink RX10 124 yX10_refuse ∈ lw_tbl := List.mem_append_right _ (List.mem_append_right _ (List.mem_append_right _ (List.mem_append_right _ (List.mem_append_left _ (List.mem_of_getElem? (i := 197) rfl)))))
set_option maxRecDepth 100000 in
theorem lm_254 : Cond.code yX10_isIn cX10_isIn 2 (some .boolean) ∈ lw_tbl := List.mem_append_right _ (List.mem_append_right _ (List.mem_append_right _ (List.mem_append_right _ (List.mem_append_left _ (List.mem_of_getElem? (i := 196) rfl)))))
set_option maxRecDepth 100000 in
theorem lm_255 : Cond.static yX10_isIn ∈ lw_tbl := List.mem_append_right _ (List.mem_append_right _ (List.mem_append_right _ (List.mem_append_right _ (List.mem_append_left _ (List.mem_of_getElem? (i := 195) rfl)))))
set_option maxRecDepth 100000 in
theorem lm_256 : Cond.methodLink RX10 120 yX10_isIn ∈ lw_tbl := List.mem_append_right _ (List.mem_append_right _ (List.mem_append_right _ (List.mem_append_right _ (List.mem_append_left _ (List.mem_of_getElem? (i := 194) rfl)))))
set_option maxRecDepth 100000 in
theorem lm_257 : Cond.code yX10_share cX10_share 4 (some .int) ∈ lw_tbl := List.mem_append_right _ (List.mem_append_right _ (List.mem_append_right _ (List.mem_append_right _ (List.mem_append_left _ (List.mem_of_getElem? (i := 193) rfl)))))
set_option maxRecDepth 100000 in
theorem lm_258 : Cond.selects RX10 yX10_share yX10_share ∈ lw_tbl := List.mem_append_right _ (List.mem_append_right _ (List.mem_append_right _ (List.mem_append_right _ (List.mem_append_left _ (List.mem_of_getElem? (i := 192) rfl)))))
set_option maxRecDepth 100000 in
theorem lm_259 : Cond.instanceMethod yX10_share ∈ lw_tbl := List.mem_append_right _ (List.mem_append_right _ (List.mem_append_right _ (List.mem_append_right _ (List.mem_append_left _ (List.mem_of_getElem? (i := 191) rfl)))))
set_option maxRecDepth 100000 in
theorem lm_260 : Cond.methodLink RL 17 yX10_share ∈ lw_tbl := List.mem_append_right _ (List.mem_append_right _ (List.mem_append_right _ (List.mem_append_right _ (List.mem_append_left _ (List.mem_of_getElem? (i := 190) rfl)))))
set_option maxRecDepth 100000 in
theorem lm_261 : Cond.code yJx4a65c_elementData_915e3 cJx4a65c_elementData_915e3 2 (some (.object "java/lang/Object")) ∈ lw_tbl := List.mem_append_right _ (List.mem_append_right _ (List.mem_append_left _ (List.mem_of_getElem? (i := 162) rfl)))
set_option maxRecDepth 100000 in
theorem lm_262 : Cond.selects RJx4a65c yJx4a65c_elementData_915e3 yJx4a65c_elementData_915e3 ∈ lw_tbl := List.mem_append_right _ (List.mem_append_right _ (List.mem_append_left _ (List.mem_of_getElem? (i := 161) rfl)))
set_option maxRecDepth 100000 in
theorem lm_263 : Cond.instanceMethod yJx4a65c_elementData_915e3 ∈ lw_tbl := List.mem_append_right _ (List.mem_append_right _ (List.mem_append_left _ (List.mem_of_getElem? (i := 160) rfl)))
set_option maxRecDepth 100000 in
theorem lm_264 : Cond.methodLink RJx4a65c 123 yJx4a65c_elementData_915e3 ∈ lw_tbl := List.mem_append_right _ (List.mem_append_right _ (List.mem_append_left _ (List.mem_of_getElem? (i := 159) rfl)))
set_option maxRecDepth 100000 in
theorem lm_265 : Cond.code yJ3_checkIndex_8e157 cJ3_checkIndex_8e157 3 (some .int) ∈ lw_tbl := List.mem_append_right _ (List.mem_append_right _ (List.mem_append_left _ (List.mem_of_getElem? (i := 158) rfl)))
set_option maxRecDepth 100000 in
theorem lm_266 : Cond.initialized RJ3 ∈ lw_tbl := List.mem_append_right _ (List.mem_append_left _ (List.mem_of_getElem? (i := 18) rfl))
set_option maxRecDepth 100000 in
theorem lm_267 : Cond.static yJ3_checkIndex_8e157 ∈ lw_tbl := List.mem_append_right _ (List.mem_append_right _ (List.mem_append_left _ (List.mem_of_getElem? (i := 157) rfl)))
set_option maxRecDepth 100000 in
theorem lm_268 : Cond.methodLink RJ15 105 yJ3_checkIndex_8e157 ∈ lw_tbl := List.mem_append_right _ (List.mem_append_right _ (List.mem_append_left _ (List.mem_of_getElem? (i := 156) rfl)))
set_option maxRecDepth 100000 in
theorem lm_269 : Cond.code yJ15_checkIndex_7cf53 cJ15_checkIndex_7cf53 2 (some .int) ∈ lw_tbl := List.mem_append_right _ (List.mem_append_right _ (List.mem_append_left _ (List.mem_of_getElem? (i := 155) rfl)))
set_option maxRecDepth 100000 in
theorem lm_270 : Cond.initialized RJ15 ∈ lw_tbl := List.mem_append_right _ (List.mem_append_left _ (List.mem_of_getElem? (i := 17) rfl))
set_option maxRecDepth 100000 in
theorem lm_271 : Cond.static yJ15_checkIndex_7cf53 ∈ lw_tbl := List.mem_append_right _ (List.mem_append_right _ (List.mem_append_left _ (List.mem_of_getElem? (i := 154) rfl)))
set_option maxRecDepth 100000 in
theorem lm_272 : Cond.methodLink RJx4a65c 118 yJ15_checkIndex_7cf53 ∈ lw_tbl := List.mem_append_right _ (List.mem_append_right _ (List.mem_append_left _ (List.mem_of_getElem? (i := 153) rfl)))
set_option maxRecDepth 100000 in
theorem lm_273 : Cond.code yJx4a65c_get_915e3 cJx4a65c_get_915e3 2 (some (.object "java/lang/Object")) ∈ lw_tbl := List.mem_append_right _ (List.mem_append_right _ (List.mem_append_left _ (List.mem_of_getElem? (i := 152) rfl)))
set_option maxRecDepth 100000 in
theorem lm_274 : Cond.selects RJx4a65c yJx4a65c_get_915e3 yJx4a65c_get_915e3 ∈ lw_tbl := List.mem_append_right _ (List.mem_append_right _ (List.mem_append_left _ (List.mem_of_getElem? (i := 151) rfl)))
set_option maxRecDepth 100000 in
theorem lm_275 : Cond.instanceMethod yJx4a65c_get_915e3 ∈ lw_tbl := List.mem_append_right _ (List.mem_append_right _ (List.mem_append_left _ (List.mem_of_getElem? (i := 150) rfl)))
set_option maxRecDepth 100000 in
theorem lm_276 : Cond.methodLink RX9 172 yJx4a65c_get_915e3 ∈ lw_tbl := List.mem_append_right _ (List.mem_append_right _ (List.mem_append_left _ (List.mem_of_getElem? (i := 149) rfl)))
set_option maxRecDepth 100000 in
theorem lm_277 : Cond.fieldLink RJx4a65c 48 "java/util/ArrayList" "size" "I" ∈ lw_tbl := List.mem_append_right _ (List.mem_append_left _ (List.mem_of_getElem? (i := 46) rfl))
set_option maxRecDepth 100000 in
theorem lm_278 : Cond.code yJx4a65c_size_8abf5 cJx4a65c_size_8abf5 1 (some .int) ∈ lw_tbl := List.mem_append_right _ (List.mem_append_right _ (List.mem_append_left _ (List.mem_of_getElem? (i := 14) rfl)))
set_option maxRecDepth 100000 in
theorem lm_279 : Cond.selects RJx4a65c yJx4a65c_size_8abf5 yJx4a65c_size_8abf5 ∈ lw_tbl := List.mem_append_right _ (List.mem_append_right _ (List.mem_append_left _ (List.mem_of_getElem? (i := 13) rfl)))
set_option maxRecDepth 100000 in
theorem lm_280 : Cond.instanceMethod yJx4a65c_size_8abf5 ∈ lw_tbl := List.mem_append_right _ (List.mem_append_right _ (List.mem_append_left _ (List.mem_of_getElem? (i := 12) rfl)))
set_option maxRecDepth 100000 in
theorem lm_281 : Cond.methodLink RX9 93 yJx4a65c_size_8abf5 ∈ lw_tbl := List.mem_append_right _ (List.mem_append_right _ (List.mem_append_left _ (List.mem_of_getElem? (i := 11) rfl)))
set_option maxRecDepth 100000 in
theorem lm_282 : Cond.classLink RX9 97 "BeetHouse$Plot" ∈ lw_tbl := List.mem_append_right _ (List.mem_append_right _ (List.mem_append_left _ (List.mem_of_getElem? (i := 15) rfl)))
set_option maxRecDepth 100000 in
theorem lm_283 : Cond.code yX9_plotAt cX9_plotAt 2 (some (.object "BeetHouse$Plot")) ∈ lw_tbl := List.mem_append_right _ (List.mem_append_right _ (List.mem_append_left _ (List.mem_of_getElem? (i := 148) rfl)))
set_option maxRecDepth 100000 in
theorem lm_284 : Cond.selects RX9 yX9_plotAt yX9_plotAt ∈ lw_tbl := List.mem_append_left _ (List.mem_of_getElem? (i := 5) rfl)
set_option maxRecDepth 100000 in
theorem lm_285 : Cond.instanceMethod yX9_plotAt ∈ lw_tbl := List.mem_append_right _ (List.mem_append_right _ (List.mem_append_left _ (List.mem_of_getElem? (i := 147) rfl)))
set_option maxRecDepth 100000 in
theorem lm_286 : Cond.methodLink RX9 106 yX9_plotAt ∈ lw_tbl := List.mem_append_right _ (List.mem_append_right _ (List.mem_append_left _ (List.mem_of_getElem? (i := 145) rfl)))
set_option maxRecDepth 100000 in
theorem lm_287 : Cond.code yX9_gang cX9_gang 6 (some .int) ∈ lw_tbl := List.mem_append_right _ (List.mem_append_right _ (List.mem_append_left _ (List.mem_of_getElem? (i := 144) rfl)))
set_option maxRecDepth 100000 in
theorem lm_288 : Cond.selects RX9 yX9_gang yX9_gang ∈ lw_tbl := List.mem_append_right _ (List.mem_append_right _ (List.mem_append_left _ (List.mem_of_getElem? (i := 143) rfl)))
set_option maxRecDepth 100000 in
theorem lm_289 : Cond.instanceMethod yX9_gang ∈ lw_tbl := List.mem_append_right _ (List.mem_append_right _ (List.mem_append_left _ (List.mem_of_getElem? (i := 142) rfl)))
set_option maxRecDepth 100000 in
theorem lm_290 : Cond.methodLink RL 23 yX9_gang ∈ lw_tbl := List.mem_append_right _ (List.mem_append_right _ (List.mem_append_left _ (List.mem_of_getElem? (i := 141) rfl)))
set_option maxRecDepth 100000 in
theorem lm_291 : Cond.fieldLink RX10 128 "BeetHouseModel" "fields" "I" ∈ lw_tbl := List.mem_append_right _ (List.mem_append_right _ (List.mem_append_right _ (List.mem_append_right _ (List.mem_append_left _ (List.mem_of_getElem? (i := 48) rfl)))))
set_option maxRecDepth 100000 in
theorem lm_292 : Cond.code yX10_isField cX10_isField 2 (some .boolean) ∈ lw_tbl := List.mem_append_right _ (List.mem_append_right _ (List.mem_append_right _ (List.mem_append_right _ (List.mem_append_left _ (List.mem_of_getElem? (i := 212) rfl)))))
set_option maxRecDepth 100000 in
theorem lm_293 : Cond.selects RX10 yX10_isField yX10_isField ∈ lw_tbl := List.mem_append_left _ (List.mem_of_getElem? (i := 54) rfl)
set_option maxRecDepth 100000 in
theorem lm_294 : Cond.instanceMethod yX10_isField ∈ lw_tbl := List.mem_append_right _ (List.mem_append_right _ (List.mem_append_right _ (List.mem_append_right _ (List.mem_append_left _ (List.mem_of_getElem? (i := 211) rfl)))))
set_option maxRecDepth 100000 in
theorem lm_295 : Cond.methodLink RX10 134 yX10_isField ∈ lw_tbl := List.mem_append_right _ (List.mem_append_right _ (List.mem_append_right _ (List.mem_append_right _ (List.mem_append_left _ (List.mem_of_getElem? (i := 209) rfl)))))
set_option maxRecDepth 100000 in
theorem lm_296 : Cond.code yX10_gang cX10_gang 4 (some .int) ∈ lw_tbl := List.mem_append_right _ (List.mem_append_right _ (List.mem_append_right _ (List.mem_append_right _ (List.mem_append_left _ (List.mem_of_getElem? (i := 208) rfl)))))
set_option maxRecDepth 100000 in
theorem lm_297 : Cond.selects RX10 yX10_gang yX10_gang ∈ lw_tbl := List.mem_append_right _ (List.mem_append_right _ (List.mem_append_right _ (List.mem_append_right _ (List.mem_append_left _ (List.mem_of_getElem? (i := 207) rfl)))))
set_option maxRecDepth 100000 in
theorem lm_298 : Cond.instanceMethod yX10_gang ∈ lw_tbl := List.mem_append_right _ (List.mem_append_right _ (List.mem_append_right _ (List.mem_append_right _ (List.mem_append_left _ (List.mem_of_getElem? (i := 206) rfl)))))
set_option maxRecDepth 100000 in
theorem lm_299 : Cond.methodLink RL 27 yX10_gang ∈ lw_tbl := List.mem_append_right _ (List.mem_append_right _ (List.mem_append_right _ (List.mem_append_right _ (List.mem_append_left _ (List.mem_of_getElem? (i := 205) rfl)))))
set_option maxRecDepth 100000 in
theorem lm_300 : u_lay RX3 TX3 7 ∈ lw_tbl := List.mem_append_right _ (List.mem_append_right _ (List.mem_append_left _ (List.mem_of_getElem? (i := 203) rfl)))
set_option maxRecDepth 100000 in
theorem lm_301 : u_lay RX3 TX3 6 ∈ lw_tbl := List.mem_append_right _ (List.mem_append_right _ (List.mem_append_left _ (List.mem_of_getElem? (i := 201) rfl)))
set_option maxRecDepth 100000 in
theorem lm_302 : u_lay RX3 TX3 5 ∈ lw_tbl := List.mem_append_right _ (List.mem_append_right _ (List.mem_append_left _ (List.mem_of_getElem? (i := 199) rfl)))
set_option maxRecDepth 100000 in
theorem lm_303 : u_lay RX3 TX3 4 ∈ lw_tbl := List.mem_append_right _ (List.mem_append_right _ (List.mem_append_left _ (List.mem_of_getElem? (i := 197) rfl)))
set_option maxRecDepth 100000 in
theorem lm_304 : u_lay RX3 TX3 3 ∈ lw_tbl := List.mem_append_right _ (List.mem_append_right _ (List.mem_append_left _ (List.mem_of_getElem? (i := 195) rfl)))
set_option maxRecDepth 100000 in
theorem lm_305 : u_lay RX3 TX3 2 ∈ lw_tbl := List.mem_append_right _ (List.mem_append_right _ (List.mem_append_left _ (List.mem_of_getElem? (i := 193) rfl)))
set_option maxRecDepth 100000 in
theorem lm_306 : u_lay RX3 TX3 1 ∈ lw_tbl := List.mem_append_right _ (List.mem_append_right _ (List.mem_append_left _ (List.mem_of_getElem? (i := 191) rfl)))
set_option maxRecDepth 100000 in
theorem lm_307 : u_lay RX3 TX3 0 ∈ lw_tbl := List.mem_append_right _ (List.mem_append_right _ (List.mem_append_left _ (List.mem_of_getElem? (i := 189) rfl)))
set_option maxRecDepth 100000 in
theorem lm_308 : Cond.initialized "java/lang/System" ∈ lw_tbl := List.mem_append_right _ (List.mem_append_left _ (List.mem_of_getElem? (i := 16) rfl))
set_option maxRecDepth 100000 in
theorem lm_309 : Cond.static arraycopyName ∈ lw_tbl := List.mem_append_right _ (List.mem_append_right _ (List.mem_append_left _ (List.mem_of_getElem? (i := 137) rfl)))
set_option maxRecDepth 100000 in
theorem lm_310 : Cond.native arraycopyName ∈ lw_tbl := List.mem_append_right _ (List.mem_append_right _ (List.mem_append_left _ (List.mem_of_getElem? (i := 138) rfl)))
set_option maxRecDepth 100000 in
theorem lm_311 : Cond.methodLink RJ7 150 arraycopyName ∈ lw_tbl := List.mem_append_right _ (List.mem_append_right _ (List.mem_append_left _ (List.mem_of_getElem? (i := 136) rfl)))
set_option maxRecDepth 100000 in
theorem lm_312 : Cond.code Lib.Math.min.name Lib.Math.min.code 2 (some .int) ∈ lw_tbl := List.mem_append_right _ (List.mem_append_right _ (List.mem_append_left _ (List.mem_of_getElem? (i := 135) rfl)))
set_option maxRecDepth 100000 in
theorem lm_313 : Cond.static Lib.Math.min.name ∈ lw_tbl := List.mem_append_right _ (List.mem_append_right _ (List.mem_append_left _ (List.mem_of_getElem? (i := 134) rfl)))
set_option maxRecDepth 100000 in
theorem lm_314 : Cond.methodLink RJ7 304 Lib.Math.min.name ∈ lw_tbl := List.mem_append_right _ (List.mem_append_right _ (List.mem_append_left _ (List.mem_of_getElem? (i := 133) rfl)))
set_option maxRecDepth 100000 in
theorem lm_315 : Cond.classLink RJ7 2 "java/lang/Object" ∈ lw_tbl := List.mem_append_right _ (List.mem_append_right _ (List.mem_append_left _ (List.mem_of_getElem? (i := 132) rfl)))
set_option maxRecDepth 100000 in
theorem lm_316 : Cond.classLink RJ7 110 "[Ljava/lang/Object;" ∈ lw_tbl := List.mem_append_right _ (List.mem_append_right _ (List.mem_append_left _ (List.mem_of_getElem? (i := 130) rfl)))
set_option maxRecDepth 100000 in
theorem lm_317 : Cond.code yJ7_copyOf_6403c cJ7_copyOf_6403c 4 (some (.array (.object "java/lang/Object"))) ∈ lw_tbl := List.mem_append_right _ (List.mem_append_right _ (List.mem_append_left _ (List.mem_of_getElem? (i := 129) rfl)))
set_option maxRecDepth 100000 in
theorem lm_318 : Cond.static yJ7_copyOf_6403c ∈ lw_tbl := List.mem_append_right _ (List.mem_append_right _ (List.mem_append_left _ (List.mem_of_getElem? (i := 128) rfl)))
set_option maxRecDepth 100000 in
theorem lm_319 : Cond.methodLink RJ7 300 yJ7_copyOf_6403c ∈ lw_tbl := List.mem_append_right _ (List.mem_append_right _ (List.mem_append_left _ (List.mem_of_getElem? (i := 127) rfl)))
set_option maxRecDepth 100000 in
theorem lm_320 : Cond.native ⟨"java/lang/Object", "getClass", "()Ljava/lang/Class;"⟩ ∈ lw_tbl := List.mem_append_right _ (List.mem_append_right _ (List.mem_append_left _ (List.mem_of_getElem? (i := 126) rfl)))
set_option maxRecDepth 100000 in
theorem lm_321 : Cond.instanceMethod ⟨"java/lang/Object", "getClass", "()Ljava/lang/Class;"⟩ ∈ lw_tbl := List.mem_append_right _ (List.mem_append_right _ (List.mem_append_left _ (List.mem_of_getElem? (i := 112) rfl)))
set_option maxRecDepth 100000 in
theorem lm_322 : Cond.selects "[Ljava/lang/Object;" ⟨"java/lang/Object", "getClass", "()Ljava/lang/Class;"⟩ ⟨"java/lang/Object", "getClass", "()Ljava/lang/Class;"⟩ ∈ lw_tbl := List.mem_append_right _ (List.mem_append_right _ (List.mem_append_right _ (List.mem_append_right _ (List.mem_append_right _ (List.mem_of_getElem? (i := 125) rfl)))))
set_option maxRecDepth 100000 in
theorem lm_323 : Cond.methodLink RJ7 86 ⟨"java/lang/Object", "getClass", "()Ljava/lang/Class;"⟩ ∈ lw_tbl := List.mem_append_right _ (List.mem_append_right _ (List.mem_append_left _ (List.mem_of_getElem? (i := 111) rfl)))
set_option maxRecDepth 100000 in
theorem lm_324 : Cond.code yJ7_copyOf_1904c cJ7_copyOf_1904c 2 (some (.array (.object "java/lang/Object"))) ∈ lw_tbl := List.mem_append_right _ (List.mem_append_right _ (List.mem_append_left _ (List.mem_of_getElem? (i := 110) rfl)))
set_option maxRecDepth 100000 in
theorem lm_325 : Cond.initialized RJ7 ∈ lw_tbl := List.mem_append_right _ (List.mem_append_left _ (List.mem_of_getElem? (i := 15) rfl))
set_option maxRecDepth 100000 in
theorem lm_326 : Cond.static yJ7_copyOf_1904c ∈ lw_tbl := List.mem_append_right _ (List.mem_append_right _ (List.mem_append_left _ (List.mem_of_getElem? (i := 109) rfl)))
set_option maxRecDepth 100000 in
theorem lm_327 : Cond.methodLink RJx4a65c 66 yJ7_copyOf_1904c ∈ lw_tbl := List.mem_append_right _ (List.mem_append_right _ (List.mem_append_left _ (List.mem_of_getElem? (i := 108) rfl)))
set_option maxRecDepth 100000 in
theorem lm_328 : Cond.code yJ8_hugeLength_7cf53 cJ8_hugeLength_7cf53 3 (some .int) ∈ lw_tbl := List.mem_append_right _ (List.mem_append_right _ (List.mem_append_left _ (List.mem_of_getElem? (i := 107) rfl)))
set_option maxRecDepth 100000 in
theorem lm_329 : Cond.static yJ8_hugeLength_7cf53 ∈ lw_tbl := List.mem_append_right _ (List.mem_append_right _ (List.mem_append_left _ (List.mem_of_getElem? (i := 106) rfl)))
set_option maxRecDepth 100000 in
theorem lm_330 : Cond.methodLink RJ8 201 yJ8_hugeLength_7cf53 ∈ lw_tbl := List.mem_append_right _ (List.mem_append_right _ (List.mem_append_left _ (List.mem_of_getElem? (i := 105) rfl)))
set_option maxRecDepth 100000 in
theorem lm_331 : Cond.constant RJ8 200 (2147483639) ∈ lw_tbl := List.mem_append_right _ (List.mem_append_right _ (List.mem_append_left _ (List.mem_of_getElem? (i := 104) rfl)))
set_option maxRecDepth 100000 in
theorem lm_332 : Cond.methodLink RJ8 194 Lib.Math.max.name ∈ lw_tbl := List.mem_append_right _ (List.mem_append_right _ (List.mem_append_left _ (List.mem_of_getElem? (i := 101) rfl)))
set_option maxRecDepth 100000 in
theorem lm_333 : Cond.code yJ8_newLength_cabcc cJ8_newLength_cabcc 4 (some .int) ∈ lw_tbl := List.mem_append_right _ (List.mem_append_right _ (List.mem_append_left _ (List.mem_of_getElem? (i := 100) rfl)))
set_option maxRecDepth 100000 in
theorem lm_334 : Cond.initialized RJ8 ∈ lw_tbl := List.mem_append_right _ (List.mem_append_left _ (List.mem_of_getElem? (i := 13) rfl))
set_option maxRecDepth 100000 in
theorem lm_335 : Cond.static yJ8_newLength_cabcc ∈ lw_tbl := List.mem_append_right _ (List.mem_append_right _ (List.mem_append_left _ (List.mem_of_getElem? (i := 99) rfl)))
set_option maxRecDepth 100000 in
theorem lm_336 : Cond.methodLink RJx4a65c 73 yJ8_newLength_cabcc ∈ lw_tbl := List.mem_append_right _ (List.mem_append_right _ (List.mem_append_left _ (List.mem_of_getElem? (i := 98) rfl)))
set_option maxRecDepth 100000 in
theorem lm_337 : Cond.classLink RJx4a65c 7 "java/lang/Object" ∈ lw_tbl := List.mem_append_right _ (List.mem_append_right _ (List.mem_append_left _ (List.mem_of_getElem? (i := 140) rfl)))
set_option maxRecDepth 100000 in
theorem lm_338 : Cond.code Lib.Math.max.name Lib.Math.max.code 2 (some .int) ∈ lw_tbl := List.mem_append_right _ (List.mem_append_right _ (List.mem_append_left _ (List.mem_of_getElem? (i := 103) rfl)))
set_option maxRecDepth 100000 in
theorem lm_339 : Cond.initialized "java/lang/Math" ∈ lw_tbl := List.mem_append_right _ (List.mem_append_left _ (List.mem_of_getElem? (i := 14) rfl))
set_option maxRecDepth 100000 in
theorem lm_340 : Cond.static Lib.Math.max.name ∈ lw_tbl := List.mem_append_right _ (List.mem_append_right _ (List.mem_append_left _ (List.mem_of_getElem? (i := 102) rfl)))
set_option maxRecDepth 100000 in
theorem lm_341 : Cond.methodLink RJx4a65c 79 Lib.Math.max.name ∈ lw_tbl := List.mem_append_right _ (List.mem_append_right _ (List.mem_append_left _ (List.mem_of_getElem? (i := 139) rfl)))
set_option maxRecDepth 100000 in
theorem lm_342 : Cond.code yJx4a65c_grow_92f84 cJx4a65c_grow_92f84 4 (some (.array (.object "java/lang/Object"))) ∈ lw_tbl := List.mem_append_right _ (List.mem_append_right _ (List.mem_append_left _ (List.mem_of_getElem? (i := 97) rfl)))
set_option maxRecDepth 100000 in
theorem lm_343 : Cond.selects RJx4a65c yJx4a65c_grow_92f84 yJx4a65c_grow_92f84 ∈ lw_tbl := List.mem_append_left _ (List.mem_of_getElem? (i := 4) rfl)
set_option maxRecDepth 100000 in
theorem lm_344 : Cond.instanceMethod yJx4a65c_grow_92f84 ∈ lw_tbl := List.mem_append_right _ (List.mem_append_right _ (List.mem_append_left _ (List.mem_of_getElem? (i := 96) rfl)))
set_option maxRecDepth 100000 in
theorem lm_345 : Cond.methodLink RJx4a65c 69 yJx4a65c_grow_92f84 ∈ lw_tbl := List.mem_append_right _ (List.mem_append_right _ (List.mem_append_left _ (List.mem_of_getElem? (i := 94) rfl)))
set_option maxRecDepth 100000 in
theorem lm_346 : Cond.code yJx4a65c_grow_d5877 cJx4a65c_grow_d5877 1 (some (.array (.object "java/lang/Object"))) ∈ lw_tbl := List.mem_append_right _ (List.mem_append_right _ (List.mem_append_left _ (List.mem_of_getElem? (i := 93) rfl)))
set_option maxRecDepth 100000 in
theorem lm_347 : Cond.selects RJx4a65c yJx4a65c_grow_d5877 yJx4a65c_grow_d5877 ∈ lw_tbl := List.mem_append_left _ (List.mem_of_getElem? (i := 3) rfl)
set_option maxRecDepth 100000 in
theorem lm_348 : Cond.instanceMethod yJx4a65c_grow_d5877 ∈ lw_tbl := List.mem_append_right _ (List.mem_append_right _ (List.mem_append_left _ (List.mem_of_getElem? (i := 92) rfl)))
set_option maxRecDepth 100000 in
theorem lm_349 : Cond.methodLink RJx4a65c 129 yJx4a65c_grow_d5877 ∈ lw_tbl := List.mem_append_right _ (List.mem_append_right _ (List.mem_append_left _ (List.mem_of_getElem? (i := 90) rfl)))
set_option maxRecDepth 100000 in
theorem lm_350 : Cond.code yJx4a65c_add_72be8 cJx4a65c_add_72be8 4 none ∈ lw_tbl := List.mem_append_right _ (List.mem_append_right _ (List.mem_append_left _ (List.mem_of_getElem? (i := 89) rfl)))
set_option maxRecDepth 100000 in
theorem lm_351 : Cond.selects RJx4a65c yJx4a65c_add_72be8 yJx4a65c_add_72be8 ∈ lw_tbl := List.mem_append_left _ (List.mem_of_getElem? (i := 2) rfl)
set_option maxRecDepth 100000 in
theorem lm_352 : Cond.instanceMethod yJx4a65c_add_72be8 ∈ lw_tbl := List.mem_append_right _ (List.mem_append_right _ (List.mem_append_left _ (List.mem_of_getElem? (i := 88) rfl)))
set_option maxRecDepth 100000 in
theorem lm_353 : Cond.methodLink RJx4a65c 131 yJx4a65c_add_72be8 ∈ lw_tbl := List.mem_append_right _ (List.mem_append_right _ (List.mem_append_left _ (List.mem_of_getElem? (i := 86) rfl)))
set_option maxRecDepth 100000 in
theorem lm_354 : Cond.sameField "java/util/ArrayList" "java/util/AbstractList" "modCount" "I" ∈ lw_tbl := List.mem_append_right _ (List.mem_append_left _ (List.mem_of_getElem? (i := 49) rfl))
set_option maxRecDepth 100000 in
theorem lm_355 : Cond.fieldLink RJx4a65c 63 "java/util/ArrayList" "modCount" "I" ∈ lw_tbl := List.mem_append_right _ (List.mem_append_left _ (List.mem_of_getElem? (i := 48) rfl))
set_option maxRecDepth 100000 in
theorem lm_356 : Cond.code yJx4a65c_add_9ea2d cJx4a65c_add_9ea2d 2 (some .boolean) ∈ lw_tbl := List.mem_append_right _ (List.mem_append_right _ (List.mem_append_left _ (List.mem_of_getElem? (i := 85) rfl)))
set_option maxRecDepth 100000 in
theorem lm_357 : Cond.selects RJx4a65c yJx4a65c_add_9ea2d yJx4a65c_add_9ea2d ∈ lw_tbl := List.mem_append_right _ (List.mem_append_right _ (List.mem_append_left _ (List.mem_of_getElem? (i := 84) rfl)))
set_option maxRecDepth 100000 in
theorem lm_358 : Cond.instanceMethod yJx4a65c_add_9ea2d ∈ lw_tbl := List.mem_append_right _ (List.mem_append_right _ (List.mem_append_left _ (List.mem_of_getElem? (i := 83) rfl)))
set_option maxRecDepth 100000 in
theorem lm_359 : Cond.methodLink RX9 102 yJx4a65c_add_9ea2d ∈ lw_tbl := List.mem_append_right _ (List.mem_append_right _ (List.mem_append_left _ (List.mem_of_getElem? (i := 82) rfl)))
set_option maxRecDepth 100000 in
theorem lm_360 : Cond.fieldLink RX3 34 "BeetHouse$Lorry" "capacity" "I" ∈ lw_tbl := List.mem_append_right _ (List.mem_append_right _ (List.mem_append_left _ (List.mem_of_getElem? (i := 173) rfl)))
set_option maxRecDepth 100000 in
theorem lm_361 : Cond.fieldLink RX3 31 "BeetHouse$Lorry" "brought" "I" ∈ lw_tbl := List.mem_append_right _ (List.mem_append_right _ (List.mem_append_left _ (List.mem_of_getElem? (i := 187) rfl)))
set_option maxRecDepth 100000 in
theorem lm_362 : Cond.fieldLink RX3 28 "BeetHouse$Lorry" "drowned" "I" ∈ lw_tbl := List.mem_append_right _ (List.mem_append_right _ (List.mem_append_left _ (List.mem_of_getElem? (i := 185) rfl)))
set_option maxRecDepth 100000 in
theorem lm_363 : Cond.fieldLink RX3 25 "BeetHouse$Lorry" "sugar" "I" ∈ lw_tbl := List.mem_append_right _ (List.mem_append_right _ (List.mem_append_left _ (List.mem_of_getElem? (i := 183) rfl)))
set_option maxRecDepth 100000 in
theorem lm_364 : Cond.fieldLink RX3 22 "BeetHouse$Lorry" "roots" "I" ∈ lw_tbl := List.mem_append_right _ (List.mem_append_right _ (List.mem_append_left _ (List.mem_of_getElem? (i := 181) rfl)))
set_option maxRecDepth 100000 in
theorem lm_365 : Cond.fieldLink RX3 19 "BeetHouse$Lorry" "there" "I" ∈ lw_tbl := List.mem_append_right _ (List.mem_append_right _ (List.mem_append_left _ (List.mem_of_getElem? (i := 179) rfl)))
set_option maxRecDepth 100000 in
theorem lm_366 : Cond.fieldLink RX3 15 "BeetHouse$Lorry" "plot" "LBeetHouse$Plot;" ∈ lw_tbl := List.mem_append_right _ (List.mem_append_right _ (List.mem_append_left _ (List.mem_of_getElem? (i := 177) rfl)))
set_option maxRecDepth 100000 in
theorem lm_367 : Cond.fieldLink RX3 9 "BeetHouse$Lorry" "state" "I" ∈ lw_tbl := List.mem_append_right _ (List.mem_append_right _ (List.mem_append_left _ (List.mem_of_getElem? (i := 175) rfl)))
set_option maxRecDepth 100000 in
theorem lm_368 : Cond.methodLink RX3 3 objectInit ∈ lw_tbl := List.mem_append_right _ (List.mem_append_right _ (List.mem_append_left _ (List.mem_of_getElem? (i := 172) rfl)))
set_option maxRecDepth 100000 in
theorem lm_369 : Cond.code yX3_init cX3_init 2 none ∈ lw_tbl := List.mem_append_right _ (List.mem_append_right _ (List.mem_append_left _ (List.mem_of_getElem? (i := 171) rfl)))
set_option maxRecDepth 100000 in
theorem lm_370 : Cond.instanceMethod yX3_init ∈ lw_tbl := List.mem_append_right _ (List.mem_append_right _ (List.mem_append_left _ (List.mem_of_getElem? (i := 170) rfl)))
set_option maxRecDepth 100000 in
theorem lm_371 : Cond.initialized RX3 ∈ lw_tbl := List.mem_append_right _ (List.mem_append_left _ (List.mem_of_getElem? (i := 19) rfl))
set_option maxRecDepth 100000 in
theorem lm_372 : Cond.instantiable RX3 8 ∈ lw_tbl := List.mem_append_right _ (List.mem_append_right _ (List.mem_append_left _ (List.mem_of_getElem? (i := 168) rfl)))
set_option maxRecDepth 100000 in
theorem lm_373 : Cond.classLink RX9 117 RX3 ∈ lw_tbl := List.mem_append_right _ (List.mem_append_right _ (List.mem_append_left _ (List.mem_of_getElem? (i := 167) rfl)))
set_option maxRecDepth 100000 in
theorem lm_374 : Cond.code yX9_lorry cX9_lorry 2 (some .int) ∈ lw_tbl := List.mem_append_right _ (List.mem_append_right _ (List.mem_append_left _ (List.mem_of_getElem? (i := 166) rfl)))
set_option maxRecDepth 100000 in
theorem lm_375 : Cond.selects RX9 yX9_lorry yX9_lorry ∈ lw_tbl := List.mem_append_right _ (List.mem_append_right _ (List.mem_append_left _ (List.mem_of_getElem? (i := 165) rfl)))
set_option maxRecDepth 100000 in
theorem lm_376 : Cond.instanceMethod yX9_lorry ∈ lw_tbl := List.mem_append_right _ (List.mem_append_right _ (List.mem_append_left _ (List.mem_of_getElem? (i := 164) rfl)))
set_option maxRecDepth 100000 in
theorem lm_377 : Cond.methodLink RL 28 yX9_lorry ∈ lw_tbl := List.mem_append_right _ (List.mem_append_right _ (List.mem_append_left _ (List.mem_of_getElem? (i := 163) rfl)))
set_option maxRecDepth 100000 in
theorem lm_378 : Cond.fieldLink RX10 131 "BeetHouseModel" "lorries" "I" ∈ lw_tbl := List.mem_append_right _ (List.mem_append_right _ (List.mem_append_right _ (List.mem_append_right _ (List.mem_append_left _ (List.mem_of_getElem? (i := 49) rfl)))))
set_option maxRecDepth 100000 in
theorem lm_379 : Cond.code yX10_lorry cX10_lorry 2 (some .int) ∈ lw_tbl := List.mem_append_right _ (List.mem_append_right _ (List.mem_append_right _ (List.mem_append_right _ (List.mem_append_left _ (List.mem_of_getElem? (i := 216) rfl)))))
set_option maxRecDepth 100000 in
theorem lm_380 : Cond.selects RX10 yX10_lorry yX10_lorry ∈ lw_tbl := List.mem_append_right _ (List.mem_append_right _ (List.mem_append_right _ (List.mem_append_right _ (List.mem_append_left _ (List.mem_of_getElem? (i := 215) rfl)))))
set_option maxRecDepth 100000 in
theorem lm_381 : Cond.instanceMethod yX10_lorry ∈ lw_tbl := List.mem_append_right _ (List.mem_append_right _ (List.mem_append_right _ (List.mem_append_right _ (List.mem_append_left _ (List.mem_of_getElem? (i := 214) rfl)))))
set_option maxRecDepth 100000 in
theorem lm_382 : Cond.methodLink RL 32 yX10_lorry ∈ lw_tbl := List.mem_append_right _ (List.mem_append_right _ (List.mem_append_right _ (List.mem_append_right _ (List.mem_append_left _ (List.mem_of_getElem? (i := 213) rfl)))))
set_option maxRecDepth 100000 in
theorem lm_383 : u_lay RX6 TX6 13 ∈ lw_tbl := List.mem_append_right _ (List.mem_append_right _ (List.mem_append_left _ (List.mem_of_getElem? (i := 79) rfl)))
set_option maxRecDepth 100000 in
theorem lm_384 : u_lay RX6 TX6 12 ∈ lw_tbl := List.mem_append_right _ (List.mem_append_right _ (List.mem_append_left _ (List.mem_of_getElem? (i := 77) rfl)))
set_option maxRecDepth 100000 in
theorem lm_385 : u_lay RX6 TX6 11 ∈ lw_tbl := List.mem_append_right _ (List.mem_append_right _ (List.mem_append_left _ (List.mem_of_getElem? (i := 75) rfl)))
set_option maxRecDepth 100000 in
theorem lm_386 : u_lay RX6 TX6 10 ∈ lw_tbl := List.mem_append_right _ (List.mem_append_right _ (List.mem_append_left _ (List.mem_of_getElem? (i := 73) rfl)))
set_option maxRecDepth 100000 in
theorem lm_387 : u_lay RX6 TX6 9 ∈ lw_tbl := List.mem_append_right _ (List.mem_append_right _ (List.mem_append_left _ (List.mem_of_getElem? (i := 71) rfl)))
set_option maxRecDepth 100000 in
theorem lm_388 : u_lay RX6 TX6 8 ∈ lw_tbl := List.mem_append_right _ (List.mem_append_right _ (List.mem_append_left _ (List.mem_of_getElem? (i := 69) rfl)))
set_option maxRecDepth 100000 in
theorem lm_389 : u_lay RX6 TX6 7 ∈ lw_tbl := List.mem_append_right _ (List.mem_append_right _ (List.mem_append_left _ (List.mem_of_getElem? (i := 67) rfl)))
set_option maxRecDepth 100000 in
theorem lm_390 : u_lay RX6 TX6 6 ∈ lw_tbl := List.mem_append_right _ (List.mem_append_right _ (List.mem_append_left _ (List.mem_of_getElem? (i := 65) rfl)))
set_option maxRecDepth 100000 in
theorem lm_391 : u_lay RX6 TX6 5 ∈ lw_tbl := List.mem_append_right _ (List.mem_append_right _ (List.mem_append_left _ (List.mem_of_getElem? (i := 63) rfl)))
set_option maxRecDepth 100000 in
theorem lm_392 : u_lay RX6 TX6 4 ∈ lw_tbl := List.mem_append_right _ (List.mem_append_right _ (List.mem_append_left _ (List.mem_of_getElem? (i := 61) rfl)))
set_option maxRecDepth 100000 in
theorem lm_393 : u_lay RX6 TX6 3 ∈ lw_tbl := List.mem_append_right _ (List.mem_append_right _ (List.mem_append_left _ (List.mem_of_getElem? (i := 59) rfl)))
set_option maxRecDepth 100000 in
theorem lm_394 : u_lay RX6 TX6 2 ∈ lw_tbl := List.mem_append_right _ (List.mem_append_right _ (List.mem_append_left _ (List.mem_of_getElem? (i := 57) rfl)))
set_option maxRecDepth 100000 in
theorem lm_395 : u_lay RX6 TX6 1 ∈ lw_tbl := List.mem_append_right _ (List.mem_append_right _ (List.mem_append_left _ (List.mem_of_getElem? (i := 55) rfl)))
set_option maxRecDepth 100000 in
theorem lm_396 : u_lay RX6 TX6 0 ∈ lw_tbl := List.mem_append_right _ (List.mem_append_right _ (List.mem_append_left _ (List.mem_of_getElem? (i := 53) rfl)))
set_option maxRecDepth 100000 in
theorem lm_397 : Cond.code yX3_setOut cX3_setOut 3 none ∈ lw_tbl := List.mem_append_right _ (List.mem_append_right _ (List.mem_append_left _ (List.mem_of_getElem? (i := 217) rfl)))
set_option maxRecDepth 100000 in
theorem lm_398 : Cond.selects RX3 yX3_setOut yX3_setOut ∈ lw_tbl := List.mem_append_left _ (List.mem_of_getElem? (i := 7) rfl)
set_option maxRecDepth 100000 in
theorem lm_399 : Cond.instanceMethod yX3_setOut ∈ lw_tbl := List.mem_append_right _ (List.mem_append_right _ (List.mem_append_left _ (List.mem_of_getElem? (i := 216) rfl)))
set_option maxRecDepth 100000 in
theorem lm_400 : Cond.code yX9_lorryAt cX9_lorryAt 2 (some (.object "BeetHouse$Lorry")) ∈ lw_tbl := List.mem_append_right _ (List.mem_append_right _ (List.mem_append_left _ (List.mem_of_getElem? (i := 213) rfl)))
set_option maxRecDepth 100000 in
theorem lm_401 : Cond.selects RX9 yX9_lorryAt yX9_lorryAt ∈ lw_tbl := List.mem_append_left _ (List.mem_of_getElem? (i := 6) rfl)
set_option maxRecDepth 100000 in
theorem lm_402 : Cond.instanceMethod yX9_lorryAt ∈ lw_tbl := List.mem_append_right _ (List.mem_append_right _ (List.mem_append_left _ (List.mem_of_getElem? (i := 212) rfl)))
set_option maxRecDepth 100000 in
theorem lm_403 : Cond.methodLink RX9 120 yX9_lorryAt ∈ lw_tbl := List.mem_append_right _ (List.mem_append_right _ (List.mem_append_left _ (List.mem_of_getElem? (i := 210) rfl)))
set_option maxRecDepth 100000 in
theorem lm_404 : Cond.code yX9_send cX9_send 5 (some .int) ∈ lw_tbl := List.mem_append_right _ (List.mem_append_right _ (List.mem_append_left _ (List.mem_of_getElem? (i := 209) rfl)))
set_option maxRecDepth 100000 in
theorem lm_405 : Cond.selects RX9 yX9_send yX9_send ∈ lw_tbl := List.mem_append_right _ (List.mem_append_right _ (List.mem_append_left _ (List.mem_of_getElem? (i := 208) rfl)))
set_option maxRecDepth 100000 in
theorem lm_406 : Cond.instanceMethod yX9_send ∈ lw_tbl := List.mem_append_right _ (List.mem_append_right _ (List.mem_append_left _ (List.mem_of_getElem? (i := 207) rfl)))
set_option maxRecDepth 100000 in
theorem lm_407 : Cond.methodLink RL 33 yX9_send ∈ lw_tbl := List.mem_append_right _ (List.mem_append_right _ (List.mem_append_left _ (List.mem_of_getElem? (i := 206) rfl)))
set_option maxRecDepth 100000 in
theorem lm_408 : Cond.fieldLink RX10 138 "BeetHouseModel" "hour" "I" ∈ lw_tbl := List.mem_append_right _ (List.mem_append_right _ (List.mem_append_right _ (List.mem_append_right _ (List.mem_append_left _ (List.mem_of_getElem? (i := 47) rfl)))))
set_option maxRecDepth 100000 in
theorem lm_409 : Cond.code yX10_goes cX10_goes 3 none ∈ lw_tbl := List.mem_append_right _ (List.mem_append_right _ (List.mem_append_right _ (List.mem_append_right _ (List.mem_append_left _ (List.mem_of_getElem? (i := 228) rfl)))))
set_option maxRecDepth 100000 in
theorem lm_410 : Cond.selects RX10 yX10_goes yX10_goes ∈ lw_tbl := List.mem_append_left _ (List.mem_of_getElem? (i := 56) rfl)
set_option maxRecDepth 100000 in
theorem lm_411 : Cond.instanceMethod yX10_goes ∈ lw_tbl := List.mem_append_right _ (List.mem_append_right _ (List.mem_append_right _ (List.mem_append_right _ (List.mem_append_left _ (List.mem_of_getElem? (i := 227) rfl)))))
set_option maxRecDepth 100000 in
theorem lm_412 : Cond.methodLink RX10 144 yX10_goes ∈ lw_tbl := List.mem_append_right _ (List.mem_append_right _ (List.mem_append_right _ (List.mem_append_right _ (List.mem_append_left _ (List.mem_of_getElem? (i := 225) rfl)))))
set_option maxRecDepth 100000 in
theorem lm_413 : Cond.code yX10_isLorry cX10_isLorry 2 (some .boolean) ∈ lw_tbl := List.mem_append_right _ (List.mem_append_right _ (List.mem_append_right _ (List.mem_append_right _ (List.mem_append_left _ (List.mem_of_getElem? (i := 224) rfl)))))
set_option maxRecDepth 100000 in
theorem lm_414 : Cond.selects RX10 yX10_isLorry yX10_isLorry ∈ lw_tbl := List.mem_append_left _ (List.mem_of_getElem? (i := 55) rfl)
set_option maxRecDepth 100000 in
theorem lm_415 : Cond.instanceMethod yX10_isLorry ∈ lw_tbl := List.mem_append_right _ (List.mem_append_right _ (List.mem_append_right _ (List.mem_append_right _ (List.mem_append_left _ (List.mem_of_getElem? (i := 223) rfl)))))
set_option maxRecDepth 100000 in
theorem lm_416 : Cond.methodLink RX10 141 yX10_isLorry ∈ lw_tbl := List.mem_append_right _ (List.mem_append_right _ (List.mem_append_right _ (List.mem_append_right _ (List.mem_append_left _ (List.mem_of_getElem? (i := 221) rfl)))))
set_option maxRecDepth 100000 in
theorem lm_417 : Cond.code yX10_send cX10_send 3 (some .int) ∈ lw_tbl := List.mem_append_right _ (List.mem_append_right _ (List.mem_append_right _ (List.mem_append_right _ (List.mem_append_left _ (List.mem_of_getElem? (i := 220) rfl)))))
set_option maxRecDepth 100000 in
theorem lm_418 : Cond.selects RX10 yX10_send yX10_send ∈ lw_tbl := List.mem_append_right _ (List.mem_append_right _ (List.mem_append_right _ (List.mem_append_right _ (List.mem_append_left _ (List.mem_of_getElem? (i := 219) rfl)))))
set_option maxRecDepth 100000 in
theorem lm_419 : Cond.instanceMethod yX10_send ∈ lw_tbl := List.mem_append_right _ (List.mem_append_right _ (List.mem_append_right _ (List.mem_append_right _ (List.mem_append_left _ (List.mem_of_getElem? (i := 218) rfl)))))
set_option maxRecDepth 100000 in
theorem lm_420 : Cond.methodLink RL 36 yX10_send ∈ lw_tbl := List.mem_append_right _ (List.mem_append_right _ (List.mem_append_right _ (List.mem_append_right _ (List.mem_append_left _ (List.mem_of_getElem? (i := 217) rfl)))))
set_option maxRecDepth 100000 in
theorem lm_421 : Cond.code yX9_sweetestOf cX9_sweetestOf 5 (some (.object "BeetHouse$Plot")) ∈ lw_tbl := List.mem_append_right _ (List.mem_append_right _ (List.mem_append_right _ (List.mem_append_left _ (List.mem_of_getElem? (i := 9) rfl))))
set_option maxRecDepth 100000 in
theorem lm_422 : Cond.selects RX9 yX9_sweetestOf yX9_sweetestOf ∈ lw_tbl := List.mem_append_left _ (List.mem_of_getElem? (i := 14) rfl)
set_option maxRecDepth 100000 in
theorem lm_423 : Cond.instanceMethod yX9_sweetestOf ∈ lw_tbl := List.mem_append_right _ (List.mem_append_right _ (List.mem_append_right _ (List.mem_append_left _ (List.mem_of_getElem? (i := 8) rfl))))
set_option maxRecDepth 100000 in
theorem lm_424 : Cond.methodLink RX9 142 yX9_sweetestOf ∈ lw_tbl := List.mem_append_right _ (List.mem_append_right _ (List.mem_append_right _ (List.mem_append_left _ (List.mem_of_getElem? (i := 6) rfl))))
set_option maxRecDepth 100000 in
theorem lm_425 : Cond.code yX0_claim cX0_claim 2 (some .int) ∈ lw_tbl := List.mem_append_right _ (List.mem_append_right _ (List.mem_append_right _ (List.mem_append_left _ (List.mem_of_getElem? (i := 5) rfl))))
set_option maxRecDepth 100000 in
theorem lm_426 : Cond.selects RX0 yX0_claim yX0_claim ∈ lw_tbl := List.mem_append_left _ (List.mem_of_getElem? (i := 13) rfl)
set_option maxRecDepth 100000 in
theorem lm_427 : Cond.instanceMethod yX0_claim ∈ lw_tbl := List.mem_append_right _ (List.mem_append_right _ (List.mem_append_right _ (List.mem_append_left _ (List.mem_of_getElem? (i := 4) rfl))))
set_option maxRecDepth 100000 in
theorem lm_428 : Cond.methodLink RX0 22 yX0_claim ∈ lw_tbl := List.mem_append_right _ (List.mem_append_right _ (List.mem_append_right _ (List.mem_append_left _ (List.mem_of_getElem? (i := 2) rfl))))
set_option maxRecDepth 100000 in
theorem lm_429 : Cond.code yX0_comesBefore cX0_comesBefore 5 (some .boolean) ∈ lw_tbl := List.mem_append_right _ (List.mem_append_right _ (List.mem_append_right _ (List.mem_append_left _ (List.mem_of_getElem? (i := 1) rfl))))
set_option maxRecDepth 100000 in
theorem lm_430 : Cond.selects RX0 yX0_comesBefore yX0_comesBefore ∈ lw_tbl := List.mem_append_left _ (List.mem_of_getElem? (i := 12) rfl)
set_option maxRecDepth 100000 in
theorem lm_431 : Cond.instanceMethod yX0_comesBefore ∈ lw_tbl := List.mem_append_right _ (List.mem_append_right _ (List.mem_append_right _ (List.mem_append_left _ (List.mem_of_getElem? (i := 0) rfl))))
set_option maxRecDepth 100000 in
theorem lm_432 : Cond.code yX3_isOutTo cX3_isOutTo 2 (some .boolean) ∈ lw_tbl := List.mem_append_right _ (List.mem_append_right _ (List.mem_append_left _ (List.mem_of_getElem? (i := 237) rfl)))
set_option maxRecDepth 100000 in
theorem lm_433 : Cond.selects RX3 yX3_isOutTo yX3_isOutTo ∈ lw_tbl := List.mem_append_left _ (List.mem_of_getElem? (i := 11) rfl)
set_option maxRecDepth 100000 in
theorem lm_434 : Cond.instanceMethod yX3_isOutTo ∈ lw_tbl := List.mem_append_right _ (List.mem_append_right _ (List.mem_append_left _ (List.mem_of_getElem? (i := 236) rfl)))
set_option maxRecDepth 100000 in
theorem lm_435 : Cond.code yX9_hasRootsToSpare cX9_hasRootsToSpare 5 (some .boolean) ∈ lw_tbl := List.mem_append_right _ (List.mem_append_right _ (List.mem_append_left _ (List.mem_of_getElem? (i := 233) rfl)))
set_option maxRecDepth 100000 in
theorem lm_436 : Cond.selects RX9 yX9_hasRootsToSpare yX9_hasRootsToSpare ∈ lw_tbl := List.mem_append_left _ (List.mem_of_getElem? (i := 10) rfl)
set_option maxRecDepth 100000 in
theorem lm_437 : Cond.instanceMethod yX9_hasRootsToSpare ∈ lw_tbl := List.mem_append_right _ (List.mem_append_right _ (List.mem_append_left _ (List.mem_of_getElem? (i := 232) rfl)))
set_option maxRecDepth 100000 in
theorem lm_438 : Cond.methodLink RX9 274 yX9_hasRootsToSpare ∈ lw_tbl := List.mem_append_right _ (List.mem_append_right _ (List.mem_append_left _ (List.mem_of_getElem? (i := 230) rfl)))
set_option maxRecDepth 100000 in
theorem lm_439 : Cond.code yX9_mostOwed cX9_mostOwed 4 (some (.object "BeetHouse$Farmer")) ∈ lw_tbl := List.mem_append_right _ (List.mem_append_right _ (List.mem_append_left _ (List.mem_of_getElem? (i := 229) rfl)))
set_option maxRecDepth 100000 in
theorem lm_440 : Cond.selects RX9 yX9_mostOwed yX9_mostOwed ∈ lw_tbl := List.mem_append_left _ (List.mem_of_getElem? (i := 9) rfl)
set_option maxRecDepth 100000 in
theorem lm_441 : Cond.instanceMethod yX9_mostOwed ∈ lw_tbl := List.mem_append_right _ (List.mem_append_right _ (List.mem_append_left _ (List.mem_of_getElem? (i := 228) rfl)))
set_option maxRecDepth 100000 in
theorem lm_442 : Cond.methodLink RX9 138 yX9_mostOwed ∈ lw_tbl := List.mem_append_right _ (List.mem_append_right _ (List.mem_append_left _ (List.mem_of_getElem? (i := 226) rfl)))
set_option maxRecDepth 100000 in
theorem lm_443 : Cond.code yX9_firstHome cX9_firstHome 2 (some (.object "BeetHouse$Lorry")) ∈ lw_tbl := List.mem_append_right _ (List.mem_append_right _ (List.mem_append_left _ (List.mem_of_getElem? (i := 225) rfl)))
set_option maxRecDepth 100000 in
theorem lm_444 : Cond.selects RX9 yX9_firstHome yX9_firstHome ∈ lw_tbl := List.mem_append_left _ (List.mem_of_getElem? (i := 8) rfl)
set_option maxRecDepth 100000 in
theorem lm_445 : Cond.instanceMethod yX9_firstHome ∈ lw_tbl := List.mem_append_right _ (List.mem_append_right _ (List.mem_append_left _ (List.mem_of_getElem? (i := 224) rfl)))
set_option maxRecDepth 100000 in
theorem lm_446 : Cond.methodLink RX9 134 yX9_firstHome ∈ lw_tbl := List.mem_append_right _ (List.mem_append_right _ (List.mem_append_left _ (List.mem_of_getElem? (i := 222) rfl)))
set_option maxRecDepth 100000 in
theorem lm_447 : Cond.code yX9_turn cX9_turn 3 (some .int) ∈ lw_tbl := List.mem_append_right _ (List.mem_append_right _ (List.mem_append_left _ (List.mem_of_getElem? (i := 221) rfl)))
set_option maxRecDepth 100000 in
theorem lm_448 : Cond.selects RX9 yX9_turn yX9_turn ∈ lw_tbl := List.mem_append_right _ (List.mem_append_right _ (List.mem_append_left _ (List.mem_of_getElem? (i := 220) rfl)))
set_option maxRecDepth 100000 in
theorem lm_449 : Cond.instanceMethod yX9_turn ∈ lw_tbl := List.mem_append_right _ (List.mem_append_right _ (List.mem_append_left _ (List.mem_of_getElem? (i := 219) rfl)))
set_option maxRecDepth 100000 in
theorem lm_450 : Cond.methodLink RL 37 yX9_turn ∈ lw_tbl := List.mem_append_right _ (List.mem_append_right _ (List.mem_append_left _ (List.mem_of_getElem? (i := 218) rfl)))
set_option maxRecDepth 100000 in
theorem lm_451 : Cond.code yX10_owedOf cX10_owedOf 5 (some .int) ∈ lw_tbl := List.mem_append_right _ (List.mem_append_right _ (List.mem_append_right _ (List.mem_append_right _ (List.mem_append_right _ (List.mem_of_getElem? (i := 4) rfl)))))
set_option maxRecDepth 100000 in
theorem lm_452 : Cond.selects RX10 yX10_owedOf yX10_owedOf ∈ lw_tbl := List.mem_append_left _ (List.mem_of_getElem? (i := 59) rfl)
set_option maxRecDepth 100000 in
theorem lm_453 : Cond.instanceMethod yX10_owedOf ∈ lw_tbl := List.mem_append_right _ (List.mem_append_right _ (List.mem_append_right _ (List.mem_append_right _ (List.mem_append_right _ (List.mem_of_getElem? (i := 3) rfl)))))
set_option maxRecDepth 100000 in
theorem lm_454 : Cond.methodLink RX10 151 yX10_owedOf ∈ lw_tbl := List.mem_append_right _ (List.mem_append_right _ (List.mem_append_right _ (List.mem_append_right _ (List.mem_append_right _ (List.mem_of_getElem? (i := 1) rfl)))))
set_option maxRecDepth 100000 in
theorem lm_455 : Cond.code yX10_isLeft cX10_isLeft 4 (some .boolean) ∈ lw_tbl := List.mem_append_right _ (List.mem_append_right _ (List.mem_append_right _ (List.mem_append_right _ (List.mem_append_right _ (List.mem_of_getElem? (i := 0) rfl)))))
set_option maxRecDepth 100000 in
theorem lm_456 : Cond.selects RX10 yX10_isLeft yX10_isLeft ∈ lw_tbl := List.mem_append_left _ (List.mem_of_getElem? (i := 58) rfl)
set_option maxRecDepth 100000 in
theorem lm_457 : Cond.instanceMethod yX10_isLeft ∈ lw_tbl := List.mem_append_right _ (List.mem_append_right _ (List.mem_append_right _ (List.mem_append_right _ (List.mem_append_left _ (List.mem_of_getElem? (i := 239) rfl)))))
set_option maxRecDepth 100000 in
theorem lm_458 : Cond.methodLink RX10 148 yX10_isLeft ∈ lw_tbl := List.mem_append_right _ (List.mem_append_right _ (List.mem_append_right _ (List.mem_append_right _ (List.mem_append_left _ (List.mem_of_getElem? (i := 237) rfl)))))
set_option maxRecDepth 100000 in
theorem lm_459 : Cond.code yX10_nextOf cX10_nextOf 5 (some .int) ∈ lw_tbl := List.mem_append_right _ (List.mem_append_right _ (List.mem_append_right _ (List.mem_append_right _ (List.mem_append_left _ (List.mem_of_getElem? (i := 236) rfl)))))
set_option maxRecDepth 100000 in
theorem lm_460 : Cond.selects RX10 yX10_nextOf yX10_nextOf ∈ lw_tbl := List.mem_append_left _ (List.mem_of_getElem? (i := 57) rfl)
set_option maxRecDepth 100000 in
theorem lm_461 : Cond.instanceMethod yX10_nextOf ∈ lw_tbl := List.mem_append_right _ (List.mem_append_right _ (List.mem_append_right _ (List.mem_append_right _ (List.mem_append_left _ (List.mem_of_getElem? (i := 235) rfl)))))
set_option maxRecDepth 100000 in
theorem lm_462 : Cond.methodLink RX10 154 yX10_nextOf ∈ lw_tbl := List.mem_append_right _ (List.mem_append_right _ (List.mem_append_right _ (List.mem_append_right _ (List.mem_append_left _ (List.mem_of_getElem? (i := 233) rfl)))))
set_option maxRecDepth 100000 in
theorem lm_463 : Cond.code yX10_turn cX10_turn 5 (some .int) ∈ lw_tbl := List.mem_append_right _ (List.mem_append_right _ (List.mem_append_right _ (List.mem_append_right _ (List.mem_append_left _ (List.mem_of_getElem? (i := 232) rfl)))))
set_option maxRecDepth 100000 in
theorem lm_464 : Cond.selects RX10 yX10_turn yX10_turn ∈ lw_tbl := List.mem_append_right _ (List.mem_append_right _ (List.mem_append_right _ (List.mem_append_right _ (List.mem_append_left _ (List.mem_of_getElem? (i := 231) rfl)))))
set_option maxRecDepth 100000 in
theorem lm_465 : Cond.instanceMethod yX10_turn ∈ lw_tbl := List.mem_append_right _ (List.mem_append_right _ (List.mem_append_right _ (List.mem_append_right _ (List.mem_append_left _ (List.mem_of_getElem? (i := 230) rfl)))))
set_option maxRecDepth 100000 in
theorem lm_466 : Cond.methodLink RL 41 yX10_turn ∈ lw_tbl := List.mem_append_right _ (List.mem_append_right _ (List.mem_append_right _ (List.mem_append_right _ (List.mem_append_left _ (List.mem_of_getElem? (i := 229) rfl)))))
set_option maxRecDepth 100000 in
theorem lm_467 : Cond.code yX9_works cX9_works 5 (some .int) ∈ lw_tbl := List.mem_append_right _ (List.mem_append_right _ (List.mem_append_right _ (List.mem_append_left _ (List.mem_of_getElem? (i := 13) rfl))))
set_option maxRecDepth 100000 in
theorem lm_468 : Cond.selects RX9 yX9_works yX9_works ∈ lw_tbl := List.mem_append_right _ (List.mem_append_right _ (List.mem_append_right _ (List.mem_append_left _ (List.mem_of_getElem? (i := 12) rfl))))
set_option maxRecDepth 100000 in
theorem lm_469 : Cond.instanceMethod yX9_works ∈ lw_tbl := List.mem_append_right _ (List.mem_append_right _ (List.mem_append_right _ (List.mem_append_left _ (List.mem_of_getElem? (i := 11) rfl))))
set_option maxRecDepth 100000 in
theorem lm_470 : Cond.methodLink RL 42 yX9_works ∈ lw_tbl := List.mem_append_right _ (List.mem_append_right _ (List.mem_append_right _ (List.mem_append_left _ (List.mem_of_getElem? (i := 10) rfl))))
set_option maxRecDepth 100000 in
theorem lm_471 : Cond.fieldLink RX10 158 "BeetHouseModel" "rate" "I" ∈ lw_tbl := List.mem_append_right _ (List.mem_append_right _ (List.mem_append_right _ (List.mem_append_right _ (List.mem_append_left _ (List.mem_of_getElem? (i := 51) rfl)))))
set_option maxRecDepth 100000 in
theorem lm_472 : Cond.code yX10_works cX10_works 4 (some .int) ∈ lw_tbl := List.mem_append_right _ (List.mem_append_right _ (List.mem_append_right _ (List.mem_append_right _ (List.mem_append_right _ (List.mem_of_getElem? (i := 8) rfl)))))
set_option maxRecDepth 100000 in
theorem lm_473 : Cond.selects RX10 yX10_works yX10_works ∈ lw_tbl := List.mem_append_right _ (List.mem_append_right _ (List.mem_append_right _ (List.mem_append_right _ (List.mem_append_right _ (List.mem_of_getElem? (i := 7) rfl)))))
set_option maxRecDepth 100000 in
theorem lm_474 : Cond.instanceMethod yX10_works ∈ lw_tbl := List.mem_append_right _ (List.mem_append_right _ (List.mem_append_right _ (List.mem_append_right _ (List.mem_append_right _ (List.mem_of_getElem? (i := 6) rfl)))))
set_option maxRecDepth 100000 in
theorem lm_475 : Cond.methodLink RL 45 yX10_works ∈ lw_tbl := List.mem_append_right _ (List.mem_append_right _ (List.mem_append_right _ (List.mem_append_right _ (List.mem_append_right _ (List.mem_of_getElem? (i := 5) rfl)))))
set_option maxRecDepth 100000 in
theorem lm_476 : Cond.code yX9_put cX9_put 8 (some .int) ∈ lw_tbl := List.mem_append_right _ (List.mem_append_right _ (List.mem_append_right _ (List.mem_append_left _ (List.mem_of_getElem? (i := 21) rfl))))
set_option maxRecDepth 100000 in
theorem lm_477 : Cond.selects RX9 yX9_put yX9_put ∈ lw_tbl := List.mem_append_left _ (List.mem_of_getElem? (i := 15) rfl)
set_option maxRecDepth 100000 in
theorem lm_478 : Cond.instanceMethod yX9_put ∈ lw_tbl := List.mem_append_right _ (List.mem_append_right _ (List.mem_append_right _ (List.mem_append_left _ (List.mem_of_getElem? (i := 20) rfl))))
set_option maxRecDepth 100000 in
theorem lm_479 : Cond.methodLink RX9 156 yX9_put ∈ lw_tbl := List.mem_append_right _ (List.mem_append_right _ (List.mem_append_right _ (List.mem_append_left _ (List.mem_of_getElem? (i := 18) rfl))))
set_option maxRecDepth 100000 in
theorem lm_480 : Cond.code yX9_table cX9_table 3 (some .int) ∈ lw_tbl := List.mem_append_right _ (List.mem_append_right _ (List.mem_append_right _ (List.mem_append_left _ (List.mem_of_getElem? (i := 17) rfl))))
set_option maxRecDepth 100000 in
theorem lm_481 : Cond.selects RX9 yX9_table yX9_table ∈ lw_tbl := List.mem_append_right _ (List.mem_append_right _ (List.mem_append_right _ (List.mem_append_left _ (List.mem_of_getElem? (i := 16) rfl))))
set_option maxRecDepth 100000 in
theorem lm_482 : Cond.instanceMethod yX9_table ∈ lw_tbl := List.mem_append_right _ (List.mem_append_right _ (List.mem_append_right _ (List.mem_append_left _ (List.mem_of_getElem? (i := 15) rfl))))
set_option maxRecDepth 100000 in
theorem lm_483 : Cond.methodLink RL 46 yX9_table ∈ lw_tbl := List.mem_append_right _ (List.mem_append_right _ (List.mem_append_right _ (List.mem_append_left _ (List.mem_of_getElem? (i := 14) rfl))))
set_option maxRecDepth 100000 in
theorem lm_484 : Cond.code yX10_table cX10_table 4 (some .int) ∈ lw_tbl := List.mem_append_right _ (List.mem_append_right _ (List.mem_append_right _ (List.mem_append_right _ (List.mem_append_right _ (List.mem_of_getElem? (i := 12) rfl)))))
set_option maxRecDepth 100000 in
theorem lm_485 : Cond.selects RX10 yX10_table yX10_table ∈ lw_tbl := List.mem_append_right _ (List.mem_append_right _ (List.mem_append_right _ (List.mem_append_right _ (List.mem_append_right _ (List.mem_of_getElem? (i := 11) rfl)))))
set_option maxRecDepth 100000 in
theorem lm_486 : Cond.instanceMethod yX10_table ∈ lw_tbl := List.mem_append_right _ (List.mem_append_right _ (List.mem_append_right _ (List.mem_append_right _ (List.mem_append_right _ (List.mem_of_getElem? (i := 10) rfl)))))
set_option maxRecDepth 100000 in
theorem lm_487 : Cond.methodLink RL 49 yX10_table ∈ lw_tbl := List.mem_append_right _ (List.mem_append_right _ (List.mem_append_right _ (List.mem_append_right _ (List.mem_append_right _ (List.mem_of_getElem? (i := 9) rfl)))))
set_option maxRecDepth 100000 in
theorem lm_488 : Cond.code yX9_warmth cX9_warmth 3 (some .int) ∈ lw_tbl := List.mem_append_right _ (List.mem_append_right _ (List.mem_append_right _ (List.mem_append_left _ (List.mem_of_getElem? (i := 25) rfl))))
set_option maxRecDepth 100000 in
theorem lm_489 : Cond.selects RX9 yX9_warmth yX9_warmth ∈ lw_tbl := List.mem_append_right _ (List.mem_append_right _ (List.mem_append_right _ (List.mem_append_left _ (List.mem_of_getElem? (i := 24) rfl))))
set_option maxRecDepth 100000 in
theorem lm_490 : Cond.instanceMethod yX9_warmth ∈ lw_tbl := List.mem_append_right _ (List.mem_append_right _ (List.mem_append_right _ (List.mem_append_left _ (List.mem_of_getElem? (i := 23) rfl))))
set_option maxRecDepth 100000 in
theorem lm_491 : Cond.methodLink RL 50 yX9_warmth ∈ lw_tbl := List.mem_append_right _ (List.mem_append_right _ (List.mem_append_right _ (List.mem_append_left _ (List.mem_of_getElem? (i := 22) rfl))))
set_option maxRecDepth 100000 in
theorem lm_492 : Cond.code yX10_warmth cX10_warmth 4 (some .int) ∈ lw_tbl := List.mem_append_right _ (List.mem_append_right _ (List.mem_append_right _ (List.mem_append_right _ (List.mem_append_right _ (List.mem_of_getElem? (i := 16) rfl)))))
set_option maxRecDepth 100000 in
theorem lm_493 : Cond.selects RX10 yX10_warmth yX10_warmth ∈ lw_tbl := List.mem_append_right _ (List.mem_append_right _ (List.mem_append_right _ (List.mem_append_right _ (List.mem_append_right _ (List.mem_of_getElem? (i := 15) rfl)))))
set_option maxRecDepth 100000 in
theorem lm_494 : Cond.instanceMethod yX10_warmth ∈ lw_tbl := List.mem_append_right _ (List.mem_append_right _ (List.mem_append_right _ (List.mem_append_right _ (List.mem_append_right _ (List.mem_of_getElem? (i := 14) rfl)))))
set_option maxRecDepth 100000 in
theorem lm_495 : Cond.methodLink RL 53 yX10_warmth ∈ lw_tbl := List.mem_append_right _ (List.mem_append_right _ (List.mem_append_right _ (List.mem_append_right _ (List.mem_append_right _ (List.mem_of_getElem? (i := 13) rfl)))))
set_option maxRecDepth 100000 in
theorem lm_496 : Cond.code yX9_price cX9_price 3 (some .int) ∈ lw_tbl := List.mem_append_right _ (List.mem_append_right _ (List.mem_append_right _ (List.mem_append_left _ (List.mem_of_getElem? (i := 29) rfl))))
set_option maxRecDepth 100000 in
theorem lm_497 : Cond.selects RX9 yX9_price yX9_price ∈ lw_tbl := List.mem_append_right _ (List.mem_append_right _ (List.mem_append_right _ (List.mem_append_left _ (List.mem_of_getElem? (i := 28) rfl))))
set_option maxRecDepth 100000 in
theorem lm_498 : Cond.instanceMethod yX9_price ∈ lw_tbl := List.mem_append_right _ (List.mem_append_right _ (List.mem_append_right _ (List.mem_append_left _ (List.mem_of_getElem? (i := 27) rfl))))
set_option maxRecDepth 100000 in
theorem lm_499 : Cond.methodLink RL 54 yX9_price ∈ lw_tbl := List.mem_append_right _ (List.mem_append_right _ (List.mem_append_right _ (List.mem_append_left _ (List.mem_of_getElem? (i := 26) rfl))))
set_option maxRecDepth 100000 in
theorem lm_500 : Cond.code yX10_price cX10_price 4 (some .int) ∈ lw_tbl := List.mem_append_right _ (List.mem_append_right _ (List.mem_append_right _ (List.mem_append_right _ (List.mem_append_right _ (List.mem_of_getElem? (i := 20) rfl)))))
set_option maxRecDepth 100000 in
theorem lm_501 : Cond.selects RX10 yX10_price yX10_price ∈ lw_tbl := List.mem_append_right _ (List.mem_append_right _ (List.mem_append_right _ (List.mem_append_right _ (List.mem_append_right _ (List.mem_of_getElem? (i := 19) rfl)))))
set_option maxRecDepth 100000 in
theorem lm_502 : Cond.instanceMethod yX10_price ∈ lw_tbl := List.mem_append_right _ (List.mem_append_right _ (List.mem_append_right _ (List.mem_append_right _ (List.mem_append_right _ (List.mem_of_getElem? (i := 18) rfl)))))
set_option maxRecDepth 100000 in
theorem lm_503 : Cond.methodLink RL 57 yX10_price ∈ lw_tbl := List.mem_append_right _ (List.mem_append_right _ (List.mem_append_right _ (List.mem_append_right _ (List.mem_append_right _ (List.mem_of_getElem? (i := 17) rfl)))))
set_option maxRecDepth 100000 in
theorem lm_504 : u_lay RX2 TX2 2 ∈ lw_tbl := List.mem_append_right _ (List.mem_append_right _ (List.mem_append_right _ (List.mem_append_left _ (List.mem_of_getElem? (i := 117) rfl))))
set_option maxRecDepth 100000 in
theorem lm_505 : u_lay RX2 TX2 1 ∈ lw_tbl := List.mem_append_right _ (List.mem_append_right _ (List.mem_append_right _ (List.mem_append_left _ (List.mem_of_getElem? (i := 115) rfl))))
set_option maxRecDepth 100000 in
theorem lm_506 : u_lay RX2 TX2 0 ∈ lw_tbl := List.mem_append_right _ (List.mem_append_right _ (List.mem_append_right _ (List.mem_append_left _ (List.mem_of_getElem? (i := 113) rfl))))
set_option maxRecDepth 100000 in
theorem lm_507 : Cond.methodLink RX6 67 yX6_lose ∈ lw_tbl := List.mem_append_right _ (List.mem_append_right _ (List.mem_append_right _ (List.mem_append_left _ (List.mem_of_getElem? (i := 183) rfl))))
set_option maxRecDepth 100000 in
theorem lm_508 : Cond.fieldLink RX6 31 "BeetHouse$Plot" "spoiled" "I" ∈ lw_tbl := List.mem_append_right _ (List.mem_append_right _ (List.mem_append_left _ (List.mem_of_getElem? (i := 48) rfl)))
set_option maxRecDepth 100000 in
theorem lm_509 : Cond.code yX6_spoil cX6_spoil 2 none ∈ lw_tbl := List.mem_append_right _ (List.mem_append_right _ (List.mem_append_right _ (List.mem_append_left _ (List.mem_of_getElem? (i := 182) rfl))))
set_option maxRecDepth 100000 in
theorem lm_510 : Cond.selects RX6 yX6_spoil yX6_spoil ∈ lw_tbl := List.mem_append_left _ (List.mem_of_getElem? (i := 40) rfl)
set_option maxRecDepth 100000 in
theorem lm_511 : Cond.instanceMethod yX6_spoil ∈ lw_tbl := List.mem_append_right _ (List.mem_append_right _ (List.mem_append_right _ (List.mem_append_left _ (List.mem_of_getElem? (i := 181) rfl))))
set_option maxRecDepth 100000 in
theorem lm_512 : Cond.constantLong RX6 62 (1000) ∈ lw_tbl := List.mem_append_right _ (List.mem_append_right _ (List.mem_append_right _ (List.mem_append_left _ (List.mem_of_getElem? (i := 178) rfl))))
set_option maxRecDepth 100000 in
theorem lm_513 : Cond.fieldLink RX6 18 "BeetHouse$Plot" "covered" "Z" ∈ lw_tbl := List.mem_append_right _ (List.mem_append_right _ (List.mem_append_left _ (List.mem_of_getElem? (i := 40) rfl)))
set_option maxRecDepth 100000 in
theorem lm_514 : Cond.fieldLink RX6 22 "BeetHouse$Plot" "frozen" "Z" ∈ lw_tbl := List.mem_append_right _ (List.mem_append_right _ (List.mem_append_left _ (List.mem_of_getElem? (i := 42) rfl)))
set_option maxRecDepth 100000 in
theorem lm_515 : Cond.code yX6_wasteOf cX6_wasteOf 4 (some .int) ∈ lw_tbl := List.mem_append_right _ (List.mem_append_right _ (List.mem_append_right _ (List.mem_append_left _ (List.mem_of_getElem? (i := 177) rfl))))
set_option maxRecDepth 100000 in
theorem lm_516 : Cond.selects RX6 yX6_wasteOf yX6_wasteOf ∈ lw_tbl := List.mem_append_left _ (List.mem_of_getElem? (i := 39) rfl)
set_option maxRecDepth 100000 in
theorem lm_517 : Cond.instanceMethod yX6_wasteOf ∈ lw_tbl := List.mem_append_right _ (List.mem_append_right _ (List.mem_append_right _ (List.mem_append_left _ (List.mem_of_getElem? (i := 176) rfl))))
set_option maxRecDepth 100000 in
theorem lm_518 : Cond.methodLink RX6 64 yX6_wasteOf ∈ lw_tbl := List.mem_append_right _ (List.mem_append_right _ (List.mem_append_right _ (List.mem_append_left _ (List.mem_of_getElem? (i := 174) rfl))))
set_option maxRecDepth 100000 in
theorem lm_519 : Cond.fieldLink RX6 28 "BeetHouse$Plot" "wasted" "I" ∈ lw_tbl := List.mem_append_right _ (List.mem_append_right _ (List.mem_append_left _ (List.mem_of_getElem? (i := 46) rfl)))
set_option maxRecDepth 100000 in
theorem lm_520 : Cond.code yX6_waste cX6_waste 3 none ∈ lw_tbl := List.mem_append_right _ (List.mem_append_right _ (List.mem_append_right _ (List.mem_append_left _ (List.mem_of_getElem? (i := 173) rfl))))
set_option maxRecDepth 100000 in
theorem lm_521 : Cond.selects RX6 yX6_waste yX6_waste ∈ lw_tbl := List.mem_append_left _ (List.mem_of_getElem? (i := 38) rfl)
set_option maxRecDepth 100000 in
theorem lm_522 : Cond.instanceMethod yX6_waste ∈ lw_tbl := List.mem_append_right _ (List.mem_append_right _ (List.mem_append_right _ (List.mem_append_left _ (List.mem_of_getElem? (i := 172) rfl))))
set_option maxRecDepth 100000 in
theorem lm_523 : Cond.code yX7_numberOf cX7_numberOf 3 (some .int) ∈ lw_tbl := List.mem_append_right _ (List.mem_append_right _ (List.mem_append_right _ (List.mem_append_left _ (List.mem_of_getElem? (i := 169) rfl))))
set_option maxRecDepth 100000 in
theorem lm_524 : Cond.selects RX7 yX7_numberOf yX7_numberOf ∈ lw_tbl := List.mem_append_left _ (List.mem_of_getElem? (i := 37) rfl)
set_option maxRecDepth 100000 in
theorem lm_525 : Cond.instanceMethod yX7_numberOf ∈ lw_tbl := List.mem_append_right _ (List.mem_append_right _ (List.mem_append_right _ (List.mem_append_left _ (List.mem_of_getElem? (i := 168) rfl))))
set_option maxRecDepth 100000 in
theorem lm_526 : Cond.code yX9_wasteHeaps cX9_wasteHeaps 3 none ∈ lw_tbl := List.mem_append_right _ (List.mem_append_right _ (List.mem_append_right _ (List.mem_append_left _ (List.mem_of_getElem? (i := 165) rfl))))
set_option maxRecDepth 100000 in
theorem lm_527 : Cond.selects RX9 yX9_wasteHeaps yX9_wasteHeaps ∈ lw_tbl := List.mem_append_left _ (List.mem_of_getElem? (i := 36) rfl)
set_option maxRecDepth 100000 in
theorem lm_528 : Cond.instanceMethod yX9_wasteHeaps ∈ lw_tbl := List.mem_append_right _ (List.mem_append_right _ (List.mem_append_right _ (List.mem_append_left _ (List.mem_of_getElem? (i := 164) rfl))))
set_option maxRecDepth 100000 in
theorem lm_529 : Cond.methodLink RX9 294 yX9_wasteHeaps ∈ lw_tbl := List.mem_append_right _ (List.mem_append_right _ (List.mem_append_right _ (List.mem_append_left _ (List.mem_of_getElem? (i := 162) rfl))))
set_option maxRecDepth 100000 in
theorem lm_530 : Cond.methodLink RJx4a65c 112 arraycopyName ∈ lw_tbl := List.mem_append_right _ (List.mem_append_right _ (List.mem_append_right _ (List.mem_append_left _ (List.mem_of_getElem? (i := 161) rfl))))
set_option maxRecDepth 100000 in
theorem lm_531 : Cond.code yJx4a65c_fastRemove_b59b0 cJx4a65c_fastRemove_b59b0 4 none ∈ lw_tbl := List.mem_append_right _ (List.mem_append_right _ (List.mem_append_right _ (List.mem_append_left _ (List.mem_of_getElem? (i := 160) rfl))))
set_option maxRecDepth 100000 in
theorem lm_532 : Cond.selects RJx4a65c yJx4a65c_fastRemove_b59b0 yJx4a65c_fastRemove_b59b0 ∈ lw_tbl := List.mem_append_left _ (List.mem_of_getElem? (i := 35) rfl)
set_option maxRecDepth 100000 in
theorem lm_533 : Cond.instanceMethod yJx4a65c_fastRemove_b59b0 ∈ lw_tbl := List.mem_append_right _ (List.mem_append_right _ (List.mem_append_right _ (List.mem_append_left _ (List.mem_of_getElem? (i := 159) rfl))))
set_option maxRecDepth 100000 in
theorem lm_534 : Cond.methodLink RJx4a65c 144 yJx4a65c_fastRemove_b59b0 ∈ lw_tbl := List.mem_append_right _ (List.mem_append_right _ (List.mem_append_right _ (List.mem_append_left _ (List.mem_of_getElem? (i := 157) rfl))))
set_option maxRecDepth 100000 in
theorem lm_535 : Cond.code yJx4a65c_remove_915e3 cJx4a65c_remove_915e3 4 (some (.object "java/lang/Object")) ∈ lw_tbl := List.mem_append_right _ (List.mem_append_right _ (List.mem_append_right _ (List.mem_append_left _ (List.mem_of_getElem? (i := 156) rfl))))
set_option maxRecDepth 100000 in
theorem lm_536 : Cond.selects RJx4a65c yJx4a65c_remove_915e3 yJx4a65c_remove_915e3 ∈ lw_tbl := List.mem_append_right _ (List.mem_append_right _ (List.mem_append_right _ (List.mem_append_left _ (List.mem_of_getElem? (i := 155) rfl))))
set_option maxRecDepth 100000 in
theorem lm_537 : Cond.instanceMethod yJx4a65c_remove_915e3 ∈ lw_tbl := List.mem_append_right _ (List.mem_append_right _ (List.mem_append_right _ (List.mem_append_left _ (List.mem_of_getElem? (i := 154) rfl))))
set_option maxRecDepth 100000 in
theorem lm_538 : Cond.methodLink RX4 69 yJx4a65c_remove_915e3 ∈ lw_tbl := List.mem_append_right _ (List.mem_append_right _ (List.mem_append_right _ (List.mem_append_left _ (List.mem_of_getElem? (i := 153) rfl))))
set_option maxRecDepth 100000 in
theorem lm_539 : Cond.code yX6_unitsFor cX6_unitsFor 2 (some .int) ∈ lw_tbl := List.mem_append_right _ (List.mem_append_right _ (List.mem_append_right _ (List.mem_append_left _ (List.mem_of_getElem? (i := 152) rfl))))
set_option maxRecDepth 100000 in
theorem lm_540 : Cond.selects RX6 yX6_unitsFor yX6_unitsFor ∈ lw_tbl := List.mem_append_left _ (List.mem_of_getElem? (i := 34) rfl)
set_option maxRecDepth 100000 in
theorem lm_541 : Cond.instanceMethod yX6_unitsFor ∈ lw_tbl := List.mem_append_right _ (List.mem_append_right _ (List.mem_append_right _ (List.mem_append_left _ (List.mem_of_getElem? (i := 151) rfl))))
set_option maxRecDepth 100000 in
theorem lm_542 : Cond.code yX6_rootsFor cX6_rootsFor 2 (some .int) ∈ lw_tbl := List.mem_append_right _ (List.mem_append_right _ (List.mem_append_right _ (List.mem_append_left _ (List.mem_of_getElem? (i := 147) rfl))))
set_option maxRecDepth 100000 in
theorem lm_543 : Cond.selects RX6 yX6_rootsFor yX6_rootsFor ∈ lw_tbl := List.mem_append_left _ (List.mem_of_getElem? (i := 33) rfl)
set_option maxRecDepth 100000 in
theorem lm_544 : Cond.instanceMethod yX6_rootsFor ∈ lw_tbl := List.mem_append_right _ (List.mem_append_right _ (List.mem_append_right _ (List.mem_append_left _ (List.mem_of_getElem? (i := 146) rfl))))
set_option maxRecDepth 100000 in
theorem lm_545 : Cond.methodLink RX4 37 yJx4a65c_get_915e3 ∈ lw_tbl := List.mem_append_right _ (List.mem_append_right _ (List.mem_append_right _ (List.mem_append_left _ (List.mem_of_getElem? (i := 142) rfl))))
set_option maxRecDepth 100000 in
theorem lm_546 : Cond.code yJx4a65c_isEmpty_aae02 cJx4a65c_isEmpty_aae02 1 (some .boolean) ∈ lw_tbl := List.mem_append_right _ (List.mem_append_right _ (List.mem_append_right _ (List.mem_append_left _ (List.mem_of_getElem? (i := 141) rfl))))
set_option maxRecDepth 100000 in
theorem lm_547 : Cond.selects RJx4a65c yJx4a65c_isEmpty_aae02 yJx4a65c_isEmpty_aae02 ∈ lw_tbl := List.mem_append_right _ (List.mem_append_right _ (List.mem_append_right _ (List.mem_append_left _ (List.mem_of_getElem? (i := 140) rfl))))
set_option maxRecDepth 100000 in
theorem lm_548 : Cond.instanceMethod yJx4a65c_isEmpty_aae02 ∈ lw_tbl := List.mem_append_right _ (List.mem_append_right _ (List.mem_append_right _ (List.mem_append_left _ (List.mem_of_getElem? (i := 139) rfl))))
set_option maxRecDepth 100000 in
theorem lm_549 : Cond.methodLink RX4 31 yJx4a65c_isEmpty_aae02 ∈ lw_tbl := List.mem_append_right _ (List.mem_append_right _ (List.mem_append_right _ (List.mem_append_left _ (List.mem_of_getElem? (i := 138) rfl))))
set_option maxRecDepth 100000 in
theorem lm_550 : Cond.methodLink RX4 56 Lib.Math.min.name ∈ lw_tbl := List.mem_append_right _ (List.mem_append_right _ (List.mem_append_right _ (List.mem_append_left _ (List.mem_of_getElem? (i := 148) rfl))))
set_option maxRecDepth 100000 in
theorem lm_551 : Cond.classLink RX4 41 "BeetHouse$Load" ∈ lw_tbl := List.mem_append_right _ (List.mem_append_right _ (List.mem_append_right _ (List.mem_append_left _ (List.mem_of_getElem? (i := 143) rfl))))
set_option maxRecDepth 100000 in
theorem lm_552 : Cond.code yX4_grind cX4_grind 6 none ∈ lw_tbl := List.mem_append_right _ (List.mem_append_right _ (List.mem_append_right _ (List.mem_append_left _ (List.mem_of_getElem? (i := 137) rfl))))
set_option maxRecDepth 100000 in
theorem lm_553 : Cond.selects RX4 yX4_grind yX4_grind ∈ lw_tbl := List.mem_append_left _ (List.mem_of_getElem? (i := 32) rfl)
set_option maxRecDepth 100000 in
theorem lm_554 : Cond.instanceMethod yX4_grind ∈ lw_tbl := List.mem_append_right _ (List.mem_append_right _ (List.mem_append_right _ (List.mem_append_left _ (List.mem_of_getElem? (i := 136) rfl))))
set_option maxRecDepth 100000 in
theorem lm_555 : Cond.code yX3_comeHome cX3_comeHome 1 none ∈ lw_tbl := List.mem_append_right _ (List.mem_append_right _ (List.mem_append_right _ (List.mem_append_left _ (List.mem_of_getElem? (i := 133) rfl))))
set_option maxRecDepth 100000 in
theorem lm_556 : Cond.selects RX3 yX3_comeHome yX3_comeHome ∈ lw_tbl := List.mem_append_left _ (List.mem_of_getElem? (i := 31) rfl)
set_option maxRecDepth 100000 in
theorem lm_557 : Cond.instanceMethod yX3_comeHome ∈ lw_tbl := List.mem_append_right _ (List.mem_append_right _ (List.mem_append_right _ (List.mem_append_left _ (List.mem_of_getElem? (i := 132) rfl))))
set_option maxRecDepth 100000 in
theorem lm_558 : Cond.methodLink RX9 323 Lib.Math.min.name ∈ lw_tbl := List.mem_append_right _ (List.mem_append_right _ (List.mem_append_right _ (List.mem_append_left _ (List.mem_of_getElem? (i := 129) rfl))))
set_option maxRecDepth 100000 in
theorem lm_559 : Cond.code yX9_pay cX9_pay 3 none ∈ lw_tbl := List.mem_append_right _ (List.mem_append_right _ (List.mem_append_right _ (List.mem_append_left _ (List.mem_of_getElem? (i := 128) rfl))))
set_option maxRecDepth 100000 in
theorem lm_560 : Cond.selects RX9 yX9_pay yX9_pay ∈ lw_tbl := List.mem_append_left _ (List.mem_of_getElem? (i := 30) rfl)
set_option maxRecDepth 100000 in
theorem lm_561 : Cond.instanceMethod yX9_pay ∈ lw_tbl := List.mem_append_right _ (List.mem_append_right _ (List.mem_append_right _ (List.mem_append_left _ (List.mem_of_getElem? (i := 127) rfl))))
set_option maxRecDepth 100000 in
theorem lm_562 : Cond.methodLink RX9 317 yX9_pay ∈ lw_tbl := List.mem_append_right _ (List.mem_append_right _ (List.mem_append_right _ (List.mem_append_left _ (List.mem_of_getElem? (i := 125) rfl))))
set_option maxRecDepth 100000 in
theorem lm_563 : Cond.methodLink RX8 26 yJx4a65c_add_9ea2d ∈ lw_tbl := List.mem_append_right _ (List.mem_append_right _ (List.mem_append_right _ (List.mem_append_left _ (List.mem_of_getElem? (i := 124) rfl))))
set_option maxRecDepth 100000 in
theorem lm_564 : Cond.code yX8_take cX8_take 2 none ∈ lw_tbl := List.mem_append_right _ (List.mem_append_right _ (List.mem_append_right _ (List.mem_append_left _ (List.mem_of_getElem? (i := 123) rfl))))
set_option maxRecDepth 100000 in
theorem lm_565 : Cond.selects RX8 yX8_take yX8_take ∈ lw_tbl := List.mem_append_left _ (List.mem_of_getElem? (i := 29) rfl)
set_option maxRecDepth 100000 in
theorem lm_566 : Cond.instanceMethod yX8_take ∈ lw_tbl := List.mem_append_right _ (List.mem_append_right _ (List.mem_append_right _ (List.mem_append_left _ (List.mem_of_getElem? (i := 122) rfl))))
set_option maxRecDepth 100000 in
theorem lm_567 : Cond.fieldLink RX2 17 "BeetHouse$Load" "sugar" "I" ∈ lw_tbl := List.mem_append_right _ (List.mem_append_right _ (List.mem_append_right _ (List.mem_append_left _ (List.mem_of_getElem? (i := 110) rfl))))
set_option maxRecDepth 100000 in
theorem lm_568 : Cond.fieldLink RX2 13 "BeetHouse$Load" "roots" "I" ∈ lw_tbl := List.mem_append_right _ (List.mem_append_right _ (List.mem_append_right _ (List.mem_append_left _ (List.mem_of_getElem? (i := 106) rfl))))
set_option maxRecDepth 100000 in
theorem lm_569 : Cond.fieldLink RX2 7 "BeetHouse$Load" "plot" "LBeetHouse$Plot;" ∈ lw_tbl := List.mem_append_right _ (List.mem_append_right _ (List.mem_append_right _ (List.mem_append_left _ (List.mem_of_getElem? (i := 102) rfl))))
set_option maxRecDepth 100000 in
theorem lm_570 : Cond.methodLink RX2 1 objectInit ∈ lw_tbl := List.mem_append_right _ (List.mem_append_right _ (List.mem_append_right _ (List.mem_append_left _ (List.mem_of_getElem? (i := 101) rfl))))
set_option maxRecDepth 100000 in
theorem lm_571 : Cond.code yX2_init cX2_init 4 none ∈ lw_tbl := List.mem_append_right _ (List.mem_append_right _ (List.mem_append_right _ (List.mem_append_left _ (List.mem_of_getElem? (i := 100) rfl))))
set_option maxRecDepth 100000 in
theorem lm_572 : Cond.instanceMethod yX2_init ∈ lw_tbl := List.mem_append_right _ (List.mem_append_right _ (List.mem_append_right _ (List.mem_append_left _ (List.mem_of_getElem? (i := 99) rfl))))
set_option maxRecDepth 100000 in
theorem lm_573 : Cond.initialized RX2 ∈ lw_tbl := List.mem_append_right _ (List.mem_append_left _ (List.mem_of_getElem? (i := 20) rfl))
set_option maxRecDepth 100000 in
theorem lm_574 : Cond.instantiable RX2 3 ∈ lw_tbl := List.mem_append_right _ (List.mem_append_right _ (List.mem_append_right _ (List.mem_append_left _ (List.mem_of_getElem? (i := 97) rfl))))
set_option maxRecDepth 100000 in
theorem lm_575 : Cond.classLink RX9 243 RX2 ∈ lw_tbl := List.mem_append_right _ (List.mem_append_right _ (List.mem_append_right _ (List.mem_append_left _ (List.mem_of_getElem? (i := 96) rfl))))
set_option maxRecDepth 100000 in
theorem lm_576 : Cond.code yX9_unloadOne cX9_unloadOne 3 none ∈ lw_tbl := List.mem_append_right _ (List.mem_append_right _ (List.mem_append_right _ (List.mem_append_left _ (List.mem_of_getElem? (i := 95) rfl))))
set_option maxRecDepth 100000 in
theorem lm_577 : Cond.selects RX9 yX9_unloadOne yX9_unloadOne ∈ lw_tbl := List.mem_append_left _ (List.mem_of_getElem? (i := 28) rfl)
set_option maxRecDepth 100000 in
theorem lm_578 : Cond.instanceMethod yX9_unloadOne ∈ lw_tbl := List.mem_append_right _ (List.mem_append_right _ (List.mem_append_right _ (List.mem_append_left _ (List.mem_of_getElem? (i := 94) rfl))))
set_option maxRecDepth 100000 in
theorem lm_579 : Cond.methodLink RX9 306 yX9_unloadOne ∈ lw_tbl := List.mem_append_right _ (List.mem_append_right _ (List.mem_append_right _ (List.mem_append_left _ (List.mem_of_getElem? (i := 92) rfl))))
set_option maxRecDepth 100000 in
theorem lm_580 : Cond.code yX8_hasRoomFor cX8_hasRoomFor 2 (some .boolean) ∈ lw_tbl := List.mem_append_right _ (List.mem_append_right _ (List.mem_append_right _ (List.mem_append_left _ (List.mem_of_getElem? (i := 91) rfl))))
set_option maxRecDepth 100000 in
theorem lm_581 : Cond.selects RX8 yX8_hasRoomFor yX8_hasRoomFor ∈ lw_tbl := List.mem_append_left _ (List.mem_of_getElem? (i := 27) rfl)
set_option maxRecDepth 100000 in
theorem lm_582 : Cond.instanceMethod yX8_hasRoomFor ∈ lw_tbl := List.mem_append_right _ (List.mem_append_right _ (List.mem_append_right _ (List.mem_append_left _ (List.mem_of_getElem? (i := 90) rfl))))
set_option maxRecDepth 100000 in
theorem lm_583 : Cond.code yX9_unloadLorries cX9_unloadLorries 4 none ∈ lw_tbl := List.mem_append_right _ (List.mem_append_right _ (List.mem_append_right _ (List.mem_append_left _ (List.mem_of_getElem? (i := 87) rfl))))
set_option maxRecDepth 100000 in
theorem lm_584 : Cond.selects RX9 yX9_unloadLorries yX9_unloadLorries ∈ lw_tbl := List.mem_append_left _ (List.mem_of_getElem? (i := 26) rfl)
set_option maxRecDepth 100000 in
theorem lm_585 : Cond.instanceMethod yX9_unloadLorries ∈ lw_tbl := List.mem_append_right _ (List.mem_append_right _ (List.mem_append_right _ (List.mem_append_left _ (List.mem_of_getElem? (i := 86) rfl))))
set_option maxRecDepth 100000 in
theorem lm_586 : Cond.methodLink RX9 287 yX9_unloadLorries ∈ lw_tbl := List.mem_append_right _ (List.mem_append_right _ (List.mem_append_right _ (List.mem_append_left _ (List.mem_of_getElem? (i := 84) rfl))))
set_option maxRecDepth 100000 in
theorem lm_587 : Cond.fieldLink RX6 50 "BeetHouse$Plot" "way" "I" ∈ lw_tbl := List.mem_append_right _ (List.mem_append_right _ (List.mem_append_left _ (List.mem_of_getElem? (i := 28) rfl)))
set_option maxRecDepth 100000 in
theorem lm_588 : Cond.fieldLink RX6 53 "BeetHouse$Plot" "stony" "Z" ∈ lw_tbl := List.mem_append_right _ (List.mem_append_right _ (List.mem_append_left _ (List.mem_of_getElem? (i := 30) rfl)))
set_option maxRecDepth 100000 in
theorem lm_589 : Cond.code yX6_wayBack cX6_wayBack 1 (some .int) ∈ lw_tbl := List.mem_append_right _ (List.mem_append_right _ (List.mem_append_right _ (List.mem_append_left _ (List.mem_of_getElem? (i := 83) rfl))))
set_option maxRecDepth 100000 in
theorem lm_590 : Cond.selects RX6 yX6_wayBack yX6_wayBack ∈ lw_tbl := List.mem_append_left _ (List.mem_of_getElem? (i := 25) rfl)
set_option maxRecDepth 100000 in
theorem lm_591 : Cond.instanceMethod yX6_wayBack ∈ lw_tbl := List.mem_append_right _ (List.mem_append_right _ (List.mem_append_right _ (List.mem_append_left _ (List.mem_of_getElem? (i := 82) rfl))))
set_option maxRecDepth 100000 in
theorem lm_592 : Cond.fieldLink RX6 25 "BeetHouse$Plot" "thawedSince" "I" ∈ lw_tbl := List.mem_append_right _ (List.mem_append_right _ (List.mem_append_left _ (List.mem_of_getElem? (i := 44) rfl)))
set_option maxRecDepth 100000 in
theorem lm_593 : Cond.code yX6_lose cX6_lose 3 none ∈ lw_tbl := List.mem_append_right _ (List.mem_append_right _ (List.mem_append_right _ (List.mem_append_left _ (List.mem_of_getElem? (i := 79) rfl))))
set_option maxRecDepth 100000 in
theorem lm_594 : Cond.selects RX6 yX6_lose yX6_lose ∈ lw_tbl := List.mem_append_left _ (List.mem_of_getElem? (i := 24) rfl)
set_option maxRecDepth 100000 in
theorem lm_595 : Cond.instanceMethod yX6_lose ∈ lw_tbl := List.mem_append_right _ (List.mem_append_right _ (List.mem_append_right _ (List.mem_append_left _ (List.mem_of_getElem? (i := 78) rfl))))
set_option maxRecDepth 100000 in
theorem lm_596 : Cond.code yX6_sugarIn cX6_sugarIn 2 (some .int) ∈ lw_tbl := List.mem_append_right _ (List.mem_append_right _ (List.mem_append_right _ (List.mem_append_left _ (List.mem_of_getElem? (i := 75) rfl))))
set_option maxRecDepth 100000 in
theorem lm_597 : Cond.selects RX6 yX6_sugarIn yX6_sugarIn ∈ lw_tbl := List.mem_append_left _ (List.mem_of_getElem? (i := 23) rfl)
set_option maxRecDepth 100000 in
theorem lm_598 : Cond.instanceMethod yX6_sugarIn ∈ lw_tbl := List.mem_append_right _ (List.mem_append_right _ (List.mem_append_right _ (List.mem_append_left _ (List.mem_of_getElem? (i := 74) rfl))))
set_option maxRecDepth 100000 in
theorem lm_599 : Cond.methodLink RX3 51 Lib.Math.min.name ∈ lw_tbl := List.mem_append_right _ (List.mem_append_right _ (List.mem_append_right _ (List.mem_append_left _ (List.mem_of_getElem? (i := 71) rfl))))
set_option maxRecDepth 100000 in
theorem lm_600 : Cond.code yX3_fill cX3_fill 3 none ∈ lw_tbl := List.mem_append_right _ (List.mem_append_right _ (List.mem_append_right _ (List.mem_append_left _ (List.mem_of_getElem? (i := 70) rfl))))
set_option maxRecDepth 100000 in
theorem lm_601 : Cond.selects RX3 yX3_fill yX3_fill ∈ lw_tbl := List.mem_append_left _ (List.mem_of_getElem? (i := 22) rfl)
set_option maxRecDepth 100000 in
theorem lm_602 : Cond.instanceMethod yX3_fill ∈ lw_tbl := List.mem_append_right _ (List.mem_append_right _ (List.mem_append_right _ (List.mem_append_left _ (List.mem_of_getElem? (i := 69) rfl))))
set_option maxRecDepth 100000 in
theorem lm_603 : Cond.methodLink RX3 42 yX3_fill ∈ lw_tbl := List.mem_append_right _ (List.mem_append_right _ (List.mem_append_right _ (List.mem_append_left _ (List.mem_of_getElem? (i := 67) rfl))))
set_option maxRecDepth 100000 in
theorem lm_604 : Cond.code yX3_arrive cX3_arrive 2 none ∈ lw_tbl := List.mem_append_right _ (List.mem_append_right _ (List.mem_append_right _ (List.mem_append_left _ (List.mem_of_getElem? (i := 66) rfl))))
set_option maxRecDepth 100000 in
theorem lm_605 : Cond.selects RX3 yX3_arrive yX3_arrive ∈ lw_tbl := List.mem_append_left _ (List.mem_of_getElem? (i := 21) rfl)
set_option maxRecDepth 100000 in
theorem lm_606 : Cond.instanceMethod yX3_arrive ∈ lw_tbl := List.mem_append_right _ (List.mem_append_right _ (List.mem_append_right _ (List.mem_append_left _ (List.mem_of_getElem? (i := 65) rfl))))
set_option maxRecDepth 100000 in
theorem lm_607 : Cond.fieldLink RX6 47 "BeetHouse$Plot" "sweet" "I" ∈ lw_tbl := List.mem_append_right _ (List.mem_append_right _ (List.mem_append_left _ (List.mem_of_getElem? (i := 27) rfl)))
set_option maxRecDepth 100000 in
theorem lm_608 : Cond.fieldLink RX6 15 "BeetHouse$Plot" "sugar" "I" ∈ lw_tbl := List.mem_append_right _ (List.mem_append_right _ (List.mem_append_left _ (List.mem_of_getElem? (i := 37) rfl)))
set_option maxRecDepth 100000 in
theorem lm_609 : Cond.fieldLink RX6 9 "BeetHouse$Plot" "roots" "I" ∈ lw_tbl := List.mem_append_right _ (List.mem_append_right _ (List.mem_append_left _ (List.mem_of_getElem? (i := 33) rfl)))
set_option maxRecDepth 100000 in
theorem lm_610 : Cond.methodLink RX6 56 Lib.Math.min.name ∈ lw_tbl := List.mem_append_right _ (List.mem_append_right _ (List.mem_append_right _ (List.mem_append_left _ (List.mem_of_getElem? (i := 62) rfl))))
set_option maxRecDepth 100000 in
theorem lm_611 : Cond.fieldLink RX6 44 "BeetHouse$Plot" "ground" "I" ∈ lw_tbl := List.mem_append_right _ (List.mem_append_right _ (List.mem_append_left _ (List.mem_of_getElem? (i := 31) rfl)))
set_option maxRecDepth 100000 in
theorem lm_612 : Cond.code yX6_lift cX6_lift 3 none ∈ lw_tbl := List.mem_append_right _ (List.mem_append_right _ (List.mem_append_right _ (List.mem_append_left _ (List.mem_of_getElem? (i := 61) rfl))))
set_option maxRecDepth 100000 in
theorem lm_613 : Cond.selects RX6 yX6_lift yX6_lift ∈ lw_tbl := List.mem_append_left _ (List.mem_of_getElem? (i := 20) rfl)
set_option maxRecDepth 100000 in
theorem lm_614 : Cond.initialized RX6 ∈ lw_tbl := List.mem_append_right _ (List.mem_append_left _ (List.mem_of_getElem? (i := 12) rfl))
set_option maxRecDepth 100000 in
theorem lm_615 : Cond.instanceMethod yX6_lift ∈ lw_tbl := List.mem_append_right _ (List.mem_append_right _ (List.mem_append_right _ (List.mem_append_left _ (List.mem_of_getElem? (i := 60) rfl))))
set_option maxRecDepth 100000 in
theorem lm_616 : Cond.code yX9_liftRoots cX9_liftRoots 3 none ∈ lw_tbl := List.mem_append_right _ (List.mem_append_right _ (List.mem_append_right _ (List.mem_append_left _ (List.mem_of_getElem? (i := 57) rfl))))
set_option maxRecDepth 100000 in
theorem lm_617 : Cond.selects RX9 yX9_liftRoots yX9_liftRoots ∈ lw_tbl := List.mem_append_left _ (List.mem_of_getElem? (i := 19) rfl)
set_option maxRecDepth 100000 in
theorem lm_618 : Cond.instanceMethod yX9_liftRoots ∈ lw_tbl := List.mem_append_right _ (List.mem_append_right _ (List.mem_append_right _ (List.mem_append_left _ (List.mem_of_getElem? (i := 56) rfl))))
set_option maxRecDepth 100000 in
theorem lm_619 : Cond.methodLink RX9 281 yX9_liftRoots ∈ lw_tbl := List.mem_append_right _ (List.mem_append_right _ (List.mem_append_right _ (List.mem_append_left _ (List.mem_of_getElem? (i := 54) rfl))))
set_option maxRecDepth 100000 in
theorem lm_620 : Cond.code yX9_passHour cX9_passHour 2 none ∈ lw_tbl := List.mem_append_right _ (List.mem_append_right _ (List.mem_append_right _ (List.mem_append_left _ (List.mem_of_getElem? (i := 53) rfl))))
set_option maxRecDepth 100000 in
theorem lm_621 : Cond.selects RX9 yX9_passHour yX9_passHour ∈ lw_tbl := List.mem_append_left _ (List.mem_of_getElem? (i := 18) rfl)
set_option maxRecDepth 100000 in
theorem lm_622 : Cond.instanceMethod yX9_passHour ∈ lw_tbl := List.mem_append_right _ (List.mem_append_right _ (List.mem_append_right _ (List.mem_append_left _ (List.mem_of_getElem? (i := 52) rfl))))
set_option maxRecDepth 100000 in
theorem lm_623 : Cond.methodLink RX9 187 yX9_passHour ∈ lw_tbl := List.mem_append_right _ (List.mem_append_right _ (List.mem_append_right _ (List.mem_append_left _ (List.mem_of_getElem? (i := 50) rfl))))
set_option maxRecDepth 100000 in
theorem lm_624 : Cond.code yX9_hours cX9_hours 4 (some .int) ∈ lw_tbl := List.mem_append_right _ (List.mem_append_right _ (List.mem_append_right _ (List.mem_append_left _ (List.mem_of_getElem? (i := 49) rfl))))
set_option maxRecDepth 100000 in
theorem lm_625 : Cond.selects RX9 yX9_hours yX9_hours ∈ lw_tbl := List.mem_append_right _ (List.mem_append_right _ (List.mem_append_right _ (List.mem_append_left _ (List.mem_of_getElem? (i := 48) rfl))))
set_option maxRecDepth 100000 in
theorem lm_626 : Cond.instanceMethod yX9_hours ∈ lw_tbl := List.mem_append_right _ (List.mem_append_right _ (List.mem_append_right _ (List.mem_append_left _ (List.mem_of_getElem? (i := 47) rfl))))
set_option maxRecDepth 100000 in
theorem lm_627 : Cond.methodLink RL 68 yX9_hours ∈ lw_tbl := List.mem_append_right _ (List.mem_append_right _ (List.mem_append_right _ (List.mem_append_left _ (List.mem_of_getElem? (i := 46) rfl))))
set_option maxRecDepth 100000 in
theorem lm_628 : Cond.constantLong RX10 193 (1000) ∈ lw_tbl := List.mem_append_right _ (List.mem_append_right _ (List.mem_append_right _ (List.mem_append_right _ (List.mem_append_right _ (List.mem_of_getElem? (i := 66) rfl)))))
set_option maxRecDepth 100000 in
theorem lm_629 : Cond.code yX10_wasteOf cX10_wasteOf 5 (some .int) ∈ lw_tbl := List.mem_append_right _ (List.mem_append_right _ (List.mem_append_right _ (List.mem_append_right _ (List.mem_append_right _ (List.mem_of_getElem? (i := 65) rfl)))))
set_option maxRecDepth 100000 in
theorem lm_630 : Cond.selects RX10 yX10_wasteOf yX10_wasteOf ∈ lw_tbl := List.mem_append_left _ (List.mem_of_getElem? (i := 67) rfl)
set_option maxRecDepth 100000 in
theorem lm_631 : Cond.instanceMethod yX10_wasteOf ∈ lw_tbl := List.mem_append_right _ (List.mem_append_right _ (List.mem_append_right _ (List.mem_append_right _ (List.mem_append_right _ (List.mem_of_getElem? (i := 64) rfl)))))
set_option maxRecDepth 100000 in
theorem lm_632 : Cond.methodLink RX10 195 yX10_wasteOf ∈ lw_tbl := List.mem_append_right _ (List.mem_append_right _ (List.mem_append_right _ (List.mem_append_right _ (List.mem_append_right _ (List.mem_of_getElem? (i := 62) rfl)))))
set_option maxRecDepth 100000 in
theorem lm_633 : Cond.fieldLink RX10 202 "BeetHouseModel" "spoiled" "I" ∈ lw_tbl := List.mem_append_right _ (List.mem_append_right _ (List.mem_append_right _ (List.mem_append_right _ (List.mem_append_left _ (List.mem_of_getElem? (i := 57) rfl)))))
set_option maxRecDepth 100000 in
theorem lm_634 : Cond.fieldLink RX10 199 "BeetHouseModel" "wasted" "I" ∈ lw_tbl := List.mem_append_right _ (List.mem_append_right _ (List.mem_append_right _ (List.mem_append_right _ (List.mem_append_left _ (List.mem_of_getElem? (i := 56) rfl)))))
set_option maxRecDepth 100000 in
theorem lm_635 : Cond.code yX10_ends cX10_ends 3 none ∈ lw_tbl := List.mem_append_right _ (List.mem_append_right _ (List.mem_append_right _ (List.mem_append_right _ (List.mem_append_right _ (List.mem_of_getElem? (i := 61) rfl)))))
set_option maxRecDepth 100000 in
theorem lm_636 : Cond.selects RX10 yX10_ends yX10_ends ∈ lw_tbl := List.mem_append_left _ (List.mem_of_getElem? (i := 66) rfl)
set_option maxRecDepth 100000 in
theorem lm_637 : Cond.instanceMethod yX10_ends ∈ lw_tbl := List.mem_append_right _ (List.mem_append_right _ (List.mem_append_right _ (List.mem_append_right _ (List.mem_append_right _ (List.mem_of_getElem? (i := 60) rfl)))))
set_option maxRecDepth 100000 in
theorem lm_638 : Cond.methodLink RX10 217 yX10_ends ∈ lw_tbl := List.mem_append_right _ (List.mem_append_right _ (List.mem_append_right _ (List.mem_append_right _ (List.mem_append_right _ (List.mem_of_getElem? (i := 58) rfl)))))
set_option maxRecDepth 100000 in
theorem lm_639 : Cond.fieldLink RX10 190 "BeetHouseModel" "eaten" "I" ∈ lw_tbl := List.mem_append_right _ (List.mem_append_right _ (List.mem_append_right _ (List.mem_append_right _ (List.mem_append_left _ (List.mem_of_getElem? (i := 52) rfl)))))
set_option maxRecDepth 100000 in
theorem lm_640 : Cond.fieldLink RX10 187 "BeetHouseModel" "stood" "I" ∈ lw_tbl := List.mem_append_right _ (List.mem_append_right _ (List.mem_append_right _ (List.mem_append_right _ (List.mem_append_left _ (List.mem_of_getElem? (i := 54) rfl)))))
set_option maxRecDepth 100000 in
theorem lm_641 : Cond.fieldLink RX10 184 "BeetHouseModel" "lack" "I" ∈ lw_tbl := List.mem_append_right _ (List.mem_append_right _ (List.mem_append_right _ (List.mem_append_right _ (List.mem_append_left _ (List.mem_of_getElem? (i := 55) rfl)))))
set_option maxRecDepth 100000 in
theorem lm_642 : Cond.fieldLink RX10 181 "BeetHouseModel" "won" "I" ∈ lw_tbl := List.mem_append_right _ (List.mem_append_right _ (List.mem_append_right _ (List.mem_append_right _ (List.mem_append_left _ (List.mem_of_getElem? (i := 53) rfl)))))
set_option maxRecDepth 100000 in
theorem lm_643 : Cond.code yX10_eats cX10_eats 4 (some .int) ∈ lw_tbl := List.mem_append_right _ (List.mem_append_right _ (List.mem_append_right _ (List.mem_append_right _ (List.mem_append_right _ (List.mem_of_getElem? (i := 57) rfl)))))
set_option maxRecDepth 100000 in
theorem lm_644 : Cond.selects RX10 yX10_eats yX10_eats ∈ lw_tbl := List.mem_append_left _ (List.mem_of_getElem? (i := 65) rfl)
set_option maxRecDepth 100000 in
theorem lm_645 : Cond.instanceMethod yX10_eats ∈ lw_tbl := List.mem_append_right _ (List.mem_append_right _ (List.mem_append_right _ (List.mem_append_right _ (List.mem_append_right _ (List.mem_of_getElem? (i := 56) rfl)))))
set_option maxRecDepth 100000 in
theorem lm_646 : Cond.methodLink RX10 214 yX10_eats ∈ lw_tbl := List.mem_append_right _ (List.mem_append_right _ (List.mem_append_right _ (List.mem_append_right _ (List.mem_append_right _ (List.mem_of_getElem? (i := 54) rfl)))))
set_option maxRecDepth 100000 in
theorem lm_647 : Cond.code yX10_brings cX10_brings 3 none ∈ lw_tbl := List.mem_append_right _ (List.mem_append_right _ (List.mem_append_right _ (List.mem_append_right _ (List.mem_append_right _ (List.mem_of_getElem? (i := 53) rfl)))))
set_option maxRecDepth 100000 in
theorem lm_648 : Cond.selects RX10 yX10_brings yX10_brings ∈ lw_tbl := List.mem_append_left _ (List.mem_of_getElem? (i := 64) rfl)
set_option maxRecDepth 100000 in
theorem lm_649 : Cond.instanceMethod yX10_brings ∈ lw_tbl := List.mem_append_right _ (List.mem_append_right _ (List.mem_append_right _ (List.mem_append_right _ (List.mem_append_right _ (List.mem_of_getElem? (i := 52) rfl)))))
set_option maxRecDepth 100000 in
theorem lm_650 : Cond.methodLink RX10 177 yX10_brings ∈ lw_tbl := List.mem_append_right _ (List.mem_append_right _ (List.mem_append_right _ (List.mem_append_right _ (List.mem_append_right _ (List.mem_of_getElem? (i := 50) rfl)))))
set_option maxRecDepth 100000 in
theorem lm_651 : Cond.fieldLink RX10 165 "BeetHouseModel" "loads" "I" ∈ lw_tbl := List.mem_append_right _ (List.mem_append_right _ (List.mem_append_right _ (List.mem_append_right _ (List.mem_append_left _ (List.mem_of_getElem? (i := 85) rfl)))))
set_option maxRecDepth 100000 in
theorem lm_652 : Cond.code yX10_inYard cX10_inYard 3 (some .int) ∈ lw_tbl := List.mem_append_right _ (List.mem_append_right _ (List.mem_append_right _ (List.mem_append_right _ (List.mem_append_right _ (List.mem_of_getElem? (i := 49) rfl)))))
set_option maxRecDepth 100000 in
theorem lm_653 : Cond.selects RX10 yX10_inYard yX10_inYard ∈ lw_tbl := List.mem_append_left _ (List.mem_of_getElem? (i := 63) rfl)
set_option maxRecDepth 100000 in
theorem lm_654 : Cond.instanceMethod yX10_inYard ∈ lw_tbl := List.mem_append_right _ (List.mem_append_right _ (List.mem_append_right _ (List.mem_append_right _ (List.mem_append_right _ (List.mem_of_getElem? (i := 48) rfl)))))
set_option maxRecDepth 100000 in
theorem lm_655 : Cond.methodLink RX10 174 yX10_inYard ∈ lw_tbl := List.mem_append_right _ (List.mem_append_right _ (List.mem_append_right _ (List.mem_append_right _ (List.mem_append_right _ (List.mem_of_getElem? (i := 46) rfl)))))
set_option maxRecDepth 100000 in
theorem lm_656 : Cond.code yX10_unloads cX10_unloads 3 none ∈ lw_tbl := List.mem_append_right _ (List.mem_append_right _ (List.mem_append_right _ (List.mem_append_right _ (List.mem_append_right _ (List.mem_of_getElem? (i := 45) rfl)))))
set_option maxRecDepth 100000 in
theorem lm_657 : Cond.selects RX10 yX10_unloads yX10_unloads ∈ lw_tbl := List.mem_append_left _ (List.mem_of_getElem? (i := 62) rfl)
set_option maxRecDepth 100000 in
theorem lm_658 : Cond.instanceMethod yX10_unloads ∈ lw_tbl := List.mem_append_right _ (List.mem_append_right _ (List.mem_append_right _ (List.mem_append_right _ (List.mem_append_right _ (List.mem_of_getElem? (i := 44) rfl)))))
set_option maxRecDepth 100000 in
theorem lm_659 : Cond.methodLink RX10 211 yX10_unloads ∈ lw_tbl := List.mem_append_right _ (List.mem_append_right _ (List.mem_append_right _ (List.mem_append_right _ (List.mem_append_right _ (List.mem_of_getElem? (i := 42) rfl)))))
set_option maxRecDepth 100000 in
theorem lm_660 : Cond.code yX10_arrives cX10_arrives 5 none ∈ lw_tbl := List.mem_append_right _ (List.mem_append_right _ (List.mem_append_right _ (List.mem_append_right _ (List.mem_append_right _ (List.mem_of_getElem? (i := 41) rfl)))))
set_option maxRecDepth 100000 in
theorem lm_661 : Cond.selects RX10 yX10_arrives yX10_arrives ∈ lw_tbl := List.mem_append_left _ (List.mem_of_getElem? (i := 61) rfl)
set_option maxRecDepth 100000 in
theorem lm_662 : Cond.instanceMethod yX10_arrives ∈ lw_tbl := List.mem_append_right _ (List.mem_append_right _ (List.mem_append_right _ (List.mem_append_right _ (List.mem_append_right _ (List.mem_of_getElem? (i := 40) rfl)))))
set_option maxRecDepth 100000 in
theorem lm_663 : Cond.methodLink RX10 208 yX10_arrives ∈ lw_tbl := List.mem_append_right _ (List.mem_append_right _ (List.mem_append_right _ (List.mem_append_right _ (List.mem_append_right _ (List.mem_of_getElem? (i := 38) rfl)))))
set_option maxRecDepth 100000 in
theorem lm_664 : Cond.methodLink RX10 168 Lib.Math.min.name ∈ lw_tbl := List.mem_append_right _ (List.mem_append_right _ (List.mem_append_right _ (List.mem_append_right _ (List.mem_append_right _ (List.mem_of_getElem? (i := 37) rfl)))))
set_option maxRecDepth 100000 in
theorem lm_665 : Cond.code yX10_lifts cX10_lifts 4 none ∈ lw_tbl := List.mem_append_right _ (List.mem_append_right _ (List.mem_append_right _ (List.mem_append_right _ (List.mem_append_right _ (List.mem_of_getElem? (i := 36) rfl)))))
set_option maxRecDepth 100000 in
theorem lm_666 : Cond.selects RX10 yX10_lifts yX10_lifts ∈ lw_tbl := List.mem_append_left _ (List.mem_of_getElem? (i := 60) rfl)
set_option maxRecDepth 100000 in
theorem lm_667 : Cond.instanceMethod yX10_lifts ∈ lw_tbl := List.mem_append_right _ (List.mem_append_right _ (List.mem_append_right _ (List.mem_append_right _ (List.mem_append_right _ (List.mem_of_getElem? (i := 35) rfl)))))
set_option maxRecDepth 100000 in
theorem lm_668 : Cond.methodLink RX10 205 yX10_lifts ∈ lw_tbl := List.mem_append_right _ (List.mem_append_right _ (List.mem_append_right _ (List.mem_append_right _ (List.mem_append_right _ (List.mem_of_getElem? (i := 33) rfl)))))
set_option maxRecDepth 100000 in
theorem lm_669 : Cond.fieldLink RX10 161 "BeetHouseModel" "isFrost" "Z" ∈ lw_tbl := List.mem_append_right _ (List.mem_append_right _ (List.mem_append_right _ (List.mem_append_right _ (List.mem_append_left _ (List.mem_of_getElem? (i := 58) rfl)))))
set_option maxRecDepth 100000 in
theorem lm_670 : Cond.code yX10_hours cX10_hours 5 (some .int) ∈ lw_tbl := List.mem_append_right _ (List.mem_append_right _ (List.mem_append_right _ (List.mem_append_right _ (List.mem_append_right _ (List.mem_of_getElem? (i := 32) rfl)))))
set_option maxRecDepth 100000 in
theorem lm_671 : Cond.selects RX10 yX10_hours yX10_hours ∈ lw_tbl := List.mem_append_right _ (List.mem_append_right _ (List.mem_append_right _ (List.mem_append_right _ (List.mem_append_right _ (List.mem_of_getElem? (i := 31) rfl)))))
set_option maxRecDepth 100000 in
theorem lm_672 : Cond.instanceMethod yX10_hours ∈ lw_tbl := List.mem_append_right _ (List.mem_append_right _ (List.mem_append_right _ (List.mem_append_right _ (List.mem_append_right _ (List.mem_of_getElem? (i := 30) rfl)))))
set_option maxRecDepth 100000 in
theorem lm_673 : Cond.methodLink RL 71 yX10_hours ∈ lw_tbl := List.mem_append_right _ (List.mem_append_right _ (List.mem_append_right _ (List.mem_append_right _ (List.mem_append_right _ (List.mem_of_getElem? (i := 29) rfl)))))
set_option maxRecDepth 100000 in
theorem lm_674 : Cond.constant RX9 190 (1000000000) ∈ lw_tbl := List.mem_append_right _ (List.mem_append_right _ (List.mem_append_right _ (List.mem_append_left _ (List.mem_of_getElem? (i := 188) rfl))))
set_option maxRecDepth 100000 in
theorem lm_675 : Cond.code yX9_owed cX9_owed 3 (some .int) ∈ lw_tbl := List.mem_append_right _ (List.mem_append_right _ (List.mem_append_right _ (List.mem_append_left _ (List.mem_of_getElem? (i := 187) rfl))))
set_option maxRecDepth 100000 in
theorem lm_676 : Cond.selects RX9 yX9_owed yX9_owed ∈ lw_tbl := List.mem_append_right _ (List.mem_append_right _ (List.mem_append_right _ (List.mem_append_left _ (List.mem_of_getElem? (i := 186) rfl))))
set_option maxRecDepth 100000 in
theorem lm_677 : Cond.instanceMethod yX9_owed ∈ lw_tbl := List.mem_append_right _ (List.mem_append_right _ (List.mem_append_right _ (List.mem_append_left _ (List.mem_of_getElem? (i := 185) rfl))))
set_option maxRecDepth 100000 in
theorem lm_678 : Cond.methodLink RL 72 yX9_owed ∈ lw_tbl := List.mem_append_right _ (List.mem_append_right _ (List.mem_append_right _ (List.mem_append_left _ (List.mem_of_getElem? (i := 184) rfl))))
set_option maxRecDepth 100000 in
theorem lm_679 : Cond.constant RX10 220 (1000000000) ∈ lw_tbl := List.mem_append_right _ (List.mem_append_right _ (List.mem_append_right _ (List.mem_append_right _ (List.mem_append_right _ (List.mem_of_getElem? (i := 71) rfl)))))
set_option maxRecDepth 100000 in
theorem lm_680 : Cond.code yX10_owed cX10_owed 2 (some .int) ∈ lw_tbl := List.mem_append_right _ (List.mem_append_right _ (List.mem_append_right _ (List.mem_append_right _ (List.mem_append_right _ (List.mem_of_getElem? (i := 70) rfl)))))
set_option maxRecDepth 100000 in
theorem lm_681 : Cond.selects RX10 yX10_owed yX10_owed ∈ lw_tbl := List.mem_append_right _ (List.mem_append_right _ (List.mem_append_right _ (List.mem_append_right _ (List.mem_append_right _ (List.mem_of_getElem? (i := 69) rfl)))))
set_option maxRecDepth 100000 in
theorem lm_682 : Cond.instanceMethod yX10_owed ∈ lw_tbl := List.mem_append_right _ (List.mem_append_right _ (List.mem_append_right _ (List.mem_append_right _ (List.mem_append_right _ (List.mem_of_getElem? (i := 68) rfl)))))
set_option maxRecDepth 100000 in
theorem lm_683 : Cond.methodLink RL 75 yX10_owed ∈ lw_tbl := List.mem_append_right _ (List.mem_append_right _ (List.mem_append_right _ (List.mem_append_right _ (List.mem_append_right _ (List.mem_of_getElem? (i := 67) rfl)))))
set_option maxRecDepth 100000 in
theorem lm_684 : Cond.code yX9_next cX9_next 2 (some .int) ∈ lw_tbl := List.mem_append_right _ (List.mem_append_right _ (List.mem_append_right _ (List.mem_append_left _ (List.mem_of_getElem? (i := 193) rfl))))
set_option maxRecDepth 100000 in
theorem lm_685 : Cond.selects RX9 yX9_next yX9_next ∈ lw_tbl := List.mem_append_right _ (List.mem_append_right _ (List.mem_append_right _ (List.mem_append_left _ (List.mem_of_getElem? (i := 192) rfl))))
set_option maxRecDepth 100000 in
theorem lm_686 : Cond.instanceMethod yX9_next ∈ lw_tbl := List.mem_append_right _ (List.mem_append_right _ (List.mem_append_right _ (List.mem_append_left _ (List.mem_of_getElem? (i := 191) rfl))))
set_option maxRecDepth 100000 in
theorem lm_687 : Cond.methodLink RL 76 yX9_next ∈ lw_tbl := List.mem_append_right _ (List.mem_append_right _ (List.mem_append_right _ (List.mem_append_left _ (List.mem_of_getElem? (i := 190) rfl))))
set_option maxRecDepth 100000 in
theorem lm_688 : Cond.code yX10_next cX10_next 1 (some .int) ∈ lw_tbl := List.mem_append_right _ (List.mem_append_right _ (List.mem_append_right _ (List.mem_append_right _ (List.mem_append_right _ (List.mem_of_getElem? (i := 75) rfl)))))
set_option maxRecDepth 100000 in
theorem lm_689 : Cond.selects RX10 yX10_next yX10_next ∈ lw_tbl := List.mem_append_right _ (List.mem_append_right _ (List.mem_append_right _ (List.mem_append_right _ (List.mem_append_right _ (List.mem_of_getElem? (i := 74) rfl)))))
set_option maxRecDepth 100000 in
theorem lm_690 : Cond.instanceMethod yX10_next ∈ lw_tbl := List.mem_append_right _ (List.mem_append_right _ (List.mem_append_right _ (List.mem_append_right _ (List.mem_append_right _ (List.mem_of_getElem? (i := 73) rfl)))))
set_option maxRecDepth 100000 in
theorem lm_691 : Cond.methodLink RL 79 yX10_next ∈ lw_tbl := List.mem_append_right _ (List.mem_append_right _ (List.mem_append_right _ (List.mem_append_right _ (List.mem_append_right _ (List.mem_of_getElem? (i := 72) rfl)))))
set_option maxRecDepth 100000 in
theorem lm_692 : Cond.code yX5_leastWaste cX5_leastWaste 1 (some .int) ∈ lw_tbl := List.mem_append_right _ (List.mem_append_right _ (List.mem_append_right _ (List.mem_append_left _ (List.mem_of_getElem? (i := 234) rfl))))
set_option maxRecDepth 100000 in
theorem lm_693 : Cond.selects RX5 yX5_leastWaste yX5_leastWaste ∈ lw_tbl := List.mem_append_left _ (List.mem_of_getElem? (i := 48) rfl)
set_option maxRecDepth 100000 in
theorem lm_694 : Cond.instanceMethod yX5_leastWaste ∈ lw_tbl := List.mem_append_right _ (List.mem_append_right _ (List.mem_append_right _ (List.mem_append_left _ (List.mem_of_getElem? (i := 233) rfl))))
set_option maxRecDepth 100000 in
theorem lm_695 : Cond.methodLink RX5 68 Lib.Math.min.name ∈ lw_tbl := List.mem_append_right _ (List.mem_append_right _ (List.mem_append_right _ (List.mem_append_left _ (List.mem_of_getElem? (i := 230) rfl))))
set_option maxRecDepth 100000 in
theorem lm_696 : Cond.code yX5_wasteOfWaiting cX5_wasteOfWaiting 5 (some .int) ∈ lw_tbl := List.mem_append_right _ (List.mem_append_right _ (List.mem_append_right _ (List.mem_append_left _ (List.mem_of_getElem? (i := 229) rfl))))
set_option maxRecDepth 100000 in
theorem lm_697 : Cond.selects RX5 yX5_wasteOfWaiting yX5_wasteOfWaiting ∈ lw_tbl := List.mem_append_left _ (List.mem_of_getElem? (i := 47) rfl)
set_option maxRecDepth 100000 in
theorem lm_698 : Cond.instanceMethod yX5_wasteOfWaiting ∈ lw_tbl := List.mem_append_right _ (List.mem_append_right _ (List.mem_append_right _ (List.mem_append_left _ (List.mem_of_getElem? (i := 228) rfl))))
set_option maxRecDepth 100000 in
theorem lm_699 : Cond.methodLink RX5 76 yX5_wasteOfWaiting ∈ lw_tbl := List.mem_append_right _ (List.mem_append_right _ (List.mem_append_right _ (List.mem_append_left _ (List.mem_of_getElem? (i := 226) rfl))))
set_option maxRecDepth 100000 in
theorem lm_700 : Cond.constant RX5 75 (2147483647) ∈ lw_tbl := List.mem_append_right _ (List.mem_append_right _ (List.mem_append_right _ (List.mem_append_left _ (List.mem_of_getElem? (i := 225) rfl))))
set_option maxRecDepth 100000 in
theorem lm_701 : Cond.code yX5_choose cX5_choose 7 none ∈ lw_tbl := List.mem_append_right _ (List.mem_append_right _ (List.mem_append_right _ (List.mem_append_left _ (List.mem_of_getElem? (i := 224) rfl))))
set_option maxRecDepth 100000 in
theorem lm_702 : Cond.selects RX5 yX5_choose yX5_choose ∈ lw_tbl := List.mem_append_left _ (List.mem_of_getElem? (i := 46) rfl)
set_option maxRecDepth 100000 in
theorem lm_703 : Cond.instanceMethod yX5_choose ∈ lw_tbl := List.mem_append_right _ (List.mem_append_right _ (List.mem_append_right _ (List.mem_append_left _ (List.mem_of_getElem? (i := 223) rfl))))
set_option maxRecDepth 100000 in
theorem lm_704 : Cond.methodLink RX5 64 yX5_choose ∈ lw_tbl := List.mem_append_right _ (List.mem_append_right _ (List.mem_append_right _ (List.mem_append_left _ (List.mem_of_getElem? (i := 221) rfl))))
set_option maxRecDepth 100000 in
theorem lm_705 : Cond.code yX5_search cX5_search 3 none ∈ lw_tbl := List.mem_append_right _ (List.mem_append_right _ (List.mem_append_right _ (List.mem_append_left _ (List.mem_of_getElem? (i := 220) rfl))))
set_option maxRecDepth 100000 in
theorem lm_706 : Cond.selects RX5 yX5_search yX5_search ∈ lw_tbl := List.mem_append_left _ (List.mem_of_getElem? (i := 45) rfl)
set_option maxRecDepth 100000 in
theorem lm_707 : Cond.instanceMethod yX5_search ∈ lw_tbl := List.mem_append_right _ (List.mem_append_right _ (List.mem_append_right _ (List.mem_append_left _ (List.mem_of_getElem? (i := 219) rfl))))
set_option maxRecDepth 100000 in
theorem lm_708 : Cond.code yX5_foresee cX5_foresee 7 none ∈ lw_tbl := List.mem_append_right _ (List.mem_append_right _ (List.mem_append_right _ (List.mem_append_left _ (List.mem_of_getElem? (i := 213) rfl))))
set_option maxRecDepth 100000 in
theorem lm_709 : Cond.selects RX5 yX5_foresee yX5_foresee ∈ lw_tbl := List.mem_append_left _ (List.mem_of_getElem? (i := 44) rfl)
set_option maxRecDepth 100000 in
theorem lm_710 : Cond.instanceMethod yX5_foresee ∈ lw_tbl := List.mem_append_right _ (List.mem_append_right _ (List.mem_append_right _ (List.mem_append_left _ (List.mem_of_getElem? (i := 212) rfl))))
set_option maxRecDepth 100000 in
theorem lm_711 : Cond.methodLink RX5 41 yX5_foresee ∈ lw_tbl := List.mem_append_right _ (List.mem_append_right _ (List.mem_append_right _ (List.mem_append_left _ (List.mem_of_getElem? (i := 210) rfl))))
set_option maxRecDepth 100000 in
theorem lm_712 : Cond.code yX5_add cX5_add 7 (some .boolean) ∈ lw_tbl := List.mem_append_right _ (List.mem_append_right _ (List.mem_append_right _ (List.mem_append_left _ (List.mem_of_getElem? (i := 209) rfl))))
set_option maxRecDepth 100000 in
theorem lm_713 : Cond.selects RX5 yX5_add yX5_add ∈ lw_tbl := List.mem_append_left _ (List.mem_of_getElem? (i := 43) rfl)
set_option maxRecDepth 100000 in
theorem lm_714 : Cond.instanceMethod yX5_add ∈ lw_tbl := List.mem_append_right _ (List.mem_append_right _ (List.mem_append_right _ (List.mem_append_left _ (List.mem_of_getElem? (i := 208) rfl))))
set_option maxRecDepth 100000 in
theorem lm_715 : Cond.code yX5_clear cX5_clear 2 none ∈ lw_tbl := List.mem_append_right _ (List.mem_append_right _ (List.mem_append_right _ (List.mem_append_left _ (List.mem_of_getElem? (i := 205) rfl))))
set_option maxRecDepth 100000 in
theorem lm_716 : Cond.selects RX5 yX5_clear yX5_clear ∈ lw_tbl := List.mem_append_left _ (List.mem_of_getElem? (i := 42) rfl)
set_option maxRecDepth 100000 in
theorem lm_717 : Cond.instanceMethod yX5_clear ∈ lw_tbl := List.mem_append_right _ (List.mem_append_right _ (List.mem_append_right _ (List.mem_append_left _ (List.mem_of_getElem? (i := 204) rfl))))
set_option maxRecDepth 100000 in
theorem lm_718 : Cond.code yX9_findOrder cX9_findOrder 3 (some .boolean) ∈ lw_tbl := List.mem_append_right _ (List.mem_append_right _ (List.mem_append_right _ (List.mem_append_left _ (List.mem_of_getElem? (i := 201) rfl))))
set_option maxRecDepth 100000 in
theorem lm_719 : Cond.selects RX9 yX9_findOrder yX9_findOrder ∈ lw_tbl := List.mem_append_left _ (List.mem_of_getElem? (i := 41) rfl)
set_option maxRecDepth 100000 in
theorem lm_720 : Cond.instanceMethod yX9_findOrder ∈ lw_tbl := List.mem_append_right _ (List.mem_append_right _ (List.mem_append_right _ (List.mem_append_left _ (List.mem_of_getElem? (i := 200) rfl))))
set_option maxRecDepth 100000 in
theorem lm_721 : Cond.methodLink RX9 198 yX9_findOrder ∈ lw_tbl := List.mem_append_right _ (List.mem_append_right _ (List.mem_append_right _ (List.mem_append_left _ (List.mem_of_getElem? (i := 198) rfl))))
set_option maxRecDepth 100000 in
theorem lm_722 : Cond.code yX9_best cX9_best 1 (some .int) ∈ lw_tbl := List.mem_append_right _ (List.mem_append_right _ (List.mem_append_right _ (List.mem_append_left _ (List.mem_of_getElem? (i := 197) rfl))))
set_option maxRecDepth 100000 in
theorem lm_723 : Cond.selects RX9 yX9_best yX9_best ∈ lw_tbl := List.mem_append_right _ (List.mem_append_right _ (List.mem_append_right _ (List.mem_append_left _ (List.mem_of_getElem? (i := 196) rfl))))
set_option maxRecDepth 100000 in
theorem lm_724 : Cond.instanceMethod yX9_best ∈ lw_tbl := List.mem_append_right _ (List.mem_append_right _ (List.mem_append_right _ (List.mem_append_left _ (List.mem_of_getElem? (i := 195) rfl))))
set_option maxRecDepth 100000 in
theorem lm_725 : Cond.methodLink RL 80 yX9_best ∈ lw_tbl := List.mem_append_right _ (List.mem_append_right _ (List.mem_append_right _ (List.mem_append_left _ (List.mem_of_getElem? (i := 194) rfl))))
set_option maxRecDepth 100000 in
theorem lm_726 : Cond.code yX10_lies cX10_lies 7 (some .int) ∈ lw_tbl := List.mem_append_right _ (List.mem_append_right _ (List.mem_append_right _ (List.mem_append_right _ (List.mem_append_right _ (List.mem_of_getElem? (i := 87) rfl)))))
set_option maxRecDepth 100000 in
theorem lm_727 : Cond.selects RX10 yX10_lies yX10_lies ∈ lw_tbl := List.mem_append_left _ (List.mem_of_getElem? (i := 69) rfl)
set_option maxRecDepth 100000 in
theorem lm_728 : Cond.instanceMethod yX10_lies ∈ lw_tbl := List.mem_append_right _ (List.mem_append_right _ (List.mem_append_right _ (List.mem_append_right _ (List.mem_append_right _ (List.mem_of_getElem? (i := 86) rfl)))))
set_option maxRecDepth 100000 in
theorem lm_729 : Cond.methodLink RX10 224 yX10_lies ∈ lw_tbl := List.mem_append_right _ (List.mem_append_right _ (List.mem_append_right _ (List.mem_append_right _ (List.mem_append_right _ (List.mem_of_getElem? (i := 84) rfl)))))
set_option maxRecDepth 100000 in
theorem lm_730 : Cond.fieldLink RX10 221 "BeetHouseModel" "heaps" "I" ∈ lw_tbl := List.mem_append_right _ (List.mem_append_right _ (List.mem_append_right _ (List.mem_append_right _ (List.mem_append_left _ (List.mem_of_getElem? (i := 89) rfl)))))
set_option maxRecDepth 100000 in
theorem lm_731 : Cond.code yX10_knows cX10_knows 5 (some .boolean) ∈ lw_tbl := List.mem_append_right _ (List.mem_append_right _ (List.mem_append_right _ (List.mem_append_right _ (List.mem_append_right _ (List.mem_of_getElem? (i := 83) rfl)))))
set_option maxRecDepth 100000 in
theorem lm_732 : Cond.selects RX10 yX10_knows yX10_knows ∈ lw_tbl := List.mem_append_left _ (List.mem_of_getElem? (i := 68) rfl)
set_option maxRecDepth 100000 in
theorem lm_733 : Cond.instanceMethod yX10_knows ∈ lw_tbl := List.mem_append_right _ (List.mem_append_right _ (List.mem_append_right _ (List.mem_append_right _ (List.mem_append_right _ (List.mem_of_getElem? (i := 82) rfl)))))
set_option maxRecDepth 100000 in
theorem lm_734 : Cond.methodLink RX10 227 yX10_knows ∈ lw_tbl := List.mem_append_right _ (List.mem_append_right _ (List.mem_append_right _ (List.mem_append_right _ (List.mem_append_right _ (List.mem_of_getElem? (i := 80) rfl)))))
set_option maxRecDepth 100000 in
theorem lm_735 : Cond.code yX10_best cX10_best 1 (some .int) ∈ lw_tbl := List.mem_append_right _ (List.mem_append_right _ (List.mem_append_right _ (List.mem_append_right _ (List.mem_append_right _ (List.mem_of_getElem? (i := 79) rfl)))))
set_option maxRecDepth 100000 in
theorem lm_736 : Cond.selects RX10 yX10_best yX10_best ∈ lw_tbl := List.mem_append_right _ (List.mem_append_right _ (List.mem_append_right _ (List.mem_append_right _ (List.mem_append_right _ (List.mem_of_getElem? (i := 78) rfl)))))
set_option maxRecDepth 100000 in
theorem lm_737 : Cond.instanceMethod yX10_best ∈ lw_tbl := List.mem_append_right _ (List.mem_append_right _ (List.mem_append_right _ (List.mem_append_right _ (List.mem_append_right _ (List.mem_of_getElem? (i := 77) rfl)))))
set_option maxRecDepth 100000 in
theorem lm_738 : Cond.methodLink RL 83 yX10_best ∈ lw_tbl := List.mem_append_right _ (List.mem_append_right _ (List.mem_append_right _ (List.mem_append_right _ (List.mem_append_right _ (List.mem_of_getElem? (i := 76) rfl)))))
set_option maxRecDepth 100000 in
theorem lm_739 : Cond.code yX5_plotAtPlace cX5_plotAtPlace 5 (some .int) ∈ lw_tbl := List.mem_append_right _ (List.mem_append_right _ (List.mem_append_right _ (List.mem_append_right _ (List.mem_append_left _ (List.mem_of_getElem? (i := 2) rfl)))))
set_option maxRecDepth 100000 in
theorem lm_740 : Cond.selects RX5 yX5_plotAtPlace yX5_plotAtPlace ∈ lw_tbl := List.mem_append_left _ (List.mem_of_getElem? (i := 49) rfl)
set_option maxRecDepth 100000 in
theorem lm_741 : Cond.instanceMethod yX5_plotAtPlace ∈ lw_tbl := List.mem_append_right _ (List.mem_append_right _ (List.mem_append_right _ (List.mem_append_right _ (List.mem_append_left _ (List.mem_of_getElem? (i := 1) rfl)))))
set_option maxRecDepth 100000 in
theorem lm_742 : Cond.code yX9_order cX9_order 2 (some .int) ∈ lw_tbl := List.mem_append_right _ (List.mem_append_right _ (List.mem_append_right _ (List.mem_append_left _ (List.mem_of_getElem? (i := 238) rfl))))
set_option maxRecDepth 100000 in
theorem lm_743 : Cond.selects RX9 yX9_order yX9_order ∈ lw_tbl := List.mem_append_right _ (List.mem_append_right _ (List.mem_append_right _ (List.mem_append_left _ (List.mem_of_getElem? (i := 237) rfl))))
set_option maxRecDepth 100000 in
theorem lm_744 : Cond.instanceMethod yX9_order ∈ lw_tbl := List.mem_append_right _ (List.mem_append_right _ (List.mem_append_right _ (List.mem_append_left _ (List.mem_of_getElem? (i := 236) rfl))))
set_option maxRecDepth 100000 in
theorem lm_745 : Cond.methodLink RL 84 yX9_order ∈ lw_tbl := List.mem_append_right _ (List.mem_append_right _ (List.mem_append_right _ (List.mem_append_left _ (List.mem_of_getElem? (i := 235) rfl))))
set_option maxRecDepth 100000 in
theorem lm_746 : Cond.code yX10_order cX10_order 6 (some .int) ∈ lw_tbl := List.mem_append_right _ (List.mem_append_right _ (List.mem_append_right _ (List.mem_append_right _ (List.mem_append_right _ (List.mem_of_getElem? (i := 91) rfl)))))
set_option maxRecDepth 100000 in
theorem lm_747 : Cond.selects RX10 yX10_order yX10_order ∈ lw_tbl := List.mem_append_right _ (List.mem_append_right _ (List.mem_append_right _ (List.mem_append_right _ (List.mem_append_right _ (List.mem_of_getElem? (i := 90) rfl)))))
set_option maxRecDepth 100000 in
theorem lm_748 : Cond.instanceMethod yX10_order ∈ lw_tbl := List.mem_append_right _ (List.mem_append_right _ (List.mem_append_right _ (List.mem_append_right _ (List.mem_append_right _ (List.mem_of_getElem? (i := 89) rfl)))))
set_option maxRecDepth 100000 in
theorem lm_749 : Cond.methodLink RL 87 yX10_order ∈ lw_tbl := List.mem_append_right _ (List.mem_append_right _ (List.mem_append_right _ (List.mem_append_right _ (List.mem_append_right _ (List.mem_of_getElem? (i := 88) rfl)))))
set_option maxRecDepth 100000 in
theorem lm_750 : Cond.code yX9_lorriesOutTo cX9_lorriesOutTo 4 (some .int) ∈ lw_tbl := List.mem_append_right _ (List.mem_append_right _ (List.mem_append_right _ (List.mem_append_right _ (List.mem_append_left _ (List.mem_of_getElem? (i := 10) rfl)))))
set_option maxRecDepth 100000 in
theorem lm_751 : Cond.selects RX9 yX9_lorriesOutTo yX9_lorriesOutTo ∈ lw_tbl := List.mem_append_left _ (List.mem_of_getElem? (i := 50) rfl)
set_option maxRecDepth 100000 in
theorem lm_752 : Cond.instanceMethod yX9_lorriesOutTo ∈ lw_tbl := List.mem_append_right _ (List.mem_append_right _ (List.mem_append_right _ (List.mem_append_right _ (List.mem_append_left _ (List.mem_of_getElem? (i := 9) rfl)))))
set_option maxRecDepth 100000 in
theorem lm_753 : Cond.methodLink RX9 227 yX9_lorriesOutTo ∈ lw_tbl := List.mem_append_right _ (List.mem_append_right _ (List.mem_append_right _ (List.mem_append_right _ (List.mem_append_left _ (List.mem_of_getElem? (i := 7) rfl)))))
set_option maxRecDepth 100000 in
theorem lm_754 : Cond.code yX9_fieldOf cX9_fieldOf 4 (some .int) ∈ lw_tbl := List.mem_append_right _ (List.mem_append_right _ (List.mem_append_right _ (List.mem_append_right _ (List.mem_append_left _ (List.mem_of_getElem? (i := 6) rfl)))))
set_option maxRecDepth 100000 in
theorem lm_755 : Cond.selects RX9 yX9_fieldOf yX9_fieldOf ∈ lw_tbl := List.mem_append_right _ (List.mem_append_right _ (List.mem_append_right _ (List.mem_append_right _ (List.mem_append_left _ (List.mem_of_getElem? (i := 5) rfl)))))
set_option maxRecDepth 100000 in
theorem lm_756 : Cond.instanceMethod yX9_fieldOf ∈ lw_tbl := List.mem_append_right _ (List.mem_append_right _ (List.mem_append_right _ (List.mem_append_right _ (List.mem_append_left _ (List.mem_of_getElem? (i := 4) rfl)))))
set_option maxRecDepth 100000 in
theorem lm_757 : Cond.methodLink RL 88 yX9_fieldOf ∈ lw_tbl := List.mem_append_right _ (List.mem_append_right _ (List.mem_append_right _ (List.mem_append_right _ (List.mem_append_left _ (List.mem_of_getElem? (i := 3) rfl)))))
set_option maxRecDepth 100000 in
theorem lm_758 : Cond.code yX10_fieldOf cX10_fieldOf 5 (some .int) ∈ lw_tbl := List.mem_append_right _ (List.mem_append_right _ (List.mem_append_right _ (List.mem_append_right _ (List.mem_append_right _ (List.mem_of_getElem? (i := 95) rfl)))))
set_option maxRecDepth 100000 in
theorem lm_759 : Cond.selects RX10 yX10_fieldOf yX10_fieldOf ∈ lw_tbl := List.mem_append_right _ (List.mem_append_right _ (List.mem_append_right _ (List.mem_append_right _ (List.mem_append_right _ (List.mem_of_getElem? (i := 94) rfl)))))
set_option maxRecDepth 100000 in
theorem lm_760 : Cond.instanceMethod yX10_fieldOf ∈ lw_tbl := List.mem_append_right _ (List.mem_append_right _ (List.mem_append_right _ (List.mem_append_right _ (List.mem_append_right _ (List.mem_of_getElem? (i := 93) rfl)))))
set_option maxRecDepth 100000 in
theorem lm_761 : Cond.methodLink RL 91 yX10_fieldOf ∈ lw_tbl := List.mem_append_right _ (List.mem_append_right _ (List.mem_append_right _ (List.mem_append_right _ (List.mem_append_right _ (List.mem_of_getElem? (i := 92) rfl)))))
set_option maxRecDepth 100000 in
theorem lm_762 : Cond.code yX9_lorryOf cX9_lorryOf 4 (some .int) ∈ lw_tbl := List.mem_append_right _ (List.mem_append_right _ (List.mem_append_right _ (List.mem_append_right _ (List.mem_append_left _ (List.mem_of_getElem? (i := 14) rfl)))))
set_option maxRecDepth 100000 in
theorem lm_763 : Cond.selects RX9 yX9_lorryOf yX9_lorryOf ∈ lw_tbl := List.mem_append_right _ (List.mem_append_right _ (List.mem_append_right _ (List.mem_append_right _ (List.mem_append_left _ (List.mem_of_getElem? (i := 13) rfl)))))
set_option maxRecDepth 100000 in
theorem lm_764 : Cond.instanceMethod yX9_lorryOf ∈ lw_tbl := List.mem_append_right _ (List.mem_append_right _ (List.mem_append_right _ (List.mem_append_right _ (List.mem_append_left _ (List.mem_of_getElem? (i := 12) rfl)))))
set_option maxRecDepth 100000 in
theorem lm_765 : Cond.methodLink RL 92 yX9_lorryOf ∈ lw_tbl := List.mem_append_right _ (List.mem_append_right _ (List.mem_append_right _ (List.mem_append_right _ (List.mem_append_left _ (List.mem_of_getElem? (i := 11) rfl)))))
set_option maxRecDepth 100000 in
theorem lm_766 : Cond.code yX10_lorryOf cX10_lorryOf 3 (some .int) ∈ lw_tbl := List.mem_append_right _ (List.mem_append_right _ (List.mem_append_right _ (List.mem_append_right _ (List.mem_append_right _ (List.mem_of_getElem? (i := 99) rfl)))))
set_option maxRecDepth 100000 in
theorem lm_767 : Cond.selects RX10 yX10_lorryOf yX10_lorryOf ∈ lw_tbl := List.mem_append_right _ (List.mem_append_right _ (List.mem_append_right _ (List.mem_append_right _ (List.mem_append_right _ (List.mem_of_getElem? (i := 98) rfl)))))
set_option maxRecDepth 100000 in
theorem lm_768 : Cond.instanceMethod yX10_lorryOf ∈ lw_tbl := List.mem_append_right _ (List.mem_append_right _ (List.mem_append_right _ (List.mem_append_right _ (List.mem_append_right _ (List.mem_of_getElem? (i := 97) rfl)))))
set_option maxRecDepth 100000 in
theorem lm_769 : Cond.methodLink RL 95 yX10_lorryOf ∈ lw_tbl := List.mem_append_right _ (List.mem_append_right _ (List.mem_append_right _ (List.mem_append_right _ (List.mem_append_right _ (List.mem_of_getElem? (i := 96) rfl)))))
set_option maxRecDepth 100000 in
theorem lm_770 : Cond.code yX9_load cX9_load 4 (some .int) ∈ lw_tbl := List.mem_append_right _ (List.mem_append_right _ (List.mem_append_right _ (List.mem_append_right _ (List.mem_append_left _ (List.mem_of_getElem? (i := 18) rfl)))))
set_option maxRecDepth 100000 in
theorem lm_771 : Cond.selects RX9 yX9_load yX9_load ∈ lw_tbl := List.mem_append_right _ (List.mem_append_right _ (List.mem_append_right _ (List.mem_append_right _ (List.mem_append_left _ (List.mem_of_getElem? (i := 17) rfl)))))
set_option maxRecDepth 100000 in
theorem lm_772 : Cond.instanceMethod yX9_load ∈ lw_tbl := List.mem_append_right _ (List.mem_append_right _ (List.mem_append_right _ (List.mem_append_right _ (List.mem_append_left _ (List.mem_of_getElem? (i := 16) rfl)))))
set_option maxRecDepth 100000 in
theorem lm_773 : Cond.methodLink RL 96 yX9_load ∈ lw_tbl := List.mem_append_right _ (List.mem_append_right _ (List.mem_append_right _ (List.mem_append_right _ (List.mem_append_left _ (List.mem_of_getElem? (i := 15) rfl)))))
set_option maxRecDepth 100000 in
theorem lm_774 : Cond.code yX10_load cX10_load 3 (some .int) ∈ lw_tbl := List.mem_append_right _ (List.mem_append_right _ (List.mem_append_right _ (List.mem_append_right _ (List.mem_append_right _ (List.mem_of_getElem? (i := 103) rfl)))))
set_option maxRecDepth 100000 in
theorem lm_775 : Cond.selects RX10 yX10_load yX10_load ∈ lw_tbl := List.mem_append_right _ (List.mem_append_right _ (List.mem_append_right _ (List.mem_append_right _ (List.mem_append_right _ (List.mem_of_getElem? (i := 102) rfl)))))
set_option maxRecDepth 100000 in
theorem lm_776 : Cond.instanceMethod yX10_load ∈ lw_tbl := List.mem_append_right _ (List.mem_append_right _ (List.mem_append_right _ (List.mem_append_right _ (List.mem_append_right _ (List.mem_of_getElem? (i := 101) rfl)))))
set_option maxRecDepth 100000 in
theorem lm_777 : Cond.methodLink RL 99 yX10_load ∈ lw_tbl := List.mem_append_right _ (List.mem_append_right _ (List.mem_append_right _ (List.mem_append_right _ (List.mem_append_right _ (List.mem_of_getElem? (i := 100) rfl)))))
set_option maxRecDepth 100000 in
theorem lm_778 : Cond.code yX9_coins cX9_coins 3 (some .int) ∈ lw_tbl := List.mem_append_right _ (List.mem_append_right _ (List.mem_append_right _ (List.mem_append_right _ (List.mem_append_left _ (List.mem_of_getElem? (i := 22) rfl)))))
set_option maxRecDepth 100000 in
theorem lm_779 : Cond.selects RX9 yX9_coins yX9_coins ∈ lw_tbl := List.mem_append_right _ (List.mem_append_right _ (List.mem_append_right _ (List.mem_append_right _ (List.mem_append_left _ (List.mem_of_getElem? (i := 21) rfl)))))
set_option maxRecDepth 100000 in
theorem lm_780 : Cond.instanceMethod yX9_coins ∈ lw_tbl := List.mem_append_right _ (List.mem_append_right _ (List.mem_append_right _ (List.mem_append_right _ (List.mem_append_left _ (List.mem_of_getElem? (i := 20) rfl)))))
set_option maxRecDepth 100000 in
theorem lm_781 : Cond.methodLink RL 100 yX9_coins ∈ lw_tbl := List.mem_append_right _ (List.mem_append_right _ (List.mem_append_right _ (List.mem_append_right _ (List.mem_append_left _ (List.mem_of_getElem? (i := 19) rfl)))))
set_option maxRecDepth 100000 in
theorem lm_782 : Cond.code yX10_coins cX10_coins 2 (some .int) ∈ lw_tbl := List.mem_append_right _ (List.mem_append_right _ (List.mem_append_right _ (List.mem_append_right _ (List.mem_append_right _ (List.mem_of_getElem? (i := 107) rfl)))))
set_option maxRecDepth 100000 in
theorem lm_783 : Cond.selects RX10 yX10_coins yX10_coins ∈ lw_tbl := List.mem_append_right _ (List.mem_append_right _ (List.mem_append_right _ (List.mem_append_right _ (List.mem_append_right _ (List.mem_of_getElem? (i := 106) rfl)))))
set_option maxRecDepth 100000 in
theorem lm_784 : Cond.instanceMethod yX10_coins ∈ lw_tbl := List.mem_append_right _ (List.mem_append_right _ (List.mem_append_right _ (List.mem_append_right _ (List.mem_append_right _ (List.mem_of_getElem? (i := 105) rfl)))))
set_option maxRecDepth 100000 in
theorem lm_785 : Cond.methodLink RL 103 yX10_coins ∈ lw_tbl := List.mem_append_right _ (List.mem_append_right _ (List.mem_append_right _ (List.mem_append_right _ (List.mem_append_right _ (List.mem_of_getElem? (i := 104) rfl)))))
set_option maxRecDepth 100000 in
theorem lm_786 : Cond.code yX9_spoiledOfAll cX9_spoiledOfAll 3 (some .int) ∈ lw_tbl := List.mem_append_right _ (List.mem_append_right _ (List.mem_append_right _ (List.mem_append_right _ (List.mem_append_left _ (List.mem_of_getElem? (i := 34) rfl)))))
set_option maxRecDepth 100000 in
theorem lm_787 : Cond.selects RX9 yX9_spoiledOfAll yX9_spoiledOfAll ∈ lw_tbl := List.mem_append_left _ (List.mem_of_getElem? (i := 52) rfl)
set_option maxRecDepth 100000 in
theorem lm_788 : Cond.instanceMethod yX9_spoiledOfAll ∈ lw_tbl := List.mem_append_right _ (List.mem_append_right _ (List.mem_append_right _ (List.mem_append_right _ (List.mem_append_left _ (List.mem_of_getElem? (i := 33) rfl)))))
set_option maxRecDepth 100000 in
theorem lm_789 : Cond.methodLink RX9 264 yX9_spoiledOfAll ∈ lw_tbl := List.mem_append_right _ (List.mem_append_right _ (List.mem_append_right _ (List.mem_append_right _ (List.mem_append_left _ (List.mem_of_getElem? (i := 31) rfl)))))
set_option maxRecDepth 100000 in
theorem lm_790 : Cond.code yX9_wasteOfAll cX9_wasteOfAll 3 (some .int) ∈ lw_tbl := List.mem_append_right _ (List.mem_append_right _ (List.mem_append_right _ (List.mem_append_right _ (List.mem_append_left _ (List.mem_of_getElem? (i := 30) rfl)))))
set_option maxRecDepth 100000 in
theorem lm_791 : Cond.selects RX9 yX9_wasteOfAll yX9_wasteOfAll ∈ lw_tbl := List.mem_append_left _ (List.mem_of_getElem? (i := 51) rfl)
set_option maxRecDepth 100000 in
theorem lm_792 : Cond.instanceMethod yX9_wasteOfAll ∈ lw_tbl := List.mem_append_right _ (List.mem_append_right _ (List.mem_append_right _ (List.mem_append_right _ (List.mem_append_left _ (List.mem_of_getElem? (i := 29) rfl)))))
set_option maxRecDepth 100000 in
theorem lm_793 : Cond.methodLink RX9 261 yX9_wasteOfAll ∈ lw_tbl := List.mem_append_right _ (List.mem_append_right _ (List.mem_append_right _ (List.mem_append_right _ (List.mem_append_left _ (List.mem_of_getElem? (i := 27) rfl)))))
set_option maxRecDepth 100000 in
theorem lm_794 : Cond.code yX9_count cX9_count 2 (some .int) ∈ lw_tbl := List.mem_append_right _ (List.mem_append_right _ (List.mem_append_right _ (List.mem_append_right _ (List.mem_append_left _ (List.mem_of_getElem? (i := 26) rfl)))))
set_option maxRecDepth 100000 in
theorem lm_795 : Cond.selects RX9 yX9_count yX9_count ∈ lw_tbl := List.mem_append_right _ (List.mem_append_right _ (List.mem_append_right _ (List.mem_append_right _ (List.mem_append_left _ (List.mem_of_getElem? (i := 25) rfl)))))
set_option maxRecDepth 100000 in
theorem lm_796 : Cond.instanceMethod yX9_count ∈ lw_tbl := List.mem_append_right _ (List.mem_append_right _ (List.mem_append_right _ (List.mem_append_right _ (List.mem_append_left _ (List.mem_of_getElem? (i := 24) rfl)))))
set_option maxRecDepth 100000 in
theorem lm_797 : Cond.methodLink RL 104 yX9_count ∈ lw_tbl := List.mem_append_right _ (List.mem_append_right _ (List.mem_append_right _ (List.mem_append_right _ (List.mem_append_left _ (List.mem_of_getElem? (i := 23) rfl)))))
set_option maxRecDepth 100000 in
theorem lm_798 : Cond.code yX10_count cX10_count 2 (some .int) ∈ lw_tbl := List.mem_append_right _ (List.mem_append_right _ (List.mem_append_right _ (List.mem_append_right _ (List.mem_append_right _ (List.mem_of_getElem? (i := 111) rfl)))))
set_option maxRecDepth 100000 in
theorem lm_799 : Cond.selects RX10 yX10_count yX10_count ∈ lw_tbl := List.mem_append_right _ (List.mem_append_right _ (List.mem_append_right _ (List.mem_append_right _ (List.mem_append_right _ (List.mem_of_getElem? (i := 110) rfl)))))
set_option maxRecDepth 100000 in
theorem lm_800 : Cond.instanceMethod yX10_count ∈ lw_tbl := List.mem_append_right _ (List.mem_append_right _ (List.mem_append_right _ (List.mem_append_right _ (List.mem_append_right _ (List.mem_of_getElem? (i := 109) rfl)))))
set_option maxRecDepth 100000 in
theorem lm_801 : Cond.methodLink RL 107 yX10_count ∈ lw_tbl := List.mem_append_right _ (List.mem_append_right _ (List.mem_append_right _ (List.mem_append_right _ (List.mem_append_right _ (List.mem_of_getElem? (i := 108) rfl)))))
set_option maxRecDepth 100000 in
theorem lm_802 : Cond.code yX6_thaw cX6_thaw 3 (some .boolean) ∈ lw_tbl := List.mem_append_right _ (List.mem_append_right _ (List.mem_append_right _ (List.mem_append_left _ (List.mem_of_getElem? (i := 45) rfl))))
set_option maxRecDepth 100000 in
theorem lm_803 : Cond.selects RX6 yX6_thaw yX6_thaw ∈ lw_tbl := List.mem_append_left _ (List.mem_of_getElem? (i := 17) rfl)
set_option maxRecDepth 100000 in
theorem lm_804 : Cond.instanceMethod yX6_thaw ∈ lw_tbl := List.mem_append_right _ (List.mem_append_right _ (List.mem_append_right _ (List.mem_append_left _ (List.mem_of_getElem? (i := 44) rfl))))
set_option maxRecDepth 100000 in
theorem lm_805 : Cond.code yX6_freeze cX6_freeze 1 (some .boolean) ∈ lw_tbl := List.mem_append_right _ (List.mem_append_right _ (List.mem_append_right _ (List.mem_append_left _ (List.mem_of_getElem? (i := 41) rfl))))
set_option maxRecDepth 100000 in
theorem lm_806 : Cond.selects RX6 yX6_freeze yX6_freeze ∈ lw_tbl := List.mem_append_left _ (List.mem_of_getElem? (i := 16) rfl)
set_option maxRecDepth 100000 in
theorem lm_807 : Cond.instanceMethod yX6_freeze ∈ lw_tbl := List.mem_append_right _ (List.mem_append_right _ (List.mem_append_right _ (List.mem_append_left _ (List.mem_of_getElem? (i := 40) rfl))))
set_option maxRecDepth 100000 in
theorem lm_808 : Cond.code yX9_frost cX9_frost 5 (some .int) ∈ lw_tbl := List.mem_append_right _ (List.mem_append_right _ (List.mem_append_right _ (List.mem_append_left _ (List.mem_of_getElem? (i := 37) rfl))))
set_option maxRecDepth 100000 in
theorem lm_809 : Cond.selects RX9 yX9_frost yX9_frost ∈ lw_tbl := List.mem_append_right _ (List.mem_append_right _ (List.mem_append_right _ (List.mem_append_left _ (List.mem_of_getElem? (i := 36) rfl))))
set_option maxRecDepth 100000 in
theorem lm_810 : Cond.instanceMethod yX9_frost ∈ lw_tbl := List.mem_append_right _ (List.mem_append_right _ (List.mem_append_right _ (List.mem_append_left _ (List.mem_of_getElem? (i := 35) rfl))))
set_option maxRecDepth 100000 in
theorem lm_811 : Cond.methodLink RL 63 yX9_frost ∈ lw_tbl := List.mem_append_right _ (List.mem_append_right _ (List.mem_append_right _ (List.mem_append_left _ (List.mem_of_getElem? (i := 34) rfl))))
set_option maxRecDepth 100000 in
theorem lm_812 : Cond.fieldLink RX6 40 "BeetHouse$Plot" "farmer" "LBeetHouse$Farmer;" ∈ lw_tbl := List.mem_append_right _ (List.mem_append_right _ (List.mem_append_left _ (List.mem_of_getElem? (i := 24) rfl)))
set_option maxRecDepth 100000 in
theorem lm_813 : Cond.fieldLink RX6 37 "BeetHouse$Plot" "number" "I" ∈ lw_tbl := List.mem_append_right _ (List.mem_append_right _ (List.mem_append_left _ (List.mem_of_getElem? (i := 21) rfl)))
set_option maxRecDepth 100000 in
theorem lm_814 : Cond.fieldLink RX6 34 "BeetHouse$Plot" "came" "I" ∈ lw_tbl := List.mem_append_right _ (List.mem_append_right _ (List.mem_append_left _ (List.mem_of_getElem? (i := 50) rfl)))
set_option maxRecDepth 100000 in
theorem lm_815 : Cond.methodLink RX6 3 objectInit ∈ lw_tbl := List.mem_append_right _ (List.mem_append_right _ (List.mem_append_left _ (List.mem_of_getElem? (i := 20) rfl)))
set_option maxRecDepth 100000 in
theorem lm_816 : Cond.code yX6_init cX6_init 7 none ∈ lw_tbl := List.mem_append_right _ (List.mem_append_right _ (List.mem_append_left _ (List.mem_of_getElem? (i := 19) rfl)))
set_option maxRecDepth 100000 in
theorem lm_817 : Cond.instanceMethod yX6_init ∈ lw_tbl := List.mem_append_right _ (List.mem_append_right _ (List.mem_append_left _ (List.mem_of_getElem? (i := 18) rfl)))
set_option maxRecDepth 100000 in
theorem lm_818 : Cond.instantiable RX6 14 ∈ lw_tbl := List.mem_append_right _ (List.mem_append_right _ (List.mem_append_left _ (List.mem_of_getElem? (i := 16) rfl)))
set_option maxRecDepth 100000 in
theorem lm_819 : Cond.code yX9_field cX9_field 8 (some .int) ∈ lw_tbl := List.mem_append_right _ (List.mem_append_right _ (List.mem_append_left _ (List.mem_of_getElem? (i := 10) rfl)))
set_option maxRecDepth 100000 in
theorem lm_820 : Cond.selects RX9 yX9_field yX9_field ∈ lw_tbl := List.mem_append_right _ (List.mem_append_right _ (List.mem_append_left _ (List.mem_of_getElem? (i := 9) rfl)))
set_option maxRecDepth 100000 in
theorem lm_821 : Cond.instanceMethod yX9_field ∈ lw_tbl := List.mem_append_right _ (List.mem_append_right _ (List.mem_append_left _ (List.mem_of_getElem? (i := 8) rfl)))
set_option maxRecDepth 100000 in
theorem lm_822 : Cond.methodLink RL 18 yX9_field ∈ lw_tbl := List.mem_append_right _ (List.mem_append_right _ (List.mem_append_left _ (List.mem_of_getElem? (i := 7) rfl)))
set_option maxRecDepth 100000 in
theorem lm_823 : Cond.code yX10_field cX10_field 7 (some .int) ∈ lw_tbl := List.mem_append_right _ (List.mem_append_right _ (List.mem_append_right _ (List.mem_append_right _ (List.mem_append_left _ (List.mem_of_getElem? (i := 204) rfl)))))
set_option maxRecDepth 100000 in
theorem lm_824 : Cond.selects RX10 yX10_field yX10_field ∈ lw_tbl := List.mem_append_right _ (List.mem_append_right _ (List.mem_append_right _ (List.mem_append_right _ (List.mem_append_left _ (List.mem_of_getElem? (i := 203) rfl)))))
set_option maxRecDepth 100000 in
theorem lm_825 : Cond.instanceMethod yX10_field ∈ lw_tbl := List.mem_append_right _ (List.mem_append_right _ (List.mem_append_right _ (List.mem_append_right _ (List.mem_append_left _ (List.mem_of_getElem? (i := 202) rfl)))))
set_option maxRecDepth 100000 in
theorem lm_826 : Cond.methodLink RL 22 yX10_field ∈ lw_tbl := List.mem_append_right _ (List.mem_append_right _ (List.mem_append_right _ (List.mem_append_right _ (List.mem_append_left _ (List.mem_of_getElem? (i := 201) rfl)))))
set_option maxRecDepth 100000 in
theorem lm_827 : Cond.code yX10_frost cX10_frost 4 (some .int) ∈ lw_tbl := List.mem_append_right _ (List.mem_append_right _ (List.mem_append_right _ (List.mem_append_right _ (List.mem_append_right _ (List.mem_of_getElem? (i := 28) rfl)))))
set_option maxRecDepth 100000 in
theorem lm_828 : Cond.selects RX10 yX10_frost yX10_frost ∈ lw_tbl := List.mem_append_right _ (List.mem_append_right _ (List.mem_append_right _ (List.mem_append_right _ (List.mem_append_right _ (List.mem_of_getElem? (i := 27) rfl)))))
set_option maxRecDepth 100000 in
theorem lm_829 : Cond.instanceMethod yX10_frost ∈ lw_tbl := List.mem_append_right _ (List.mem_append_right _ (List.mem_append_right _ (List.mem_append_right _ (List.mem_append_right _ (List.mem_of_getElem? (i := 26) rfl)))))
set_option maxRecDepth 100000 in
theorem lm_830 : Cond.methodLink RL 67 yX10_frost ∈ lw_tbl := List.mem_append_right _ (List.mem_append_right _ (List.mem_append_right _ (List.mem_append_right _ (List.mem_append_right _ (List.mem_of_getElem? (i := 25) rfl)))))
set_option maxRecDepth 100000 in
theorem lm_831 : Cond.code yX9_cover cX9_cover 4 (some .int) ∈ lw_tbl := List.mem_append_right _ (List.mem_append_right _ (List.mem_append_right _ (List.mem_append_left _ (List.mem_of_getElem? (i := 33) rfl))))
set_option maxRecDepth 100000 in
theorem lm_832 : Cond.selects RX9 yX9_cover yX9_cover ∈ lw_tbl := List.mem_append_right _ (List.mem_append_right _ (List.mem_append_right _ (List.mem_append_left _ (List.mem_of_getElem? (i := 32) rfl))))
set_option maxRecDepth 100000 in
theorem lm_833 : Cond.instanceMethod yX9_cover ∈ lw_tbl := List.mem_append_right _ (List.mem_append_right _ (List.mem_append_right _ (List.mem_append_left _ (List.mem_of_getElem? (i := 31) rfl))))
set_option maxRecDepth 100000 in
theorem lm_834 : Cond.methodLink RL 58 yX9_cover ∈ lw_tbl := List.mem_append_right _ (List.mem_append_right _ (List.mem_append_right _ (List.mem_append_left _ (List.mem_of_getElem? (i := 30) rfl))))
set_option maxRecDepth 100000 in
theorem lm_835 : Cond.code yX10_cover cX10_cover 3 (some .int) ∈ lw_tbl := List.mem_append_right _ (List.mem_append_right _ (List.mem_append_right _ (List.mem_append_right _ (List.mem_append_right _ (List.mem_of_getElem? (i := 24) rfl)))))
set_option maxRecDepth 100000 in
theorem lm_836 : Cond.selects RX10 yX10_cover yX10_cover ∈ lw_tbl := List.mem_append_right _ (List.mem_append_right _ (List.mem_append_right _ (List.mem_append_right _ (List.mem_append_right _ (List.mem_of_getElem? (i := 23) rfl)))))
set_option maxRecDepth 100000 in
theorem lm_837 : Cond.instanceMethod yX10_cover ∈ lw_tbl := List.mem_append_right _ (List.mem_append_right _ (List.mem_append_right _ (List.mem_append_right _ (List.mem_append_right _ (List.mem_of_getElem? (i := 22) rfl)))))
set_option maxRecDepth 100000 in
theorem lm_838 : Cond.methodLink RL 62 yX10_cover ∈ lw_tbl := List.mem_append_right _ (List.mem_append_right _ (List.mem_append_right _ (List.mem_append_right _ (List.mem_append_right _ (List.mem_of_getElem? (i := 21) rfl)))))
