/-! BeetHouseModel.<init>()V -/
theorem hi_X10_init_X10 : ∀ w ∈ u_ws RX10 TX10 49, w ∈ wsX10_init := fun _ h => (List.mem_cons_of_mem _ (List.mem_append_right _ h))
set_option maxRecDepth 100000 in
theorem fl_X10_init_7 : bh_fl wsX10_init yX10_init.cls 7 "BeetHouseModel" "refusals" "[I" := Or.inl (List.mem_of_getElem? (i := 5) rfl)
set_option maxRecDepth 100000 in
theorem fl_X10_init_13 : bh_fl wsX10_init yX10_init.cls 13 "BeetHouseModel" "shares" "[I" := Or.inl (List.mem_of_getElem? (i := 6) rfl)
set_option maxRecDepth 100000 in
theorem fl_X10_init_16 : bh_fl wsX10_init yX10_init.cls 16 "BeetHouseModel" "coins" "[I" := Or.inl (List.mem_of_getElem? (i := 7) rfl)
set_option maxRecDepth 100000 in
theorem fl_X10_init_19 : bh_fl wsX10_init yX10_init.cls 19 "BeetHouseModel" "warmths" "[I" := Or.inl (List.mem_of_getElem? (i := 8) rfl)
set_option maxRecDepth 100000 in
theorem fl_X10_init_22 : bh_fl wsX10_init yX10_init.cls 22 "BeetHouseModel" "tables" "[I" := Or.inl (List.mem_of_getElem? (i := 9) rfl)
set_option maxRecDepth 100000 in
theorem fl_X10_init_25 : bh_fl wsX10_init yX10_init.cls 25 "BeetHouseModel" "prices" "[I" := Or.inl (List.mem_of_getElem? (i := 10) rfl)
set_option maxRecDepth 100000 in
theorem fl_X10_init_28 : bh_fl wsX10_init yX10_init.cls 28 "BeetHouseModel" "room" "I" := Or.inl (List.mem_of_getElem? (i := 11) rfl)
set_option maxRecDepth 100000 in
theorem fl_X10_init_32 : bh_fl wsX10_init yX10_init.cls 32 "BeetHouseModel" "farmer" "[I" := Or.inl (List.mem_of_getElem? (i := 12) rfl)
set_option maxRecDepth 100000 in
theorem fl_X10_init_35 : bh_fl wsX10_init yX10_init.cls 35 "BeetHouseModel" "ground" "[I" := Or.inl (List.mem_of_getElem? (i := 13) rfl)
set_option maxRecDepth 100000 in
theorem fl_X10_init_38 : bh_fl wsX10_init yX10_init.cls 38 "BeetHouseModel" "sweet" "[I" := Or.inl (List.mem_of_getElem? (i := 14) rfl)
set_option maxRecDepth 100000 in
theorem fl_X10_init_41 : bh_fl wsX10_init yX10_init.cls 41 "BeetHouseModel" "way" "[I" := Or.inl (List.mem_of_getElem? (i := 15) rfl)
set_option maxRecDepth 100000 in
theorem fl_X10_init_44 : bh_fl wsX10_init yX10_init.cls 44 "BeetHouseModel" "roots" "[I" := Or.inl (List.mem_of_getElem? (i := 16) rfl)
set_option maxRecDepth 100000 in
theorem fl_X10_init_47 : bh_fl wsX10_init yX10_init.cls 47 "BeetHouseModel" "sugar" "[I" := Or.inl (List.mem_of_getElem? (i := 17) rfl)
set_option maxRecDepth 100000 in
theorem fl_X10_init_50 : bh_fl wsX10_init yX10_init.cls 50 "BeetHouseModel" "thawed" "[I" := Or.inl (List.mem_of_getElem? (i := 18) rfl)
set_option maxRecDepth 100000 in
theorem fl_X10_init_53 : bh_fl wsX10_init yX10_init.cls 53 "BeetHouseModel" "waste" "[I" := Or.inl (List.mem_of_getElem? (i := 19) rfl)
set_option maxRecDepth 100000 in
theorem fl_X10_init_56 : bh_fl wsX10_init yX10_init.cls 56 "BeetHouseModel" "gone" "[I" := Or.inl (List.mem_of_getElem? (i := 20) rfl)
set_option maxRecDepth 100000 in
theorem fl_X10_init_59 : bh_fl wsX10_init yX10_init.cls 59 "BeetHouseModel" "came" "[I" := Or.inl (List.mem_of_getElem? (i := 21) rfl)
set_option maxRecDepth 100000 in
theorem fl_X10_init_62 : bh_fl wsX10_init yX10_init.cls 62 "BeetHouseModel" "stony" "[Z" := Or.inl (List.mem_of_getElem? (i := 23) rfl)
set_option maxRecDepth 100000 in
theorem fl_X10_init_66 : bh_fl wsX10_init yX10_init.cls 66 "BeetHouseModel" "covered" "[Z" := Or.inl (List.mem_of_getElem? (i := 24) rfl)
set_option maxRecDepth 100000 in
theorem fl_X10_init_69 : bh_fl wsX10_init yX10_init.cls 69 "BeetHouseModel" "frozen" "[Z" := Or.inl (List.mem_of_getElem? (i := 25) rfl)
set_option maxRecDepth 100000 in
theorem fl_X10_init_72 : bh_fl wsX10_init yX10_init.cls 72 "BeetHouseModel" "gangRate" "[I" := Or.inl (List.mem_of_getElem? (i := 26) rfl)
set_option maxRecDepth 100000 in
theorem fl_X10_init_75 : bh_fl wsX10_init yX10_init.cls 75 "BeetHouseModel" "gangField" "[I" := Or.inl (List.mem_of_getElem? (i := 27) rfl)
set_option maxRecDepth 100000 in
theorem fl_X10_init_78 : bh_fl wsX10_init yX10_init.cls 78 "BeetHouseModel" "size" "[I" := Or.inl (List.mem_of_getElem? (i := 28) rfl)
set_option maxRecDepth 100000 in
theorem fl_X10_init_81 : bh_fl wsX10_init yX10_init.cls 81 "BeetHouseModel" "does" "[I" := Or.inl (List.mem_of_getElem? (i := 29) rfl)
set_option maxRecDepth 100000 in
theorem fl_X10_init_84 : bh_fl wsX10_init yX10_init.cls 84 "BeetHouseModel" "to" "[I" := Or.inl (List.mem_of_getElem? (i := 30) rfl)
set_option maxRecDepth 100000 in
theorem fl_X10_init_87 : bh_fl wsX10_init yX10_init.cls 87 "BeetHouseModel" "there" "[I" := Or.inl (List.mem_of_getElem? (i := 31) rfl)
set_option maxRecDepth 100000 in
theorem fl_X10_init_90 : bh_fl wsX10_init yX10_init.cls 90 "BeetHouseModel" "has" "[I" := Or.inl (List.mem_of_getElem? (i := 32) rfl)
set_option maxRecDepth 100000 in
theorem fl_X10_init_93 : bh_fl wsX10_init yX10_init.cls 93 "BeetHouseModel" "hasSugar" "[I" := Or.inl (List.mem_of_getElem? (i := 33) rfl)
set_option maxRecDepth 100000 in
theorem fl_X10_init_96 : bh_fl wsX10_init yX10_init.cls 96 "BeetHouseModel" "drowned" "[I" := Or.inl (List.mem_of_getElem? (i := 34) rfl)
set_option maxRecDepth 100000 in
theorem fl_X10_init_99 : bh_fl wsX10_init yX10_init.cls 99 "BeetHouseModel" "brought" "[I" := Or.inl (List.mem_of_getElem? (i := 35) rfl)
set_option maxRecDepth 100000 in
theorem fl_X10_init_102 : bh_fl wsX10_init yX10_init.cls 102 "BeetHouseModel" "loadField" "[I" := Or.inl (List.mem_of_getElem? (i := 36) rfl)
set_option maxRecDepth 100000 in
theorem fl_X10_init_105 : bh_fl wsX10_init yX10_init.cls 105 "BeetHouseModel" "loadRoots" "[I" := Or.inl (List.mem_of_getElem? (i := 37) rfl)
set_option maxRecDepth 100000 in
theorem fl_X10_init_108 : bh_fl wsX10_init yX10_init.cls 108 "BeetHouseModel" "loadSugar" "[I" := Or.inl (List.mem_of_getElem? (i := 38) rfl)
set_option maxRecDepth 100000 in
theorem fl_X10_init_111 : bh_fl wsX10_init yX10_init.cls 111 "BeetHouseModel" "heap" "[I" := Or.inl (List.mem_of_getElem? (i := 39) rfl)
set_option maxRecDepth 100000 in
theorem fl_X10_init_114 : bh_fl wsX10_init yX10_init.cls 114 "BeetHouseModel" "lasts" "[I" := Or.inl (List.mem_of_getElem? (i := 40) rfl)
set_option maxRecDepth 100000 in
theorem fl_X10_init_117 : bh_fl wsX10_init yX10_init.cls 117 "BeetHouseModel" "least" "[I" := Or.inl (List.mem_of_getElem? (i := 41) rfl)
def f_X10_init_b311 (N : Nat) : Nat → Nat → Int32 → bh_S → Option (Unit × bh_S)
  | 0, _, _, _ => none
  | n + 1, this, x1, σ =>
    if 100 ≤ x1 then
      some ((), σ)
    else
      (bh_rdR σ 11 this 3).bind fun v2 =>
      (v2).bind fun a4 =>
      (bh_stI σ 12 a4 x1 5).bind fun σ6 =>
      f_X10_init_b311 N n this (x1 + 1) σ6
set_option maxHeartbeats 4000000 in
set_option maxRecDepth 100000 in
theorem j_X10_init_b311 (X : bh_X) (N : Nat) : ∀ (n : Nat) (this : Nat) (x1 : Int32) (σ : bh_S), bh_J eU yX10_init cX10_init wsX10_init none 2 1 12 X σ 311 [(0, .ref this), (1, .int x1)] [] (f_X10_init_b311 N n this x1 σ) := by
  intro n
  induction n with
  | zero => intro this x1 σ; exact bj_none
  | succ n ih =>
    intro this x1 σ
    unfold f_X10_init_b311
    refine bj_iload_n dX10_init_311 rfl 1 rfl ?_
    refine bj_bipush (v := 100) dX10_init_312 (by decide) ?_
    refine bj_icmp_ge (tgt := 330) dX10_init_314 (by decide) (fun h1 => ?_) (fun h1 => ?_)
    · exact bj_vret dX10_init_330
    · refine bj_aload_nS dX10_init_317 rfl 0 rfl ?_
      refine bj_getR (ci := 11) (k := 3) (C := RX10) (T := TX10) (N := 49) rfl hi_X10_init_X10 (by decide) rfl fl_X10_init_19 (Or.inl rfl) dX10_init_318 (fun v2 h3 => ?_)
      refine bj_iload_n dX10_init_321 rfl 1 rfl ?_
      refine bj_iconst (v := 5) dX10_init_322 (by decide) ?_
      refine bj_nn (fun a4 h5 => ?_)
      subst h5
      refine bj_iast dX10_init_323 (fun σ6 h7 => ?_)
      refine bj_iinc (v := x1 + 1) (lv' := [(1, .int (x1 + 1)), (0, .ref this)]) dX10_init_324 1 rfl rfl (by decide) rfl ?_
      refine bj_goto (tgt := 311) dX10_init_327 (by decide) ?_
      refine bj_sub (lv' := [(0, .ref this), (1, .int (x1 + 1))]) [1, 0] rfl ?_
      exact ih this (x1 + 1) σ6
def f_X10_init (N : Nat) (this : Nat) (σ : bh_S) : Option (Unit × bh_S) :=
  bh_bnd (bh_newA σ 12 7) fun a1 σ2 =>
  (bh_wrR σ2 11 this 0 (some a1)).bind fun σ4 =>
  bh_bnd (bh_newA σ4 12 6) fun a6 σ7 =>
  (bh_wrR σ7 11 this 1 (some a6)).bind fun σ9 =>
  bh_bnd (bh_newA σ9 12 6) fun a11 σ12 =>
  (bh_wrR σ12 11 this 2 (some a11)).bind fun σ14 =>
  bh_bnd (bh_newA σ14 12 100) fun a16 σ17 =>
  (bh_wrR σ17 11 this 3 (some a16)).bind fun σ19 =>
  bh_bnd (bh_newA σ19 12 10) fun a21 σ22 =>
  (bh_wrR σ22 11 this 4 (some a21)).bind fun σ24 =>
  bh_bnd (bh_newA σ24 12 10) fun a26 σ27 =>
  (bh_wrR σ27 11 this 5 (some a26)).bind fun σ29 =>
  (bh_wrI σ29 11 this 9 500).bind fun σ31 =>
  bh_bnd (bh_newA σ31 12 16) fun a33 σ34 =>
  (bh_wrR σ34 11 this 18 (some a33)).bind fun σ36 =>
  bh_bnd (bh_newA σ36 12 16) fun a38 σ39 =>
  (bh_wrR σ39 11 this 19 (some a38)).bind fun σ41 =>
  bh_bnd (bh_newA σ41 12 16) fun a43 σ44 =>
  (bh_wrR σ44 11 this 20 (some a43)).bind fun σ46 =>
  bh_bnd (bh_newA σ46 12 16) fun a48 σ49 =>
  (bh_wrR σ49 11 this 21 (some a48)).bind fun σ51 =>
  bh_bnd (bh_newA σ51 12 16) fun a53 σ54 =>
  (bh_wrR σ54 11 this 22 (some a53)).bind fun σ56 =>
  bh_bnd (bh_newA σ56 12 16) fun a58 σ59 =>
  (bh_wrR σ59 11 this 23 (some a58)).bind fun σ61 =>
  bh_bnd (bh_newA σ61 12 16) fun a63 σ64 =>
  (bh_wrR σ64 11 this 24 (some a63)).bind fun σ66 =>
  bh_bnd (bh_newA σ66 12 16) fun a68 σ69 =>
  (bh_wrR σ69 11 this 25 (some a68)).bind fun σ71 =>
  bh_bnd (bh_newA σ71 12 16) fun a73 σ74 =>
  (bh_wrR σ74 11 this 26 (some a73)).bind fun σ76 =>
  bh_bnd (bh_newA σ76 12 16) fun a78 σ79 =>
  (bh_wrR σ79 11 this 27 (some a78)).bind fun σ81 =>
  bh_bnd (bh_newA σ81 13 16) fun a83 σ84 =>
  (bh_wrR σ84 11 this 28 (some a83)).bind fun σ86 =>
  bh_bnd (bh_newA σ86 13 16) fun a88 σ89 =>
  (bh_wrR σ89 11 this 29 (some a88)).bind fun σ91 =>
  bh_bnd (bh_newA σ91 13 16) fun a93 σ94 =>
  (bh_wrR σ94 11 this 30 (some a93)).bind fun σ96 =>
  bh_bnd (bh_newA σ96 12 4) fun a98 σ99 =>
  (bh_wrR σ99 11 this 31 (some a98)).bind fun σ101 =>
  bh_bnd (bh_newA σ101 12 4) fun a103 σ104 =>
  (bh_stI σ104 12 a103 0 (-1)).bind fun σ106 =>
  (bh_stI σ106 12 a103 1 (-1)).bind fun σ108 =>
  (bh_stI σ108 12 a103 2 (-1)).bind fun σ110 =>
  (bh_stI σ110 12 a103 3 (-1)).bind fun σ112 =>
  (bh_wrR σ112 11 this 32 (some a103)).bind fun σ114 =>
  bh_bnd (bh_newA σ114 12 8) fun a116 σ117 =>
  (bh_wrR σ117 11 this 33 (some a116)).bind fun σ119 =>
  bh_bnd (bh_newA σ119 12 8) fun a121 σ122 =>
  (bh_wrR σ122 11 this 34 (some a121)).bind fun σ124 =>
  bh_bnd (bh_newA σ124 12 8) fun a126 σ127 =>
  (bh_wrR σ127 11 this 35 (some a126)).bind fun σ129 =>
  bh_bnd (bh_newA σ129 12 8) fun a131 σ132 =>
  (bh_wrR σ132 11 this 36 (some a131)).bind fun σ134 =>
  bh_bnd (bh_newA σ134 12 8) fun a136 σ137 =>
  (bh_wrR σ137 11 this 37 (some a136)).bind fun σ139 =>
  bh_bnd (bh_newA σ139 12 8) fun a141 σ142 =>
  (bh_wrR σ142 11 this 38 (some a141)).bind fun σ144 =>
  bh_bnd (bh_newA σ144 12 8) fun a146 σ147 =>
  (bh_wrR σ147 11 this 39 (some a146)).bind fun σ149 =>
  bh_bnd (bh_newA σ149 12 8) fun a151 σ152 =>
  (bh_wrR σ152 11 this 40 (some a151)).bind fun σ154 =>
  bh_bnd (bh_newA σ154 12 3100) fun a156 σ157 =>
  (bh_wrR σ157 11 this 41 (some a156)).bind fun σ159 =>
  bh_bnd (bh_newA σ159 12 3100) fun a161 σ162 =>
  (bh_wrR σ162 11 this 42 (some a161)).bind fun σ164 =>
  bh_bnd (bh_newA σ164 12 3100) fun a166 σ167 =>
  (bh_wrR σ167 11 this 43 (some a166)).bind fun σ169 =>
  bh_bnd (bh_newA σ169 12 8) fun a171 σ172 =>
  (bh_wrR σ172 11 this 45 (some a171)).bind fun σ174 =>
  bh_bnd (bh_newA σ174 12 8) fun a176 σ177 =>
  (bh_wrR σ177 11 this 46 (some a176)).bind fun σ179 =>
  bh_bnd (bh_newA σ179 12 257) fun a181 σ182 =>
  (bh_wrR σ182 11 this 47 (some a181)).bind fun σ184 =>
  f_X10_init_b311 N N this 0 σ184
set_option maxHeartbeats 4000000 in
set_option maxRecDepth 100000 in
theorem c_X10_init (X : bh_X) (N : Nat) (this : Nat) (σ : bh_S) : bh_MX eU X yX10_init wsX10_init 1 12 [.ref this] σ (f_X10_init N this σ) := by
  refine bh_enter (cc := cX10_init) (NL := 2) (ret := none) (by decide) rfl (Nat.le_of_ble_eq_true rfl) (fun X => ?_)
  show bh_J eU yX10_init cX10_init wsX10_init none 2 1 12 X σ 0 [(0, .ref this)] [] _
  unfold f_X10_init
  refine bj_aload_nS dX10_init_0 rfl 0 rfl ?_
  refine bj_objInit (List.mem_of_getElem? (i := 1) rfl) (List.mem_of_getElem? (i := 2) rfl) (List.mem_of_getElem? (i := 3) rfl) (by decide) (Nat.le_of_ble_eq_true rfl) dX10_init_1 ?_
  refine bj_aload_nS dX10_init_4 rfl 0 rfl ?_
  refine bj_bipush (v := 7) dX10_init_5 (by decide) ?_
  refine bj_newi (List.mem_of_getElem? (i := 4) rfl) dX10_init_7 (fun a1 σ2 h3 => ?_)
  refine bj_putR (ci := 11) (k := 0) (C := RX10) (T := TX10) (N := 49) (v := (some a1)) rfl hi_X10_init_X10 (by decide) rfl fl_X10_init_7 (Or.inl rfl) tyX10 tyX10_ok nmX10 (Or.inr ⟨_, rfl⟩) (Or.inr ⟨rfl, rfl, rfl, List.mem_of_getElem? (i := 5) rfl⟩) dX10_init_9 (fun σ4 h5 => ?_)
  refine bj_aload_nS dX10_init_12 rfl 0 rfl ?_
  refine bj_bipush (v := 6) dX10_init_13 (by decide) ?_
  refine bj_newi (List.mem_of_getElem? (i := 4) rfl) dX10_init_15 (fun a6 σ7 h8 => ?_)
  refine bj_putR (ci := 11) (k := 1) (C := RX10) (T := TX10) (N := 49) (v := (some a6)) rfl hi_X10_init_X10 (by decide) rfl fl_X10_init_13 (Or.inl rfl) tyX10 tyX10_ok nmX10 (Or.inr ⟨_, rfl⟩) (Or.inr ⟨rfl, rfl, rfl, List.mem_of_getElem? (i := 6) rfl⟩) dX10_init_17 (fun σ9 h10 => ?_)
  refine bj_aload_nS dX10_init_20 rfl 0 rfl ?_
  refine bj_bipush (v := 6) dX10_init_21 (by decide) ?_
  refine bj_newi (List.mem_of_getElem? (i := 4) rfl) dX10_init_23 (fun a11 σ12 h13 => ?_)
  refine bj_putR (ci := 11) (k := 2) (C := RX10) (T := TX10) (N := 49) (v := (some a11)) rfl hi_X10_init_X10 (by decide) rfl fl_X10_init_16 (Or.inl rfl) tyX10 tyX10_ok nmX10 (Or.inr ⟨_, rfl⟩) (Or.inr ⟨rfl, rfl, rfl, List.mem_of_getElem? (i := 7) rfl⟩) dX10_init_25 (fun σ14 h15 => ?_)
  refine bj_aload_nS dX10_init_28 rfl 0 rfl ?_
  refine bj_bipush (v := 100) dX10_init_29 (by decide) ?_
  refine bj_newi (List.mem_of_getElem? (i := 4) rfl) dX10_init_31 (fun a16 σ17 h18 => ?_)
  refine bj_putR (ci := 11) (k := 3) (C := RX10) (T := TX10) (N := 49) (v := (some a16)) rfl hi_X10_init_X10 (by decide) rfl fl_X10_init_19 (Or.inl rfl) tyX10 tyX10_ok nmX10 (Or.inr ⟨_, rfl⟩) (Or.inr ⟨rfl, rfl, rfl, List.mem_of_getElem? (i := 8) rfl⟩) dX10_init_33 (fun σ19 h20 => ?_)
  refine bj_aload_nS dX10_init_36 rfl 0 rfl ?_
  refine bj_bipush (v := 10) dX10_init_37 (by decide) ?_
  refine bj_newi (List.mem_of_getElem? (i := 4) rfl) dX10_init_39 (fun a21 σ22 h23 => ?_)
  refine bj_putR (ci := 11) (k := 4) (C := RX10) (T := TX10) (N := 49) (v := (some a21)) rfl hi_X10_init_X10 (by decide) rfl fl_X10_init_22 (Or.inl rfl) tyX10 tyX10_ok nmX10 (Or.inr ⟨_, rfl⟩) (Or.inr ⟨rfl, rfl, rfl, List.mem_of_getElem? (i := 9) rfl⟩) dX10_init_41 (fun σ24 h25 => ?_)
  refine bj_aload_nS dX10_init_44 rfl 0 rfl ?_
  refine bj_bipush (v := 10) dX10_init_45 (by decide) ?_
  refine bj_newi (List.mem_of_getElem? (i := 4) rfl) dX10_init_47 (fun a26 σ27 h28 => ?_)
  refine bj_putR (ci := 11) (k := 5) (C := RX10) (T := TX10) (N := 49) (v := (some a26)) rfl hi_X10_init_X10 (by decide) rfl fl_X10_init_25 (Or.inl rfl) tyX10 tyX10_ok nmX10 (Or.inr ⟨_, rfl⟩) (Or.inr ⟨rfl, rfl, rfl, List.mem_of_getElem? (i := 10) rfl⟩) dX10_init_49 (fun σ29 h30 => ?_)
  refine bj_aload_nS dX10_init_52 rfl 0 rfl ?_
  refine bj_sipush (v := 500) dX10_init_53 (by decide) ?_
  refine bj_putI (ci := 11) (k := 9) (C := RX10) (T := TX10) (N := 49) rfl hi_X10_init_X10 (by decide) rfl fl_X10_init_28 (Or.inl rfl) tyX10 tyX10_ok nmX10 rfl (Or.inl rfl) dX10_init_56 (fun σ31 h32 => ?_)
  refine bj_aload_nS dX10_init_59 rfl 0 rfl ?_
  refine bj_bipush (v := 16) dX10_init_60 (by decide) ?_
  refine bj_newi (List.mem_of_getElem? (i := 4) rfl) dX10_init_62 (fun a33 σ34 h35 => ?_)
  refine bj_putR (ci := 11) (k := 18) (C := RX10) (T := TX10) (N := 49) (v := (some a33)) rfl hi_X10_init_X10 (by decide) rfl fl_X10_init_32 (Or.inl rfl) tyX10 tyX10_ok nmX10 (Or.inr ⟨_, rfl⟩) (Or.inr ⟨rfl, rfl, rfl, List.mem_of_getElem? (i := 12) rfl⟩) dX10_init_64 (fun σ36 h37 => ?_)
  refine bj_aload_nS dX10_init_67 rfl 0 rfl ?_
  refine bj_bipush (v := 16) dX10_init_68 (by decide) ?_
  refine bj_newi (List.mem_of_getElem? (i := 4) rfl) dX10_init_70 (fun a38 σ39 h40 => ?_)
  refine bj_putR (ci := 11) (k := 19) (C := RX10) (T := TX10) (N := 49) (v := (some a38)) rfl hi_X10_init_X10 (by decide) rfl fl_X10_init_35 (Or.inl rfl) tyX10 tyX10_ok nmX10 (Or.inr ⟨_, rfl⟩) (Or.inr ⟨rfl, rfl, rfl, List.mem_of_getElem? (i := 13) rfl⟩) dX10_init_72 (fun σ41 h42 => ?_)
  refine bj_aload_nS dX10_init_75 rfl 0 rfl ?_
  refine bj_bipush (v := 16) dX10_init_76 (by decide) ?_
  refine bj_newi (List.mem_of_getElem? (i := 4) rfl) dX10_init_78 (fun a43 σ44 h45 => ?_)
  refine bj_putR (ci := 11) (k := 20) (C := RX10) (T := TX10) (N := 49) (v := (some a43)) rfl hi_X10_init_X10 (by decide) rfl fl_X10_init_38 (Or.inl rfl) tyX10 tyX10_ok nmX10 (Or.inr ⟨_, rfl⟩) (Or.inr ⟨rfl, rfl, rfl, List.mem_of_getElem? (i := 14) rfl⟩) dX10_init_80 (fun σ46 h47 => ?_)
  refine bj_aload_nS dX10_init_83 rfl 0 rfl ?_
  refine bj_bipush (v := 16) dX10_init_84 (by decide) ?_
  refine bj_newi (List.mem_of_getElem? (i := 4) rfl) dX10_init_86 (fun a48 σ49 h50 => ?_)
  refine bj_putR (ci := 11) (k := 21) (C := RX10) (T := TX10) (N := 49) (v := (some a48)) rfl hi_X10_init_X10 (by decide) rfl fl_X10_init_41 (Or.inl rfl) tyX10 tyX10_ok nmX10 (Or.inr ⟨_, rfl⟩) (Or.inr ⟨rfl, rfl, rfl, List.mem_of_getElem? (i := 15) rfl⟩) dX10_init_88 (fun σ51 h52 => ?_)
  refine bj_aload_nS dX10_init_91 rfl 0 rfl ?_
  refine bj_bipush (v := 16) dX10_init_92 (by decide) ?_
  refine bj_newi (List.mem_of_getElem? (i := 4) rfl) dX10_init_94 (fun a53 σ54 h55 => ?_)
  refine bj_putR (ci := 11) (k := 22) (C := RX10) (T := TX10) (N := 49) (v := (some a53)) rfl hi_X10_init_X10 (by decide) rfl fl_X10_init_44 (Or.inl rfl) tyX10 tyX10_ok nmX10 (Or.inr ⟨_, rfl⟩) (Or.inr ⟨rfl, rfl, rfl, List.mem_of_getElem? (i := 16) rfl⟩) dX10_init_96 (fun σ56 h57 => ?_)
  refine bj_aload_nS dX10_init_99 rfl 0 rfl ?_
  refine bj_bipush (v := 16) dX10_init_100 (by decide) ?_
  refine bj_newi (List.mem_of_getElem? (i := 4) rfl) dX10_init_102 (fun a58 σ59 h60 => ?_)
  refine bj_putR (ci := 11) (k := 23) (C := RX10) (T := TX10) (N := 49) (v := (some a58)) rfl hi_X10_init_X10 (by decide) rfl fl_X10_init_47 (Or.inl rfl) tyX10 tyX10_ok nmX10 (Or.inr ⟨_, rfl⟩) (Or.inr ⟨rfl, rfl, rfl, List.mem_of_getElem? (i := 17) rfl⟩) dX10_init_104 (fun σ61 h62 => ?_)
  refine bj_aload_nS dX10_init_107 rfl 0 rfl ?_
  refine bj_bipush (v := 16) dX10_init_108 (by decide) ?_
  refine bj_newi (List.mem_of_getElem? (i := 4) rfl) dX10_init_110 (fun a63 σ64 h65 => ?_)
  refine bj_putR (ci := 11) (k := 24) (C := RX10) (T := TX10) (N := 49) (v := (some a63)) rfl hi_X10_init_X10 (by decide) rfl fl_X10_init_50 (Or.inl rfl) tyX10 tyX10_ok nmX10 (Or.inr ⟨_, rfl⟩) (Or.inr ⟨rfl, rfl, rfl, List.mem_of_getElem? (i := 18) rfl⟩) dX10_init_112 (fun σ66 h67 => ?_)
  refine bj_aload_nS dX10_init_115 rfl 0 rfl ?_
  refine bj_bipush (v := 16) dX10_init_116 (by decide) ?_
  refine bj_newi (List.mem_of_getElem? (i := 4) rfl) dX10_init_118 (fun a68 σ69 h70 => ?_)
  refine bj_putR (ci := 11) (k := 25) (C := RX10) (T := TX10) (N := 49) (v := (some a68)) rfl hi_X10_init_X10 (by decide) rfl fl_X10_init_53 (Or.inl rfl) tyX10 tyX10_ok nmX10 (Or.inr ⟨_, rfl⟩) (Or.inr ⟨rfl, rfl, rfl, List.mem_of_getElem? (i := 19) rfl⟩) dX10_init_120 (fun σ71 h72 => ?_)
  refine bj_aload_nS dX10_init_123 rfl 0 rfl ?_
  refine bj_bipush (v := 16) dX10_init_124 (by decide) ?_
  refine bj_newi (List.mem_of_getElem? (i := 4) rfl) dX10_init_126 (fun a73 σ74 h75 => ?_)
  refine bj_putR (ci := 11) (k := 26) (C := RX10) (T := TX10) (N := 49) (v := (some a73)) rfl hi_X10_init_X10 (by decide) rfl fl_X10_init_56 (Or.inl rfl) tyX10 tyX10_ok nmX10 (Or.inr ⟨_, rfl⟩) (Or.inr ⟨rfl, rfl, rfl, List.mem_of_getElem? (i := 20) rfl⟩) dX10_init_128 (fun σ76 h77 => ?_)
  refine bj_aload_nS dX10_init_131 rfl 0 rfl ?_
  refine bj_bipush (v := 16) dX10_init_132 (by decide) ?_
  refine bj_newi (List.mem_of_getElem? (i := 4) rfl) dX10_init_134 (fun a78 σ79 h80 => ?_)
  refine bj_putR (ci := 11) (k := 27) (C := RX10) (T := TX10) (N := 49) (v := (some a78)) rfl hi_X10_init_X10 (by decide) rfl fl_X10_init_59 (Or.inl rfl) tyX10 tyX10_ok nmX10 (Or.inr ⟨_, rfl⟩) (Or.inr ⟨rfl, rfl, rfl, List.mem_of_getElem? (i := 21) rfl⟩) dX10_init_136 (fun σ81 h82 => ?_)
  refine bj_aload_nS dX10_init_139 rfl 0 rfl ?_
  refine bj_bipush (v := 16) dX10_init_140 (by decide) ?_
  refine bj_newz (List.mem_of_getElem? (i := 22) rfl) dX10_init_142 (fun a83 σ84 h85 => ?_)
  refine bj_putR (ci := 11) (k := 28) (C := RX10) (T := TX10) (N := 49) (v := (some a83)) rfl hi_X10_init_X10 (by decide) rfl fl_X10_init_62 (Or.inl rfl) tyX10 tyX10_ok nmX10 (Or.inr ⟨_, rfl⟩) (Or.inr ⟨rfl, rfl, rfl, List.mem_of_getElem? (i := 23) rfl⟩) dX10_init_144 (fun σ86 h87 => ?_)
  refine bj_aload_nS dX10_init_147 rfl 0 rfl ?_
  refine bj_bipush (v := 16) dX10_init_148 (by decide) ?_
  refine bj_newz (List.mem_of_getElem? (i := 22) rfl) dX10_init_150 (fun a88 σ89 h90 => ?_)
  refine bj_putR (ci := 11) (k := 29) (C := RX10) (T := TX10) (N := 49) (v := (some a88)) rfl hi_X10_init_X10 (by decide) rfl fl_X10_init_66 (Or.inl rfl) tyX10 tyX10_ok nmX10 (Or.inr ⟨_, rfl⟩) (Or.inr ⟨rfl, rfl, rfl, List.mem_of_getElem? (i := 24) rfl⟩) dX10_init_152 (fun σ91 h92 => ?_)
  refine bj_aload_nS dX10_init_155 rfl 0 rfl ?_
  refine bj_bipush (v := 16) dX10_init_156 (by decide) ?_
  refine bj_newz (List.mem_of_getElem? (i := 22) rfl) dX10_init_158 (fun a93 σ94 h95 => ?_)
  refine bj_putR (ci := 11) (k := 30) (C := RX10) (T := TX10) (N := 49) (v := (some a93)) rfl hi_X10_init_X10 (by decide) rfl fl_X10_init_69 (Or.inl rfl) tyX10 tyX10_ok nmX10 (Or.inr ⟨_, rfl⟩) (Or.inr ⟨rfl, rfl, rfl, List.mem_of_getElem? (i := 25) rfl⟩) dX10_init_160 (fun σ96 h97 => ?_)
  refine bj_aload_nS dX10_init_163 rfl 0 rfl ?_
  refine bj_iconst (v := 4) dX10_init_164 (by decide) ?_
  refine bj_newi (List.mem_of_getElem? (i := 4) rfl) dX10_init_165 (fun a98 σ99 h100 => ?_)
  refine bj_putR (ci := 11) (k := 31) (C := RX10) (T := TX10) (N := 49) (v := (some a98)) rfl hi_X10_init_X10 (by decide) rfl fl_X10_init_72 (Or.inl rfl) tyX10 tyX10_ok nmX10 (Or.inr ⟨_, rfl⟩) (Or.inr ⟨rfl, rfl, rfl, List.mem_of_getElem? (i := 26) rfl⟩) dX10_init_167 (fun σ101 h102 => ?_)
  refine bj_aload_nS dX10_init_170 rfl 0 rfl ?_
  refine bj_iconst (v := 4) dX10_init_171 (by decide) ?_
  refine bj_newi (List.mem_of_getElem? (i := 4) rfl) dX10_init_172 (fun a103 σ104 h105 => ?_)
  refine bj_dup dX10_init_174 rfl ?_
  refine bj_iconst (v := 0) dX10_init_175 (by decide) ?_
  refine bj_iconst (v := (-1)) dX10_init_176 (by decide) ?_
  refine bj_iast dX10_init_177 (fun σ106 h107 => ?_)
  refine bj_dup dX10_init_178 rfl ?_
  refine bj_iconst (v := 1) dX10_init_179 (by decide) ?_
  refine bj_iconst (v := (-1)) dX10_init_180 (by decide) ?_
  refine bj_iast dX10_init_181 (fun σ108 h109 => ?_)
  refine bj_dup dX10_init_182 rfl ?_
  refine bj_iconst (v := 2) dX10_init_183 (by decide) ?_
  refine bj_iconst (v := (-1)) dX10_init_184 (by decide) ?_
  refine bj_iast dX10_init_185 (fun σ110 h111 => ?_)
  refine bj_dup dX10_init_186 rfl ?_
  refine bj_iconst (v := 3) dX10_init_187 (by decide) ?_
  refine bj_iconst (v := (-1)) dX10_init_188 (by decide) ?_
  refine bj_iast dX10_init_189 (fun σ112 h113 => ?_)
  refine bj_putR (ci := 11) (k := 32) (C := RX10) (T := TX10) (N := 49) (v := (some a103)) rfl hi_X10_init_X10 (by decide) rfl fl_X10_init_75 (Or.inl rfl) tyX10 tyX10_ok nmX10 (Or.inr ⟨_, rfl⟩) (Or.inr ⟨rfl, rfl, rfl, List.mem_of_getElem? (i := 27) rfl⟩) dX10_init_190 (fun σ114 h115 => ?_)
  refine bj_aload_nS dX10_init_193 rfl 0 rfl ?_
  refine bj_bipush (v := 8) dX10_init_194 (by decide) ?_
  refine bj_newi (List.mem_of_getElem? (i := 4) rfl) dX10_init_196 (fun a116 σ117 h118 => ?_)
  refine bj_putR (ci := 11) (k := 33) (C := RX10) (T := TX10) (N := 49) (v := (some a116)) rfl hi_X10_init_X10 (by decide) rfl fl_X10_init_78 (Or.inl rfl) tyX10 tyX10_ok nmX10 (Or.inr ⟨_, rfl⟩) (Or.inr ⟨rfl, rfl, rfl, List.mem_of_getElem? (i := 28) rfl⟩) dX10_init_198 (fun σ119 h120 => ?_)
  refine bj_aload_nS dX10_init_201 rfl 0 rfl ?_
  refine bj_bipush (v := 8) dX10_init_202 (by decide) ?_
  refine bj_newi (List.mem_of_getElem? (i := 4) rfl) dX10_init_204 (fun a121 σ122 h123 => ?_)
  refine bj_putR (ci := 11) (k := 34) (C := RX10) (T := TX10) (N := 49) (v := (some a121)) rfl hi_X10_init_X10 (by decide) rfl fl_X10_init_81 (Or.inl rfl) tyX10 tyX10_ok nmX10 (Or.inr ⟨_, rfl⟩) (Or.inr ⟨rfl, rfl, rfl, List.mem_of_getElem? (i := 29) rfl⟩) dX10_init_206 (fun σ124 h125 => ?_)
  refine bj_aload_nS dX10_init_209 rfl 0 rfl ?_
  refine bj_bipush (v := 8) dX10_init_210 (by decide) ?_
  refine bj_newi (List.mem_of_getElem? (i := 4) rfl) dX10_init_212 (fun a126 σ127 h128 => ?_)
  refine bj_putR (ci := 11) (k := 35) (C := RX10) (T := TX10) (N := 49) (v := (some a126)) rfl hi_X10_init_X10 (by decide) rfl fl_X10_init_84 (Or.inl rfl) tyX10 tyX10_ok nmX10 (Or.inr ⟨_, rfl⟩) (Or.inr ⟨rfl, rfl, rfl, List.mem_of_getElem? (i := 30) rfl⟩) dX10_init_214 (fun σ129 h130 => ?_)
  refine bj_aload_nS dX10_init_217 rfl 0 rfl ?_
  refine bj_bipush (v := 8) dX10_init_218 (by decide) ?_
  refine bj_newi (List.mem_of_getElem? (i := 4) rfl) dX10_init_220 (fun a131 σ132 h133 => ?_)
  refine bj_putR (ci := 11) (k := 36) (C := RX10) (T := TX10) (N := 49) (v := (some a131)) rfl hi_X10_init_X10 (by decide) rfl fl_X10_init_87 (Or.inl rfl) tyX10 tyX10_ok nmX10 (Or.inr ⟨_, rfl⟩) (Or.inr ⟨rfl, rfl, rfl, List.mem_of_getElem? (i := 31) rfl⟩) dX10_init_222 (fun σ134 h135 => ?_)
  refine bj_aload_nS dX10_init_225 rfl 0 rfl ?_
  refine bj_bipush (v := 8) dX10_init_226 (by decide) ?_
  refine bj_newi (List.mem_of_getElem? (i := 4) rfl) dX10_init_228 (fun a136 σ137 h138 => ?_)
  refine bj_putR (ci := 11) (k := 37) (C := RX10) (T := TX10) (N := 49) (v := (some a136)) rfl hi_X10_init_X10 (by decide) rfl fl_X10_init_90 (Or.inl rfl) tyX10 tyX10_ok nmX10 (Or.inr ⟨_, rfl⟩) (Or.inr ⟨rfl, rfl, rfl, List.mem_of_getElem? (i := 32) rfl⟩) dX10_init_230 (fun σ139 h140 => ?_)
  refine bj_aload_nS dX10_init_233 rfl 0 rfl ?_
  refine bj_bipush (v := 8) dX10_init_234 (by decide) ?_
  refine bj_newi (List.mem_of_getElem? (i := 4) rfl) dX10_init_236 (fun a141 σ142 h143 => ?_)
  refine bj_putR (ci := 11) (k := 38) (C := RX10) (T := TX10) (N := 49) (v := (some a141)) rfl hi_X10_init_X10 (by decide) rfl fl_X10_init_93 (Or.inl rfl) tyX10 tyX10_ok nmX10 (Or.inr ⟨_, rfl⟩) (Or.inr ⟨rfl, rfl, rfl, List.mem_of_getElem? (i := 33) rfl⟩) dX10_init_238 (fun σ144 h145 => ?_)
  refine bj_aload_nS dX10_init_241 rfl 0 rfl ?_
  refine bj_bipush (v := 8) dX10_init_242 (by decide) ?_
  refine bj_newi (List.mem_of_getElem? (i := 4) rfl) dX10_init_244 (fun a146 σ147 h148 => ?_)
  refine bj_putR (ci := 11) (k := 39) (C := RX10) (T := TX10) (N := 49) (v := (some a146)) rfl hi_X10_init_X10 (by decide) rfl fl_X10_init_96 (Or.inl rfl) tyX10 tyX10_ok nmX10 (Or.inr ⟨_, rfl⟩) (Or.inr ⟨rfl, rfl, rfl, List.mem_of_getElem? (i := 34) rfl⟩) dX10_init_246 (fun σ149 h150 => ?_)
  refine bj_aload_nS dX10_init_249 rfl 0 rfl ?_
  refine bj_bipush (v := 8) dX10_init_250 (by decide) ?_
  refine bj_newi (List.mem_of_getElem? (i := 4) rfl) dX10_init_252 (fun a151 σ152 h153 => ?_)
  refine bj_putR (ci := 11) (k := 40) (C := RX10) (T := TX10) (N := 49) (v := (some a151)) rfl hi_X10_init_X10 (by decide) rfl fl_X10_init_99 (Or.inl rfl) tyX10 tyX10_ok nmX10 (Or.inr ⟨_, rfl⟩) (Or.inr ⟨rfl, rfl, rfl, List.mem_of_getElem? (i := 35) rfl⟩) dX10_init_254 (fun σ154 h155 => ?_)
  refine bj_aload_nS dX10_init_257 rfl 0 rfl ?_
  refine bj_sipush (v := 3100) dX10_init_258 (by decide) ?_
  refine bj_newi (List.mem_of_getElem? (i := 4) rfl) dX10_init_261 (fun a156 σ157 h158 => ?_)
  refine bj_putR (ci := 11) (k := 41) (C := RX10) (T := TX10) (N := 49) (v := (some a156)) rfl hi_X10_init_X10 (by decide) rfl fl_X10_init_102 (Or.inl rfl) tyX10 tyX10_ok nmX10 (Or.inr ⟨_, rfl⟩) (Or.inr ⟨rfl, rfl, rfl, List.mem_of_getElem? (i := 36) rfl⟩) dX10_init_263 (fun σ159 h160 => ?_)
  refine bj_aload_nS dX10_init_266 rfl 0 rfl ?_
  refine bj_sipush (v := 3100) dX10_init_267 (by decide) ?_
  refine bj_newi (List.mem_of_getElem? (i := 4) rfl) dX10_init_270 (fun a161 σ162 h163 => ?_)
  refine bj_putR (ci := 11) (k := 42) (C := RX10) (T := TX10) (N := 49) (v := (some a161)) rfl hi_X10_init_X10 (by decide) rfl fl_X10_init_105 (Or.inl rfl) tyX10 tyX10_ok nmX10 (Or.inr ⟨_, rfl⟩) (Or.inr ⟨rfl, rfl, rfl, List.mem_of_getElem? (i := 37) rfl⟩) dX10_init_272 (fun σ164 h165 => ?_)
  refine bj_aload_nS dX10_init_275 rfl 0 rfl ?_
  refine bj_sipush (v := 3100) dX10_init_276 (by decide) ?_
  refine bj_newi (List.mem_of_getElem? (i := 4) rfl) dX10_init_279 (fun a166 σ167 h168 => ?_)
  refine bj_putR (ci := 11) (k := 43) (C := RX10) (T := TX10) (N := 49) (v := (some a166)) rfl hi_X10_init_X10 (by decide) rfl fl_X10_init_108 (Or.inl rfl) tyX10 tyX10_ok nmX10 (Or.inr ⟨_, rfl⟩) (Or.inr ⟨rfl, rfl, rfl, List.mem_of_getElem? (i := 38) rfl⟩) dX10_init_281 (fun σ169 h170 => ?_)
  refine bj_aload_nS dX10_init_284 rfl 0 rfl ?_
  refine bj_bipush (v := 8) dX10_init_285 (by decide) ?_
  refine bj_newi (List.mem_of_getElem? (i := 4) rfl) dX10_init_287 (fun a171 σ172 h173 => ?_)
  refine bj_putR (ci := 11) (k := 45) (C := RX10) (T := TX10) (N := 49) (v := (some a171)) rfl hi_X10_init_X10 (by decide) rfl fl_X10_init_111 (Or.inl rfl) tyX10 tyX10_ok nmX10 (Or.inr ⟨_, rfl⟩) (Or.inr ⟨rfl, rfl, rfl, List.mem_of_getElem? (i := 39) rfl⟩) dX10_init_289 (fun σ174 h175 => ?_)
  refine bj_aload_nS dX10_init_292 rfl 0 rfl ?_
  refine bj_bipush (v := 8) dX10_init_293 (by decide) ?_
  refine bj_newi (List.mem_of_getElem? (i := 4) rfl) dX10_init_295 (fun a176 σ177 h178 => ?_)
  refine bj_putR (ci := 11) (k := 46) (C := RX10) (T := TX10) (N := 49) (v := (some a176)) rfl hi_X10_init_X10 (by decide) rfl fl_X10_init_114 (Or.inl rfl) tyX10 tyX10_ok nmX10 (Or.inr ⟨_, rfl⟩) (Or.inr ⟨rfl, rfl, rfl, List.mem_of_getElem? (i := 40) rfl⟩) dX10_init_297 (fun σ179 h180 => ?_)
  refine bj_aload_nS dX10_init_300 rfl 0 rfl ?_
  refine bj_sipush (v := 257) dX10_init_301 (by decide) ?_
  refine bj_newi (List.mem_of_getElem? (i := 4) rfl) dX10_init_304 (fun a181 σ182 h183 => ?_)
  refine bj_putR (ci := 11) (k := 47) (C := RX10) (T := TX10) (N := 49) (v := (some a181)) rfl hi_X10_init_X10 (by decide) rfl fl_X10_init_117 (Or.inl rfl) tyX10 tyX10_ok nmX10 (Or.inr ⟨_, rfl⟩) (Or.inr ⟨rfl, rfl, rfl, List.mem_of_getElem? (i := 41) rfl⟩) dX10_init_306 (fun σ184 h185 => ?_)
  refine bj_iconst (v := 0) dX10_init_309 (by decide) ?_
  refine bj_istore_n (lv' := [(1, .int 0), (0, .ref this)]) dX10_init_310 rfl (by decide) rfl ?_
  refine bj_sub (lv' := [(0, .ref this), (1, .int 0)]) [1, 0] rfl ?_
  exact j_X10_init_b311 X N N this 0 σ184
/-! BeetHouseModel.refuse(I)I -/
theorem hi_X10_refuse_X10 : ∀ w ∈ u_ws RX10 TX10 49, w ∈ wsX10_refuse := fun _ h => (List.mem_cons_of_mem _ (List.mem_append_right _ h))
set_option maxRecDepth 100000 in
theorem fl_X10_refuse_7 : bh_fl wsX10_refuse yX10_refuse.cls 7 "BeetHouseModel" "refusals" "[I" := Or.inl (List.mem_of_getElem? (i := 1) rfl)
def f_X10_refuse (this : Nat) (p1 : Int32) (σ : bh_S) : Option (Int32 × bh_S) :=
  (bh_rdR σ 11 this 0).bind fun v1 =>
  (v1).bind fun a3 =>
  (bh_ldI σ 12 a3 (-p1)).bind fun v5 =>
  (bh_stI σ 12 a3 (-p1) (v5 + 1)).bind fun σ7 =>
  some (p1, σ7)
set_option maxHeartbeats 4000000 in
set_option maxRecDepth 100000 in
theorem c_X10_refuse (X : bh_X) (this : Nat) (p1 : Int32) (σ : bh_S) : bh_MX eI X yX10_refuse wsX10_refuse 0 0 [.ref this, .int p1] σ (f_X10_refuse this p1 σ) := by
  refine bh_enter (cc := cX10_refuse) (NL := 2) (ret := (some .int)) (by decide) rfl (Nat.le_of_ble_eq_true rfl) (fun X => ?_)
  show bh_J eI yX10_refuse cX10_refuse wsX10_refuse (some .int) 2 0 0 X σ 0 [(0, .ref this), (1, .int p1)] [] _
  unfold f_X10_refuse
  refine bj_aload_nS dX10_refuse_0 rfl 0 rfl ?_
  refine bj_getR (ci := 11) (k := 0) (C := RX10) (T := TX10) (N := 49) rfl hi_X10_refuse_X10 (by decide) rfl fl_X10_refuse_7 (Or.inl rfl) dX10_refuse_1 (fun v1 h2 => ?_)
  refine bj_iload_n dX10_refuse_4 rfl 1 rfl ?_
  refine bj_ineg dX10_refuse_5 ?_
  refine bj_dup2 dX10_refuse_6 rfl (bh_cat _) ?_
  refine bj_nn (fun a3 h4 => ?_)
  subst h4
  refine bj_iald dX10_refuse_7 (fun v5 h6 => ?_)
  refine bj_iconst (v := 1) dX10_refuse_8 (by decide) ?_
  refine bj_iadd dX10_refuse_9 ?_
  refine bj_iast dX10_refuse_10 (fun σ7 h8 => ?_)
  refine bj_iload_n dX10_refuse_11 rfl 1 rfl ?_
  exact bj_iret dX10_refuse_12
/-! BeetHouseModel.isIn(II)Z -/
def f_X10_isIn (p0 : Int32) (p1 : Int32) (σ : bh_S) : Option (Int32 × bh_S) :=
  if p0 < 0 then
    bh_retZ σ 0
  else
    if p1 ≤ p0 then
      bh_retZ σ 0
    else
      bh_retZ σ 1
set_option maxHeartbeats 4000000 in
set_option maxRecDepth 100000 in
theorem c_X10_isIn (X : bh_X) (p0 : Int32) (p1 : Int32) (σ : bh_S) : bh_MX eI X yX10_isIn wsX10_isIn 0 0 [.int p0, .int p1] σ (f_X10_isIn p0 p1 σ) := by
  refine bh_enter (cc := cX10_isIn) (NL := 2) (ret := (some .boolean)) (by decide) rfl (Nat.le_of_ble_eq_true rfl) (fun X => ?_)
  show bh_J eI yX10_isIn cX10_isIn wsX10_isIn (some .boolean) 2 0 0 X σ 0 [(0, .int p0), (1, .int p1)] [] _
  unfold f_X10_isIn
  refine bj_iload_n dX10_isIn_0 rfl 0 rfl ?_
  refine bj_if_lt (tgt := 13) dX10_isIn_1 (by decide) (fun h1 => ?_) (fun h1 => ?_)
  · refine bj_iconst (v := 0) dX10_isIn_13 (by decide) ?_
    exact bj_zret dX10_isIn_14
  · refine bj_iload_n dX10_isIn_4 rfl 0 rfl ?_
    refine bj_iload_n dX10_isIn_5 rfl 1 rfl ?_
    refine bj_icmp_ge (tgt := 13) dX10_isIn_6 (by decide) (fun h2 => ?_) (fun h2 => ?_)
    · refine bj_iconst (v := 0) dX10_isIn_13 (by decide) ?_
      exact bj_zret dX10_isIn_14
    · refine bj_iconst (v := 1) dX10_isIn_9 (by decide) ?_
      refine bj_goto (tgt := 14) dX10_isIn_10 (by decide) ?_
      exact bj_zret dX10_isIn_14
/-! BeetHouseModel.share(II)I -/
set_option maxRecDepth 100000 in
theorem g_X10_share_X10_isIn_120 : GoodIn wsX10_share (va_wsS yX10_share.cls 120 yX10_isIn wsX10_isIn) := goodIn_r _ [2, 3, 4, 5] rfl (by decide +kernel)
theorem hi_X10_share_X10 : ∀ w ∈ u_ws RX10 TX10 49, w ∈ wsX10_share := fun _ h => (List.mem_cons_of_mem _ (List.mem_append_right _ h))
set_option maxRecDepth 100000 in
theorem fl_X10_share_13 : bh_fl wsX10_share yX10_share.cls 13 "BeetHouseModel" "shares" "[I" := Or.inl (List.mem_of_getElem? (i := 1) rfl)
set_option maxRecDepth 100000 in
theorem g_X10_share_X10_refuse_124 : GoodIn wsX10_share (wsV yX10_share.cls 124 RX10 yX10_refuse wsX10_refuse) := goodIn_r _ [6, 7, 8, 4, 9, 10, 11, 12, 13, 14, 15, 16, 17, 18, 19, 20, 21, 22, 23, 24, 25, 26, 27, 28, 29, 30, 31, 32, 33, 34, 35, 36, 37, 38, 39, 40, 41, 42, 43, 44, 45, 46, 47, 48, 49, 50, 51, 52, 53, 54, 55, 56, 57, 58, 59] rfl (by decide +kernel)
def f_X10_share (this : Nat) (p1 : Int32) (p2 : Int32) (σ : bh_S) : Option (Int32 × bh_S) :=
  bh_bnd (f_X10_isIn p1 6 σ) fun v1 σ2 =>
  if v1 = 0 then
    (bh_ck σ2 this 11).bind fun _ =>
    bh_bnd (f_X10_refuse this (-1) σ2) fun v28 σ29 =>
    some (v28, σ29)
  else
    if 0 ≤ p2 then
      if p2 ≤ 1000 then
        (bh_rdR σ2 11 this 1).bind fun v7 =>
        (v7).bind fun a9 =>
        (bh_ldI σ2 12 a9 p1).bind fun v11 =>
        (bh_rdR σ2 11 this 1).bind fun v13 =>
        (v13).bind fun a15 =>
        (bh_stI σ2 12 a15 p1 p2).bind fun σ17 =>
        some (v11, σ17)
      else
        (bh_ck σ2 this 11).bind fun _ =>
        bh_bnd (f_X10_refuse this (-6) σ2) fun v20 σ21 =>
        some (v20, σ21)
    else
      (bh_ck σ2 this 11).bind fun _ =>
      bh_bnd (f_X10_refuse this (-4) σ2) fun v24 σ25 =>
      some (v24, σ25)
set_option maxHeartbeats 4000000 in
set_option maxRecDepth 100000 in
theorem c_X10_share (X : bh_X) (this : Nat) (p1 : Int32) (p2 : Int32) (σ : bh_S) : bh_MX eI X yX10_share wsX10_share 1 21 [.ref this, .int p1, .int p2] σ (f_X10_share this p1 p2 σ) := by
  refine bh_enter (cc := cX10_share) (NL := 4) (ret := (some .int)) (by decide) rfl (Nat.le_of_ble_eq_true rfl) (fun X => ?_)
  show bh_J eI yX10_share cX10_share wsX10_share (some .int) 4 1 21 X σ 0 [(0, .ref this), (1, .int p1), (2, .int p2)] [] _
  unfold f_X10_share
  refine bj_iload_n dX10_share_0 rfl 1 rfl ?_
  refine bj_bipush (v := 6) dX10_share_1 (by decide) ?_
  refine bj_callI (br_S (As := [.int p1, .int 6]) (rest := []) (c_X10_isIn X p1 6 σ) rfl g_X10_share_X10_isIn_120 hd_X10_isIn rfl ⟨by decide, by decide⟩ rfl (Nat.le_of_ble_eq_true rfl) dX10_share_3) (fun v1 σ2 h3 => ?_)
  refine bj_if_ne (tgt := 15) dX10_share_6 (by decide) (fun h4 => ?_) (fun h4 => ?_)
  · refine bj_iload_n dX10_share_15 rfl 2 rfl ?_
    refine bj_if_ge (tgt := 26) dX10_share_16 (by decide) (fun h5 => ?_) (fun h5 => ?_)
    · refine bj_iload_n dX10_share_26 rfl 2 rfl ?_
      refine bj_sipush (v := 1000) dX10_share_27 (by decide) ?_
      refine bj_icmp_le (tgt := 40) dX10_share_30 (by decide) (fun h6 => ?_) (fun h6 => ?_)
      · refine bj_aload_nS dX10_share_40 rfl 0 rfl ?_
        refine bj_getR (ci := 11) (k := 1) (C := RX10) (T := TX10) (N := 49) rfl hi_X10_share_X10 (by decide) rfl fl_X10_share_13 (Or.inl rfl) dX10_share_41 (fun v7 h8 => ?_)
        refine bj_iload_n dX10_share_44 rfl 1 rfl ?_
        refine bj_nn (fun a9 h10 => ?_)
        subst h10
        refine bj_iald dX10_share_45 (fun v11 h12 => ?_)
        refine bj_istore_n (lv' := [(3, .int v11), (0, .ref this), (1, .int p1), (2, .int p2)]) dX10_share_46 rfl (by decide) rfl ?_
        refine bj_aload_nS dX10_share_47 rfl 1 rfl ?_
        refine bj_getR (ci := 11) (k := 1) (C := RX10) (T := TX10) (N := 49) rfl hi_X10_share_X10 (by decide) rfl fl_X10_share_13 (Or.inl rfl) dX10_share_48 (fun v13 h14 => ?_)
        refine bj_iload_n dX10_share_51 rfl 2 rfl ?_
        refine bj_iload_n dX10_share_52 rfl 3 rfl ?_
        refine bj_nn (fun a15 h16 => ?_)
        subst h16
        refine bj_iast dX10_share_53 (fun σ17 h18 => ?_)
        refine bj_iload_n dX10_share_54 rfl 0 rfl ?_
        exact bj_iret dX10_share_55
      · refine bj_aload_nS dX10_share_33 rfl 0 rfl ?_
        refine bj_bipush (v := (-6)) dX10_share_34 (by decide) ?_
        refine bj_op (fun _ h19 => ?_)
        refine bj_callI (br_V (As := [.int (-6)]) (rest := []) (q := (RX10, TX10, 49)) (c_X10_refuse X this (-6) σ2) rfl g_X10_share_X10_refuse_124 rfl (bh_ck_spec h19) ⟨rfl, hd_X10_refuse⟩ rfl ⟨by decide, by decide⟩ rfl (Nat.le_of_ble_eq_true rfl) dX10_share_36) (fun v20 σ21 h22 => ?_)
        exact bj_iret dX10_share_39
    · refine bj_aload_nS dX10_share_19 rfl 0 rfl ?_
      refine bj_bipush (v := (-4)) dX10_share_20 (by decide) ?_
      refine bj_op (fun _ h23 => ?_)
      refine bj_callI (br_V (As := [.int (-4)]) (rest := []) (q := (RX10, TX10, 49)) (c_X10_refuse X this (-4) σ2) rfl g_X10_share_X10_refuse_124 rfl (bh_ck_spec h23) ⟨rfl, hd_X10_refuse⟩ rfl ⟨by decide, by decide⟩ rfl (Nat.le_of_ble_eq_true rfl) dX10_share_22) (fun v24 σ25 h26 => ?_)
      exact bj_iret dX10_share_25
  · refine bj_aload_nS dX10_share_9 rfl 0 rfl ?_
    refine bj_iconst (v := (-1)) dX10_share_10 (by decide) ?_
    refine bj_op (fun _ h27 => ?_)
    refine bj_callI (br_V (As := [.int (-1)]) (rest := []) (q := (RX10, TX10, 49)) (c_X10_refuse X this (-1) σ2) rfl g_X10_share_X10_refuse_124 rfl (bh_ck_spec h27) ⟨rfl, hd_X10_refuse⟩ rfl ⟨by decide, by decide⟩ rfl (Nat.le_of_ble_eq_true rfl) dX10_share_11) (fun v28 σ29 h30 => ?_)
    exact bj_iret dX10_share_14
/-! BeetHouseModel.field(IIIIZ)I -/
set_option maxRecDepth 100000 in
theorem g_X10_field_X10_isIn_120 : GoodIn wsX10_field (va_wsS yX10_field.cls 120 yX10_isIn wsX10_isIn) := goodIn_r _ [8, 9, 10, 11] rfl (by decide +kernel)
theorem hi_X10_field_X10 : ∀ w ∈ u_ws RX10 TX10 49, w ∈ wsX10_field := fun _ h => (List.mem_cons_of_mem _ (List.mem_append_right _ h))
set_option maxRecDepth 100000 in
theorem fl_X10_field_128 : bh_fl wsX10_field yX10_field.cls 128 "BeetHouseModel" "fields" "I" := Or.inl (List.mem_of_getElem? (i := 1) rfl)
set_option maxRecDepth 100000 in
theorem fl_X10_field_32 : bh_fl wsX10_field yX10_field.cls 32 "BeetHouseModel" "farmer" "[I" := Or.inl (List.mem_of_getElem? (i := 2) rfl)
set_option maxRecDepth 100000 in
theorem fl_X10_field_35 : bh_fl wsX10_field yX10_field.cls 35 "BeetHouseModel" "ground" "[I" := Or.inl (List.mem_of_getElem? (i := 3) rfl)
set_option maxRecDepth 100000 in
theorem fl_X10_field_38 : bh_fl wsX10_field yX10_field.cls 38 "BeetHouseModel" "sweet" "[I" := Or.inl (List.mem_of_getElem? (i := 4) rfl)
set_option maxRecDepth 100000 in
theorem fl_X10_field_41 : bh_fl wsX10_field yX10_field.cls 41 "BeetHouseModel" "way" "[I" := Or.inl (List.mem_of_getElem? (i := 5) rfl)
set_option maxRecDepth 100000 in
theorem fl_X10_field_62 : bh_fl wsX10_field yX10_field.cls 62 "BeetHouseModel" "stony" "[Z" := Or.inl (List.mem_of_getElem? (i := 6) rfl)
set_option maxRecDepth 100000 in
theorem fl_X10_field_50 : bh_fl wsX10_field yX10_field.cls 50 "BeetHouseModel" "thawed" "[I" := Or.inl (List.mem_of_getElem? (i := 7) rfl)
set_option maxRecDepth 100000 in
theorem g_X10_field_X10_refuse_124 : GoodIn wsX10_field (wsV yX10_field.cls 124 RX10 yX10_refuse wsX10_refuse) := goodIn_r _ [12, 13, 14, 10, 15, 16, 17, 18, 19, 20, 21, 22, 23, 24, 25, 26, 27, 28, 29, 30, 31, 32, 33, 34, 35, 36, 37, 38, 39, 40, 41, 42, 43, 44, 45, 46, 47, 48, 49, 50, 51, 52, 53, 54, 55, 56, 57, 58, 59, 60, 61, 62, 63, 64, 65] rfl (by decide +kernel)
def f_X10_field_b32 (this : Nat) (σ : bh_S) : Option (Int32 × bh_S) :=
  (bh_ck σ this 11).bind fun _ =>
  bh_bnd (f_X10_refuse this (-4) σ) fun v2 σ3 =>
  some (v2, σ3)
set_option maxHeartbeats 4000000 in
set_option maxRecDepth 100000 in
theorem j_X10_field_b32 (X : bh_X) (this : Nat) (σ : bh_S) : bh_J eI yX10_field cX10_field wsX10_field (some .int) 7 1 21 X σ 32 [(0, .ref this)] [] (f_X10_field_b32 this σ) := by
  unfold f_X10_field_b32
  refine bj_aload_nS dX10_field_32 rfl 0 rfl ?_
  refine bj_bipush (v := (-4)) dX10_field_33 (by decide) ?_
  refine bj_op (fun _ h1 => ?_)
  refine bj_callI (br_V (As := [.int (-4)]) (rest := []) (q := (RX10, TX10, 49)) (c_X10_refuse X this (-4) σ) rfl g_X10_field_X10_refuse_124 rfl (bh_ck_spec h1) ⟨rfl, hd_X10_refuse⟩ rfl ⟨by decide, by decide⟩ rfl (Nat.le_of_ble_eq_true rfl) dX10_field_35) (fun v2 σ3 h4 => ?_)
  exact bj_iret dX10_field_38
def f_X10_field_b69 (this : Nat) (σ : bh_S) : Option (Int32 × bh_S) :=
  (bh_ck σ this 11).bind fun _ =>
  bh_bnd (f_X10_refuse this (-6) σ) fun v2 σ3 =>
  some (v2, σ3)
set_option maxHeartbeats 4000000 in
set_option maxRecDepth 100000 in
theorem j_X10_field_b69 (X : bh_X) (this : Nat) (σ : bh_S) : bh_J eI yX10_field cX10_field wsX10_field (some .int) 7 1 21 X σ 69 [(0, .ref this)] [] (f_X10_field_b69 this σ) := by
  unfold f_X10_field_b69
  refine bj_aload_nS dX10_field_69 rfl 0 rfl ?_
  refine bj_bipush (v := (-6)) dX10_field_70 (by decide) ?_
  refine bj_op (fun _ h1 => ?_)
  refine bj_callI (br_V (As := [.int (-6)]) (rest := []) (q := (RX10, TX10, 49)) (c_X10_refuse X this (-6) σ) rfl g_X10_field_X10_refuse_124 rfl (bh_ck_spec h1) ⟨rfl, hd_X10_refuse⟩ rfl ⟨by decide, by decide⟩ rfl (Nat.le_of_ble_eq_true rfl) dX10_field_72) (fun v2 σ3 h4 => ?_)
  exact bj_iret dX10_field_75
def f_X10_field (this : Nat) (p1 : Int32) (p2 : Int32) (p3 : Int32) (p4 : Int32) (p5 : Int32) (σ : bh_S) : Option (Int32 × bh_S) :=
  bh_bnd (f_X10_isIn p1 6 σ) fun v1 σ2 =>
  if v1 = 0 then
    (bh_ck σ2 this 11).bind fun _ =>
    bh_bnd (f_X10_refuse this (-1) σ2) fun v57 σ58 =>
    some (v57, σ58)
  else
    if p2 < 1 then
      f_X10_field_b32 this σ2
    else
      if p3 < 50 then
        f_X10_field_b32 this σ2
      else
        if 1 ≤ p4 then
          if 5000 < p2 then
            f_X10_field_b69 this σ2
          else
            if 250 < p3 then
              f_X10_field_b69 this σ2
            else
              if 12 < p4 then
                f_X10_field_b69 this σ2
              else
                (bh_rdI σ2 11 this 7).bind fun v11 =>
                if v11 = 16 then
                  f_X10_field_b69 this σ2
                else
                  (bh_rdI σ2 11 this 7).bind fun v14 =>
                  (bh_rdI σ2 11 this 7).bind fun v16 =>
                  (bh_wrI σ2 11 this 7 (v16 + 1)).bind fun σ18 =>
                  (bh_rdR σ18 11 this 18).bind fun v20 =>
                  (v20).bind fun a22 =>
                  (bh_stI σ18 12 a22 v14 p1).bind fun σ24 =>
                  (bh_rdR σ24 11 this 19).bind fun v26 =>
                  (v26).bind fun a28 =>
                  (bh_stI σ24 12 a28 v14 p2).bind fun σ30 =>
                  (bh_rdR σ30 11 this 20).bind fun v32 =>
                  (v32).bind fun a34 =>
                  (bh_stI σ30 12 a34 v14 p3).bind fun σ36 =>
                  (bh_rdR σ36 11 this 21).bind fun v38 =>
                  (v38).bind fun a40 =>
                  (bh_stI σ36 12 a40 v14 p4).bind fun σ42 =>
                  (bh_rdR σ42 11 this 28).bind fun v44 =>
                  (v44).bind fun a46 =>
                  (bh_stZ σ42 13 a46 v14 p5).bind fun σ48 =>
                  (bh_rdR σ48 11 this 24).bind fun v50 =>
                  (v50).bind fun a52 =>
                  (bh_stI σ48 12 a52 v14 (-9)).bind fun σ54 =>
                  some (v14, σ54)
        else
          f_X10_field_b32 this σ2
set_option maxHeartbeats 4000000 in
set_option maxRecDepth 100000 in
theorem c_X10_field (X : bh_X) (this : Nat) (p1 : Int32) (p2 : Int32) (p3 : Int32) (p4 : Int32) (p5 : Int32) (σ : bh_S) : bh_MX eI X yX10_field wsX10_field 1 21 [.ref this, .int p1, .int p2, .int p3, .int p4, .int p5] σ (f_X10_field this p1 p2 p3 p4 p5 σ) := by
  refine bh_enter (cc := cX10_field) (NL := 7) (ret := (some .int)) (by decide) rfl (Nat.le_of_ble_eq_true rfl) (fun X => ?_)
  show bh_J eI yX10_field cX10_field wsX10_field (some .int) 7 1 21 X σ 0 [(0, .ref this), (1, .int p1), (2, .int p2), (3, .int p3), (4, .int p4), (5, .int p5)] [] _
  unfold f_X10_field
  refine bj_iload_n dX10_field_0 rfl 1 rfl ?_
  refine bj_bipush (v := 6) dX10_field_1 (by decide) ?_
  refine bj_callI (br_S (As := [.int p1, .int 6]) (rest := []) (c_X10_isIn X p1 6 σ) rfl g_X10_field_X10_isIn_120 hd_X10_isIn rfl ⟨by decide, by decide⟩ rfl (Nat.le_of_ble_eq_true rfl) dX10_field_3) (fun v1 σ2 h3 => ?_)
  refine bj_if_ne (tgt := 15) dX10_field_6 (by decide) (fun h4 => ?_) (fun h4 => ?_)
  · refine bj_iload_n dX10_field_15 rfl 2 rfl ?_
    refine bj_iconst (v := 1) dX10_field_16 (by decide) ?_
    refine bj_icmp_lt (tgt := 32) dX10_field_17 (by decide) (fun h5 => ?_) (fun h5 => ?_)
    · refine bj_sub (lv' := [(0, .ref this)]) [0] rfl ?_
      exact j_X10_field_b32 X this σ2
    · refine bj_iload_n dX10_field_20 rfl 3 rfl ?_
      refine bj_bipush (v := 50) dX10_field_21 (by decide) ?_
      refine bj_icmp_lt (tgt := 32) dX10_field_23 (by decide) (fun h6 => ?_) (fun h6 => ?_)
      · refine bj_sub (lv' := [(0, .ref this)]) [0] rfl ?_
        exact j_X10_field_b32 X this σ2
      · refine bj_iload dX10_field_26 4 rfl ?_
        refine bj_iconst (v := 1) dX10_field_28 (by decide) ?_
        refine bj_icmp_ge (tgt := 39) dX10_field_29 (by decide) (fun h7 => ?_) (fun h7 => ?_)
        · refine bj_iload_n dX10_field_39 rfl 2 rfl ?_
          refine bj_sipush (v := 5000) dX10_field_40 (by decide) ?_
          refine bj_icmp_gt (tgt := 69) dX10_field_43 (by decide) (fun h8 => ?_) (fun h8 => ?_)
          · refine bj_sub (lv' := [(0, .ref this)]) [0] rfl ?_
            exact j_X10_field_b69 X this σ2
          · refine bj_iload_n dX10_field_46 rfl 3 rfl ?_
            refine bj_sipush (v := 250) dX10_field_47 (by decide) ?_
            refine bj_icmp_gt (tgt := 69) dX10_field_50 (by decide) (fun h9 => ?_) (fun h9 => ?_)
            · refine bj_sub (lv' := [(0, .ref this)]) [0] rfl ?_
              exact j_X10_field_b69 X this σ2
            · refine bj_iload dX10_field_53 4 rfl ?_
              refine bj_bipush (v := 12) dX10_field_55 (by decide) ?_
              refine bj_icmp_gt (tgt := 69) dX10_field_57 (by decide) (fun h10 => ?_) (fun h10 => ?_)
              · refine bj_sub (lv' := [(0, .ref this)]) [0] rfl ?_
                exact j_X10_field_b69 X this σ2
              · refine bj_aload_nS dX10_field_60 rfl 0 rfl ?_
                refine bj_getI (ci := 11) (k := 7) (C := RX10) (T := TX10) (N := 49) rfl hi_X10_field_X10 (by decide) rfl fl_X10_field_128 (Or.inl rfl) dX10_field_61 (fun v11 h12 => ?_)
                refine bj_bipush (v := 16) dX10_field_64 (by decide) ?_
                refine bj_icmp_ne (tgt := 76) dX10_field_66 (by decide) (fun h13 => ?_) (fun h13 => ?_)
                · refine bj_aload_nS dX10_field_76 rfl 0 rfl ?_
                  refine bj_getI (ci := 11) (k := 7) (C := RX10) (T := TX10) (N := 49) rfl hi_X10_field_X10 (by decide) rfl fl_X10_field_128 (Or.inl rfl) dX10_field_77 (fun v14 h15 => ?_)
                  refine bj_istore (lv' := [(6, .int v14), (0, .ref this), (1, .int p1), (2, .int p2), (3, .int p3), (4, .int p4), (5, .int p5)]) dX10_field_80 (by decide) rfl ?_
                  refine bj_aload_nS dX10_field_82 rfl 1 rfl ?_
                  refine bj_dup dX10_field_83 rfl ?_
                  refine bj_getI (ci := 11) (k := 7) (C := RX10) (T := TX10) (N := 49) rfl hi_X10_field_X10 (by decide) rfl fl_X10_field_128 (Or.inl rfl) dX10_field_84 (fun v16 h17 => ?_)
                  refine bj_iconst (v := 1) dX10_field_87 (by decide) ?_
                  refine bj_iadd dX10_field_88 ?_
                  refine bj_putI (ci := 11) (k := 7) (C := RX10) (T := TX10) (N := 49) rfl hi_X10_field_X10 (by decide) rfl fl_X10_field_128 (Or.inl rfl) tyX10 tyX10_ok nmX10 rfl (Or.inl rfl) dX10_field_89 (fun σ18 h19 => ?_)
                  refine bj_aload_nS dX10_field_92 rfl 1 rfl ?_
                  refine bj_getR (ci := 11) (k := 18) (C := RX10) (T := TX10) (N := 49) rfl hi_X10_field_X10 (by decide) rfl fl_X10_field_32 (Or.inl rfl) dX10_field_93 (fun v20 h21 => ?_)
                  refine bj_iload dX10_field_96 0 rfl ?_
                  refine bj_iload_n dX10_field_98 rfl 2 rfl ?_
                  refine bj_nn (fun a22 h23 => ?_)
                  subst h23
                  refine bj_iast dX10_field_99 (fun σ24 h25 => ?_)
                  refine bj_aload_nS dX10_field_100 rfl 1 rfl ?_
                  refine bj_getR (ci := 11) (k := 19) (C := RX10) (T := TX10) (N := 49) rfl hi_X10_field_X10 (by decide) rfl fl_X10_field_35 (Or.inl rfl) dX10_field_101 (fun v26 h27 => ?_)
                  refine bj_iload dX10_field_104 0 rfl ?_
                  refine bj_iload_n dX10_field_106 rfl 3 rfl ?_
                  refine bj_nn (fun a28 h29 => ?_)
                  subst h29
                  refine bj_iast dX10_field_107 (fun σ30 h31 => ?_)
                  refine bj_aload_nS dX10_field_108 rfl 1 rfl ?_
                  refine bj_getR (ci := 11) (k := 20) (C := RX10) (T := TX10) (N := 49) rfl hi_X10_field_X10 (by decide) rfl fl_X10_field_38 (Or.inl rfl) dX10_field_109 (fun v32 h33 => ?_)
                  refine bj_iload dX10_field_112 0 rfl ?_
                  refine bj_iload_n dX10_field_114 rfl 4 rfl ?_
                  refine bj_nn (fun a34 h35 => ?_)
                  subst h35
                  refine bj_iast dX10_field_115 (fun σ36 h37 => ?_)
                  refine bj_aload_nS dX10_field_116 rfl 1 rfl ?_
                  refine bj_getR (ci := 11) (k := 21) (C := RX10) (T := TX10) (N := 49) rfl hi_X10_field_X10 (by decide) rfl fl_X10_field_41 (Or.inl rfl) dX10_field_117 (fun v38 h39 => ?_)
                  refine bj_iload dX10_field_120 0 rfl ?_
                  refine bj_iload dX10_field_122 5 rfl ?_
                  refine bj_nn (fun a40 h41 => ?_)
                  subst h41
                  refine bj_iast dX10_field_124 (fun σ42 h43 => ?_)
                  refine bj_aload_nS dX10_field_125 rfl 1 rfl ?_
                  refine bj_getR (ci := 11) (k := 28) (C := RX10) (T := TX10) (N := 49) rfl hi_X10_field_X10 (by decide) rfl fl_X10_field_62 (Or.inl rfl) dX10_field_126 (fun v44 h45 => ?_)
                  refine bj_iload dX10_field_129 0 rfl ?_
                  refine bj_iload dX10_field_131 6 rfl ?_
                  refine bj_nn (fun a46 h47 => ?_)
                  subst h47
                  refine bj_zast dX10_field_133 (fun σ48 h49 => ?_)
                  refine bj_aload_nS dX10_field_134 rfl 1 rfl ?_
                  refine bj_getR (ci := 11) (k := 24) (C := RX10) (T := TX10) (N := 49) rfl hi_X10_field_X10 (by decide) rfl fl_X10_field_50 (Or.inl rfl) dX10_field_135 (fun v50 h51 => ?_)
                  refine bj_iload dX10_field_138 0 rfl ?_
                  refine bj_bipush (v := (-9)) dX10_field_140 (by decide) ?_
                  refine bj_nn (fun a52 h53 => ?_)
                  subst h53
                  refine bj_iast dX10_field_142 (fun σ54 h55 => ?_)
                  refine bj_iload dX10_field_143 0 rfl ?_
                  exact bj_iret dX10_field_145
                · refine bj_sub (lv' := [(0, .ref this)]) [0] rfl ?_
                  exact j_X10_field_b69 X this σ2
        · refine bj_sub (lv' := [(0, .ref this)]) [0] rfl ?_
          exact j_X10_field_b32 X this σ2
  · refine bj_aload_nS dX10_field_9 rfl 0 rfl ?_
    refine bj_iconst (v := (-1)) dX10_field_10 (by decide) ?_
    refine bj_op (fun _ h56 => ?_)
    refine bj_callI (br_V (As := [.int (-1)]) (rest := []) (q := (RX10, TX10, 49)) (c_X10_refuse X this (-1) σ2) rfl g_X10_field_X10_refuse_124 rfl (bh_ck_spec h56) ⟨rfl, hd_X10_refuse⟩ rfl ⟨by decide, by decide⟩ rfl (Nat.le_of_ble_eq_true rfl) dX10_field_11) (fun v57 σ58 h59 => ?_)
    exact bj_iret dX10_field_14
/-! BeetHouseModel.isField(I)Z -/
theorem hi_X10_isField_X10 : ∀ w ∈ u_ws RX10 TX10 49, w ∈ wsX10_isField := fun _ h => (List.mem_cons_of_mem _ (List.mem_append_right _ h))
set_option maxRecDepth 100000 in
theorem fl_X10_isField_128 : bh_fl wsX10_isField yX10_isField.cls 128 "BeetHouseModel" "fields" "I" := Or.inl (List.mem_of_getElem? (i := 1) rfl)
set_option maxRecDepth 100000 in
theorem g_X10_isField_X10_isIn_120 : GoodIn wsX10_isField (va_wsS yX10_isField.cls 120 yX10_isIn wsX10_isIn) := goodIn_r _ [2, 3, 4, 5] rfl (by decide +kernel)
def f_X10_isField (this : Nat) (p1 : Int32) (σ : bh_S) : Option (Int32 × bh_S) :=
  (bh_rdI σ 11 this 7).bind fun v1 =>
  bh_bnd (f_X10_isIn p1 v1 σ) fun v3 σ4 =>
  bh_retZ σ4 v3
set_option maxHeartbeats 4000000 in
set_option maxRecDepth 100000 in
theorem c_X10_isField (X : bh_X) (this : Nat) (p1 : Int32) (σ : bh_S) : bh_MX eI X yX10_isField wsX10_isField 1 21 [.ref this, .int p1] σ (f_X10_isField this p1 σ) := by
  refine bh_enter (cc := cX10_isField) (NL := 2) (ret := (some .boolean)) (by decide) rfl (Nat.le_of_ble_eq_true rfl) (fun X => ?_)
  show bh_J eI yX10_isField cX10_isField wsX10_isField (some .boolean) 2 1 21 X σ 0 [(0, .ref this), (1, .int p1)] [] _
  unfold f_X10_isField
  refine bj_iload_n dX10_isField_0 rfl 1 rfl ?_
  refine bj_aload_nS dX10_isField_1 rfl 0 rfl ?_
  refine bj_getI (ci := 11) (k := 7) (C := RX10) (T := TX10) (N := 49) rfl hi_X10_isField_X10 (by decide) rfl fl_X10_isField_128 (Or.inl rfl) dX10_isField_2 (fun v1 h2 => ?_)
  refine bj_callI (br_S (As := [.int p1, .int v1]) (rest := []) (c_X10_isIn X p1 v1 σ) rfl g_X10_isField_X10_isIn_120 hd_X10_isIn rfl ⟨by decide, by decide⟩ rfl (Nat.le_of_ble_eq_true rfl) dX10_isField_5) (fun v3 σ4 h5 => ?_)
  exact bj_zret dX10_isField_8
/-! BeetHouseModel.isLorry(I)Z -/
theorem hi_X10_isLorry_X10 : ∀ w ∈ u_ws RX10 TX10 49, w ∈ wsX10_isLorry := fun _ h => (List.mem_cons_of_mem _ (List.mem_append_right _ h))
set_option maxRecDepth 100000 in
theorem fl_X10_isLorry_131 : bh_fl wsX10_isLorry yX10_isLorry.cls 131 "BeetHouseModel" "lorries" "I" := Or.inl (List.mem_of_getElem? (i := 1) rfl)
set_option maxRecDepth 100000 in
theorem g_X10_isLorry_X10_isIn_120 : GoodIn wsX10_isLorry (va_wsS yX10_isLorry.cls 120 yX10_isIn wsX10_isIn) := goodIn_r _ [2, 3, 4, 5] rfl (by decide +kernel)
def f_X10_isLorry (this : Nat) (p1 : Int32) (σ : bh_S) : Option (Int32 × bh_S) :=
  (bh_rdI σ 11 this 8).bind fun v1 =>
  bh_bnd (f_X10_isIn p1 v1 σ) fun v3 σ4 =>
  bh_retZ σ4 v3
set_option maxHeartbeats 4000000 in
set_option maxRecDepth 100000 in
theorem c_X10_isLorry (X : bh_X) (this : Nat) (p1 : Int32) (σ : bh_S) : bh_MX eI X yX10_isLorry wsX10_isLorry 1 21 [.ref this, .int p1] σ (f_X10_isLorry this p1 σ) := by
  refine bh_enter (cc := cX10_isLorry) (NL := 2) (ret := (some .boolean)) (by decide) rfl (Nat.le_of_ble_eq_true rfl) (fun X => ?_)
  show bh_J eI yX10_isLorry cX10_isLorry wsX10_isLorry (some .boolean) 2 1 21 X σ 0 [(0, .ref this), (1, .int p1)] [] _
  unfold f_X10_isLorry
  refine bj_iload_n dX10_isLorry_0 rfl 1 rfl ?_
  refine bj_aload_nS dX10_isLorry_1 rfl 0 rfl ?_
  refine bj_getI (ci := 11) (k := 8) (C := RX10) (T := TX10) (N := 49) rfl hi_X10_isLorry_X10 (by decide) rfl fl_X10_isLorry_131 (Or.inl rfl) dX10_isLorry_2 (fun v1 h2 => ?_)
  refine bj_callI (br_S (As := [.int p1, .int v1]) (rest := []) (c_X10_isIn X p1 v1 σ) rfl g_X10_isLorry_X10_isIn_120 hd_X10_isIn rfl ⟨by decide, by decide⟩ rfl (Nat.le_of_ble_eq_true rfl) dX10_isLorry_5) (fun v3 σ4 h5 => ?_)
  exact bj_zret dX10_isLorry_8
/-! BeetHouseModel.gang(III)I -/
set_option maxRecDepth 100000 in
theorem g_X10_gang_X10_isIn_120 : GoodIn wsX10_gang (va_wsS yX10_gang.cls 120 yX10_isIn wsX10_isIn) := goodIn_r _ [3, 4, 5, 6] rfl (by decide +kernel)
set_option maxRecDepth 100000 in
theorem g_X10_gang_X10_isField_134 : GoodIn wsX10_gang (wsV yX10_gang.cls 134 RX10 yX10_isField wsX10_isField) := goodIn_r _ [7, 8, 9, 5, 10, 11, 3, 4, 5, 6, 17, 18, 19, 20, 21, 22, 23, 24, 25, 26, 27, 28, 29, 30, 31, 32, 33, 34, 35, 36, 37, 38, 39, 40, 41, 42, 43, 44, 45, 46, 47, 48, 49, 50, 51, 52, 53, 54, 55, 56, 57, 58, 59, 60, 61, 62, 63, 64, 65] rfl (by decide +kernel)
theorem hi_X10_gang_X10 : ∀ w ∈ u_ws RX10 TX10 49, w ∈ wsX10_gang := fun _ h => (List.mem_cons_of_mem _ (List.mem_append_right _ h))
set_option maxRecDepth 100000 in
theorem fl_X10_gang_72 : bh_fl wsX10_gang yX10_gang.cls 72 "BeetHouseModel" "gangRate" "[I" := Or.inl (List.mem_of_getElem? (i := 1) rfl)
set_option maxRecDepth 100000 in
theorem fl_X10_gang_75 : bh_fl wsX10_gang yX10_gang.cls 75 "BeetHouseModel" "gangField" "[I" := Or.inl (List.mem_of_getElem? (i := 2) rfl)
set_option maxRecDepth 100000 in
theorem g_X10_gang_X10_refuse_124 : GoodIn wsX10_gang (wsV yX10_gang.cls 124 RX10 yX10_refuse wsX10_refuse) := goodIn_r _ [12, 13, 14, 5, 15, 16, 17, 18, 19, 20, 21, 22, 23, 24, 25, 26, 27, 28, 29, 30, 31, 32, 33, 34, 35, 36, 37, 38, 39, 40, 41, 42, 43, 44, 45, 46, 47, 48, 49, 50, 51, 52, 53, 54, 55, 56, 57, 58, 59, 60, 61, 62, 63, 64, 65] rfl (by decide +kernel)
def f_X10_gang_b21 (this : Nat) (σ : bh_S) : Option (Int32 × bh_S) :=
  (bh_ck σ this 11).bind fun _ =>
  bh_bnd (f_X10_refuse this (-1) σ) fun v2 σ3 =>
  some (v2, σ3)
set_option maxHeartbeats 4000000 in
set_option maxRecDepth 100000 in
theorem j_X10_gang_b21 (X : bh_X) (this : Nat) (σ : bh_S) : bh_J eI yX10_gang cX10_gang wsX10_gang (some .int) 4 2 42 X σ 21 [(0, .ref this)] [] (f_X10_gang_b21 this σ) := by
  unfold f_X10_gang_b21
  refine bj_aload_nS dX10_gang_21 rfl 0 rfl ?_
  refine bj_iconst (v := (-1)) dX10_gang_22 (by decide) ?_
  refine bj_op (fun _ h1 => ?_)
  refine bj_callI (br_V (As := [.int (-1)]) (rest := []) (q := (RX10, TX10, 49)) (c_X10_refuse X this (-1) σ) rfl g_X10_gang_X10_refuse_124 rfl (bh_ck_spec h1) ⟨rfl, hd_X10_refuse⟩ rfl ⟨by decide, by decide⟩ rfl (Nat.le_of_ble_eq_true rfl) dX10_gang_23) (fun v2 σ3 h4 => ?_)
  exact bj_iret dX10_gang_26
def f_X10_gang_b27 (this : Nat) (x1 : Int32) (x2 : Int32) (x3 : Int32) (σ : bh_S) : Option (Int32 × bh_S) :=
  if 0 ≤ x2 then
    if x2 ≤ 100 then
      (bh_rdR σ 11 this 31).bind fun v3 =>
      (v3).bind fun a5 =>
      (bh_stI σ 12 a5 x1 x2).bind fun σ7 =>
      (bh_rdR σ7 11 this 32).bind fun v9 =>
      (v9).bind fun a11 =>
      (bh_stI σ7 12 a11 x1 x3).bind fun σ13 =>
      some (1, σ13)
    else
      (bh_ck σ this 11).bind fun _ =>
      bh_bnd (f_X10_refuse this (-6) σ) fun v16 σ17 =>
      some (v16, σ17)
  else
    (bh_ck σ this 11).bind fun _ =>
    bh_bnd (f_X10_refuse this (-4) σ) fun v20 σ21 =>
    some (v20, σ21)
set_option maxHeartbeats 4000000 in
set_option maxRecDepth 100000 in
theorem j_X10_gang_b27 (X : bh_X) (this : Nat) (x1 : Int32) (x2 : Int32) (x3 : Int32) (σ : bh_S) : bh_J eI yX10_gang cX10_gang wsX10_gang (some .int) 4 2 42 X σ 27 [(0, .ref this), (1, .int x1), (2, .int x2), (3, .int x3)] [] (f_X10_gang_b27 this x1 x2 x3 σ) := by
  unfold f_X10_gang_b27
  refine bj_iload_n dX10_gang_27 rfl 2 rfl ?_
  refine bj_if_ge (tgt := 38) dX10_gang_28 (by decide) (fun h1 => ?_) (fun h1 => ?_)
  · refine bj_iload_n dX10_gang_38 rfl 2 rfl ?_
    refine bj_bipush (v := 100) dX10_gang_39 (by decide) ?_
    refine bj_icmp_le (tgt := 51) dX10_gang_41 (by decide) (fun h2 => ?_) (fun h2 => ?_)
    · refine bj_aload_nS dX10_gang_51 rfl 0 rfl ?_
      refine bj_getR (ci := 11) (k := 31) (C := RX10) (T := TX10) (N := 49) rfl hi_X10_gang_X10 (by decide) rfl fl_X10_gang_72 (Or.inl rfl) dX10_gang_52 (fun v3 h4 => ?_)
      refine bj_iload_n dX10_gang_55 rfl 1 rfl ?_
      refine bj_iload_n dX10_gang_56 rfl 2 rfl ?_
      refine bj_nn (fun a5 h6 => ?_)
      subst h6
      refine bj_iast dX10_gang_57 (fun σ7 h8 => ?_)
      refine bj_aload_nS dX10_gang_58 rfl 0 rfl ?_
      refine bj_getR (ci := 11) (k := 32) (C := RX10) (T := TX10) (N := 49) rfl hi_X10_gang_X10 (by decide) rfl fl_X10_gang_75 (Or.inl rfl) dX10_gang_59 (fun v9 h10 => ?_)
      refine bj_iload_n dX10_gang_62 rfl 1 rfl ?_
      refine bj_iload_n dX10_gang_63 rfl 3 rfl ?_
      refine bj_nn (fun a11 h12 => ?_)
      subst h12
      refine bj_iast dX10_gang_64 (fun σ13 h14 => ?_)
      refine bj_iconst (v := 1) dX10_gang_65 (by decide) ?_
      exact bj_iret dX10_gang_66
    · refine bj_aload_nS dX10_gang_44 rfl 0 rfl ?_
      refine bj_bipush (v := (-6)) dX10_gang_45 (by decide) ?_
      refine bj_op (fun _ h15 => ?_)
      refine bj_callI (br_V (As := [.int (-6)]) (rest := []) (q := (RX10, TX10, 49)) (c_X10_refuse X this (-6) σ) rfl g_X10_gang_X10_refuse_124 rfl (bh_ck_spec h15) ⟨rfl, hd_X10_refuse⟩ rfl ⟨by decide, by decide⟩ rfl (Nat.le_of_ble_eq_true rfl) dX10_gang_47) (fun v16 σ17 h18 => ?_)
      exact bj_iret dX10_gang_50
  · refine bj_aload_nS dX10_gang_31 rfl 0 rfl ?_
    refine bj_bipush (v := (-4)) dX10_gang_32 (by decide) ?_
    refine bj_op (fun _ h19 => ?_)
    refine bj_callI (br_V (As := [.int (-4)]) (rest := []) (q := (RX10, TX10, 49)) (c_X10_refuse X this (-4) σ) rfl g_X10_gang_X10_refuse_124 rfl (bh_ck_spec h19) ⟨rfl, hd_X10_refuse⟩ rfl ⟨by decide, by decide⟩ rfl (Nat.le_of_ble_eq_true rfl) dX10_gang_34) (fun v20 σ21 h22 => ?_)
    exact bj_iret dX10_gang_37
def f_X10_gang (this : Nat) (p1 : Int32) (p2 : Int32) (p3 : Int32) (σ : bh_S) : Option (Int32 × bh_S) :=
  bh_bnd (f_X10_isIn p1 4 σ) fun v1 σ2 =>
  if v1 = 0 then
    f_X10_gang_b21 this σ2
  else
    if p3 = (-1) then
      f_X10_gang_b27 this p1 p2 p3 σ2
    else
      (bh_ck σ2 this 11).bind fun _ =>
      bh_bnd (f_X10_isField this p3 σ2) fun v7 σ8 =>
      if v7 = 0 then
        f_X10_gang_b21 this σ8
      else
        f_X10_gang_b27 this p1 p2 p3 σ8
set_option maxHeartbeats 4000000 in
set_option maxRecDepth 100000 in
theorem c_X10_gang (X : bh_X) (this : Nat) (p1 : Int32) (p2 : Int32) (p3 : Int32) (σ : bh_S) : bh_MX eI X yX10_gang wsX10_gang 2 42 [.ref this, .int p1, .int p2, .int p3] σ (f_X10_gang this p1 p2 p3 σ) := by
  refine bh_enter (cc := cX10_gang) (NL := 4) (ret := (some .int)) (by decide) rfl (Nat.le_of_ble_eq_true rfl) (fun X => ?_)
  show bh_J eI yX10_gang cX10_gang wsX10_gang (some .int) 4 2 42 X σ 0 [(0, .ref this), (1, .int p1), (2, .int p2), (3, .int p3)] [] _
  unfold f_X10_gang
  refine bj_iload_n dX10_gang_0 rfl 1 rfl ?_
  refine bj_iconst (v := 4) dX10_gang_1 (by decide) ?_
  refine bj_callI (br_S (As := [.int p1, .int 4]) (rest := []) (c_X10_isIn X p1 4 σ) rfl g_X10_gang_X10_isIn_120 hd_X10_isIn rfl ⟨by decide, by decide⟩ rfl (Nat.le_of_ble_eq_true rfl) dX10_gang_2) (fun v1 σ2 h3 => ?_)
  refine bj_if_eq (tgt := 21) dX10_gang_5 (by decide) (fun h4 => ?_) (fun h4 => ?_)
  · refine bj_sub (lv' := [(0, .ref this)]) [0] rfl ?_
    exact j_X10_gang_b21 X this σ2
  · refine bj_iload_n dX10_gang_8 rfl 3 rfl ?_
    refine bj_iconst (v := (-1)) dX10_gang_9 (by decide) ?_
    refine bj_icmp_eq (tgt := 27) dX10_gang_10 (by decide) (fun h5 => ?_) (fun h5 => ?_)
    · refine bj_sub (lv' := [(0, .ref this), (1, .int p1), (2, .int p2), (3, .int p3)]) [0, 1, 2, 3] rfl ?_
      exact j_X10_gang_b27 X this p1 p2 p3 σ2
    · refine bj_aload_nS dX10_gang_13 rfl 0 rfl ?_
      refine bj_iload_n dX10_gang_14 rfl 3 rfl ?_
      refine bj_op (fun _ h6 => ?_)
      refine bj_callI (br_V (As := [.int p3]) (rest := []) (q := (RX10, TX10, 49)) (c_X10_isField X this p3 σ2) rfl g_X10_gang_X10_isField_134 rfl (bh_ck_spec h6) ⟨rfl, hd_X10_isField⟩ rfl ⟨by decide, by decide⟩ rfl (Nat.le_of_ble_eq_true rfl) dX10_gang_15) (fun v7 σ8 h9 => ?_)
      refine bj_if_ne (tgt := 27) dX10_gang_18 (by decide) (fun h10 => ?_) (fun h10 => ?_)
      · refine bj_sub (lv' := [(0, .ref this), (1, .int p1), (2, .int p2), (3, .int p3)]) [0, 1, 2, 3] rfl ?_
        exact j_X10_gang_b27 X this p1 p2 p3 σ8
      · refine bj_sub (lv' := [(0, .ref this)]) [0] rfl ?_
        exact j_X10_gang_b21 X this σ8
/-! BeetHouseModel.lorry(I)I -/
theorem hi_X10_lorry_X10 : ∀ w ∈ u_ws RX10 TX10 49, w ∈ wsX10_lorry := fun _ h => (List.mem_cons_of_mem _ (List.mem_append_right _ h))
set_option maxRecDepth 100000 in
theorem fl_X10_lorry_131 : bh_fl wsX10_lorry yX10_lorry.cls 131 "BeetHouseModel" "lorries" "I" := Or.inl (List.mem_of_getElem? (i := 1) rfl)
set_option maxRecDepth 100000 in
theorem fl_X10_lorry_78 : bh_fl wsX10_lorry yX10_lorry.cls 78 "BeetHouseModel" "size" "[I" := Or.inl (List.mem_of_getElem? (i := 2) rfl)
set_option maxRecDepth 100000 in
theorem fl_X10_lorry_84 : bh_fl wsX10_lorry yX10_lorry.cls 84 "BeetHouseModel" "to" "[I" := Or.inl (List.mem_of_getElem? (i := 3) rfl)
set_option maxRecDepth 100000 in
theorem fl_X10_lorry_87 : bh_fl wsX10_lorry yX10_lorry.cls 87 "BeetHouseModel" "there" "[I" := Or.inl (List.mem_of_getElem? (i := 4) rfl)
set_option maxRecDepth 100000 in
theorem g_X10_lorry_X10_refuse_124 : GoodIn wsX10_lorry (wsV yX10_lorry.cls 124 RX10 yX10_refuse wsX10_refuse) := goodIn_r _ [5, 6, 7, 8, 9, 10, 11, 12, 13, 14, 15, 16, 17, 18, 19, 20, 21, 22, 23, 24, 25, 26, 27, 28, 29, 30, 31, 32, 33, 34, 35, 36, 37, 38, 39, 40, 41, 42, 43, 44, 45, 46, 47, 48, 49, 50, 51, 52, 53, 54, 55, 56, 57, 58, 59] rfl (by decide +kernel)
def f_X10_lorry_b27 (this : Nat) (σ : bh_S) : Option (Int32 × bh_S) :=
  (bh_ck σ this 11).bind fun _ =>
  bh_bnd (f_X10_refuse this (-6) σ) fun v2 σ3 =>
  some (v2, σ3)
set_option maxHeartbeats 4000000 in
set_option maxRecDepth 100000 in
theorem j_X10_lorry_b27 (X : bh_X) (this : Nat) (σ : bh_S) : bh_J eI yX10_lorry cX10_lorry wsX10_lorry (some .int) 2 1 21 X σ 27 [(0, .ref this)] [] (f_X10_lorry_b27 this σ) := by
  unfold f_X10_lorry_b27
  refine bj_aload_nS dX10_lorry_27 rfl 0 rfl ?_
  refine bj_bipush (v := (-6)) dX10_lorry_28 (by decide) ?_
  refine bj_op (fun _ h1 => ?_)
  refine bj_callI (br_V (As := [.int (-6)]) (rest := []) (q := (RX10, TX10, 49)) (c_X10_refuse X this (-6) σ) rfl g_X10_lorry_X10_refuse_124 rfl (bh_ck_spec h1) ⟨rfl, hd_X10_refuse⟩ rfl ⟨by decide, by decide⟩ rfl (Nat.le_of_ble_eq_true rfl) dX10_lorry_30) (fun v2 σ3 h4 => ?_)
  exact bj_iret dX10_lorry_33
def f_X10_lorry (this : Nat) (p1 : Int32) (σ : bh_S) : Option (Int32 × bh_S) :=
  if 1 ≤ p1 then
    if 100 < p1 then
      f_X10_lorry_b27 this σ
    else
      (bh_rdI σ 11 this 8).bind fun v3 =>
      if v3 = 8 then
        f_X10_lorry_b27 this σ
      else
        (bh_rdR σ 11 this 33).bind fun v6 =>
        (bh_rdI σ 11 this 8).bind fun v8 =>
        (v6).bind fun a10 =>
        (bh_stI σ 12 a10 v8 p1).bind fun σ12 =>
        (bh_rdR σ12 11 this 35).bind fun v14 =>
        (bh_rdI σ12 11 this 8).bind fun v16 =>
        (v14).bind fun a18 =>
        (bh_stI σ12 12 a18 v16 (-9)).bind fun σ20 =>
        (bh_rdR σ20 11 this 36).bind fun v22 =>
        (bh_rdI σ20 11 this 8).bind fun v24 =>
        (v22).bind fun a26 =>
        (bh_stI σ20 12 a26 v24 (-9)).bind fun σ28 =>
        (bh_rdI σ28 11 this 8).bind fun v30 =>
        (bh_wrI σ28 11 this 8 (v30 + 1)).bind fun σ32 =>
        (bh_rdI σ32 11 this 8).bind fun v34 =>
        some (v34 - 1, σ32)
  else
    (bh_ck σ this 11).bind fun _ =>
    bh_bnd (f_X10_refuse this (-4) σ) fun v37 σ38 =>
    some (v37, σ38)
set_option maxHeartbeats 4000000 in
set_option maxRecDepth 100000 in
theorem c_X10_lorry (X : bh_X) (this : Nat) (p1 : Int32) (σ : bh_S) : bh_MX eI X yX10_lorry wsX10_lorry 1 21 [.ref this, .int p1] σ (f_X10_lorry this p1 σ) := by
  refine bh_enter (cc := cX10_lorry) (NL := 2) (ret := (some .int)) (by decide) rfl (Nat.le_of_ble_eq_true rfl) (fun X => ?_)
  show bh_J eI yX10_lorry cX10_lorry wsX10_lorry (some .int) 2 1 21 X σ 0 [(0, .ref this), (1, .int p1)] [] _
  unfold f_X10_lorry
  refine bj_iload_n dX10_lorry_0 rfl 1 rfl ?_
  refine bj_iconst (v := 1) dX10_lorry_1 (by decide) ?_
  refine bj_icmp_ge (tgt := 12) dX10_lorry_2 (by decide) (fun h1 => ?_) (fun h1 => ?_)
  · refine bj_iload_n dX10_lorry_12 rfl 1 rfl ?_
    refine bj_bipush (v := 100) dX10_lorry_13 (by decide) ?_
    refine bj_icmp_gt (tgt := 27) dX10_lorry_15 (by decide) (fun h2 => ?_) (fun h2 => ?_)
    · refine bj_sub (lv' := [(0, .ref this)]) [0] rfl ?_
      exact j_X10_lorry_b27 X this σ
    · refine bj_aload_nS dX10_lorry_18 rfl 0 rfl ?_
      refine bj_getI (ci := 11) (k := 8) (C := RX10) (T := TX10) (N := 49) rfl hi_X10_lorry_X10 (by decide) rfl fl_X10_lorry_131 (Or.inl rfl) dX10_lorry_19 (fun v3 h4 => ?_)
      refine bj_bipush (v := 8) dX10_lorry_22 (by decide) ?_
      refine bj_icmp_ne (tgt := 34) dX10_lorry_24 (by decide) (fun h5 => ?_) (fun h5 => ?_)
      · refine bj_aload_nS dX10_lorry_34 rfl 0 rfl ?_
        refine bj_getR (ci := 11) (k := 33) (C := RX10) (T := TX10) (N := 49) rfl hi_X10_lorry_X10 (by decide) rfl fl_X10_lorry_78 (Or.inl rfl) dX10_lorry_35 (fun v6 h7 => ?_)
        refine bj_aload_nS dX10_lorry_38 rfl 0 rfl ?_
        refine bj_getI (ci := 11) (k := 8) (C := RX10) (T := TX10) (N := 49) rfl hi_X10_lorry_X10 (by decide) rfl fl_X10_lorry_131 (Or.inl rfl) dX10_lorry_39 (fun v8 h9 => ?_)
        refine bj_iload_n dX10_lorry_42 rfl 1 rfl ?_
        refine bj_nn (fun a10 h11 => ?_)
        subst h11
        refine bj_iast dX10_lorry_43 (fun σ12 h13 => ?_)
        refine bj_aload_nS dX10_lorry_44 rfl 0 rfl ?_
        refine bj_getR (ci := 11) (k := 35) (C := RX10) (T := TX10) (N := 49) rfl hi_X10_lorry_X10 (by decide) rfl fl_X10_lorry_84 (Or.inl rfl) dX10_lorry_45 (fun v14 h15 => ?_)
        refine bj_aload_nS dX10_lorry_48 rfl 0 rfl ?_
        refine bj_getI (ci := 11) (k := 8) (C := RX10) (T := TX10) (N := 49) rfl hi_X10_lorry_X10 (by decide) rfl fl_X10_lorry_131 (Or.inl rfl) dX10_lorry_49 (fun v16 h17 => ?_)
        refine bj_bipush (v := (-9)) dX10_lorry_52 (by decide) ?_
        refine bj_nn (fun a18 h19 => ?_)
        subst h19
        refine bj_iast dX10_lorry_54 (fun σ20 h21 => ?_)
        refine bj_aload_nS dX10_lorry_55 rfl 0 rfl ?_
        refine bj_getR (ci := 11) (k := 36) (C := RX10) (T := TX10) (N := 49) rfl hi_X10_lorry_X10 (by decide) rfl fl_X10_lorry_87 (Or.inl rfl) dX10_lorry_56 (fun v22 h23 => ?_)
        refine bj_aload_nS dX10_lorry_59 rfl 0 rfl ?_
        refine bj_getI (ci := 11) (k := 8) (C := RX10) (T := TX10) (N := 49) rfl hi_X10_lorry_X10 (by decide) rfl fl_X10_lorry_131 (Or.inl rfl) dX10_lorry_60 (fun v24 h25 => ?_)
        refine bj_bipush (v := (-9)) dX10_lorry_63 (by decide) ?_
        refine bj_nn (fun a26 h27 => ?_)
        subst h27
        refine bj_iast dX10_lorry_65 (fun σ28 h29 => ?_)
        refine bj_aload_nS dX10_lorry_66 rfl 0 rfl ?_
        refine bj_dup dX10_lorry_67 rfl ?_
        refine bj_getI (ci := 11) (k := 8) (C := RX10) (T := TX10) (N := 49) rfl hi_X10_lorry_X10 (by decide) rfl fl_X10_lorry_131 (Or.inl rfl) dX10_lorry_68 (fun v30 h31 => ?_)
        refine bj_iconst (v := 1) dX10_lorry_71 (by decide) ?_
        refine bj_iadd dX10_lorry_72 ?_
        refine bj_putI (ci := 11) (k := 8) (C := RX10) (T := TX10) (N := 49) rfl hi_X10_lorry_X10 (by decide) rfl fl_X10_lorry_131 (Or.inl rfl) tyX10 tyX10_ok nmX10 rfl (Or.inl rfl) dX10_lorry_73 (fun σ32 h33 => ?_)
        refine bj_aload_nS dX10_lorry_76 rfl 0 rfl ?_
        refine bj_getI (ci := 11) (k := 8) (C := RX10) (T := TX10) (N := 49) rfl hi_X10_lorry_X10 (by decide) rfl fl_X10_lorry_131 (Or.inl rfl) dX10_lorry_77 (fun v34 h35 => ?_)
        refine bj_iconst (v := 1) dX10_lorry_80 (by decide) ?_
        refine bj_isub dX10_lorry_81 ?_
        exact bj_iret dX10_lorry_82
      · refine bj_sub (lv' := [(0, .ref this)]) [0] rfl ?_
        exact j_X10_lorry_b27 X this σ
  · refine bj_aload_nS dX10_lorry_5 rfl 0 rfl ?_
    refine bj_bipush (v := (-4)) dX10_lorry_6 (by decide) ?_
    refine bj_op (fun _ h36 => ?_)
    refine bj_callI (br_V (As := [.int (-4)]) (rest := []) (q := (RX10, TX10, 49)) (c_X10_refuse X this (-4) σ) rfl g_X10_lorry_X10_refuse_124 rfl (bh_ck_spec h36) ⟨rfl, hd_X10_refuse⟩ rfl ⟨by decide, by decide⟩ rfl (Nat.le_of_ble_eq_true rfl) dX10_lorry_8) (fun v37 σ38 h39 => ?_)
    exact bj_iret dX10_lorry_11
/-! BeetHouseModel.goes(II)V -/
theorem hi_X10_goes_X10 : ∀ w ∈ u_ws RX10 TX10 49, w ∈ wsX10_goes := fun _ h => (List.mem_cons_of_mem _ (List.mem_append_right _ h))
set_option maxRecDepth 100000 in
theorem fl_X10_goes_81 : bh_fl wsX10_goes yX10_goes.cls 81 "BeetHouseModel" "does" "[I" := Or.inl (List.mem_of_getElem? (i := 1) rfl)
set_option maxRecDepth 100000 in
theorem fl_X10_goes_84 : bh_fl wsX10_goes yX10_goes.cls 84 "BeetHouseModel" "to" "[I" := Or.inl (List.mem_of_getElem? (i := 2) rfl)
set_option maxRecDepth 100000 in
theorem fl_X10_goes_87 : bh_fl wsX10_goes yX10_goes.cls 87 "BeetHouseModel" "there" "[I" := Or.inl (List.mem_of_getElem? (i := 3) rfl)
set_option maxRecDepth 100000 in
theorem fl_X10_goes_138 : bh_fl wsX10_goes yX10_goes.cls 138 "BeetHouseModel" "hour" "I" := Or.inl (List.mem_of_getElem? (i := 4) rfl)
set_option maxRecDepth 100000 in
theorem fl_X10_goes_41 : bh_fl wsX10_goes yX10_goes.cls 41 "BeetHouseModel" "way" "[I" := Or.inl (List.mem_of_getElem? (i := 5) rfl)
def f_X10_goes (this : Nat) (p1 : Int32) (p2 : Int32) (σ : bh_S) : Option (Unit × bh_S) :=
  (bh_rdR σ 11 this 34).bind fun v1 =>
  (v1).bind fun a3 =>
  (bh_stI σ 12 a3 p1 1).bind fun σ5 =>
  (bh_rdR σ5 11 this 35).bind fun v7 =>
  (v7).bind fun a9 =>
  (bh_stI σ5 12 a9 p1 p2).bind fun σ11 =>
  (bh_rdR σ11 11 this 36).bind fun v13 =>
  (bh_rdI σ11 11 this 6).bind fun v15 =>
  (bh_rdR σ11 11 this 21).bind fun v17 =>
  (v17).bind fun a19 =>
  (bh_ldI σ11 12 a19 p2).bind fun v21 =>
  (v13).bind fun a23 =>
  (bh_stI σ11 12 a23 p1 (v15 + v21)).bind fun σ25 =>
  some ((), σ25)
set_option maxHeartbeats 4000000 in
set_option maxRecDepth 100000 in
theorem c_X10_goes (X : bh_X) (this : Nat) (p1 : Int32) (p2 : Int32) (σ : bh_S) : bh_MX eU X yX10_goes wsX10_goes 0 0 [.ref this, .int p1, .int p2] σ (f_X10_goes this p1 p2 σ) := by
  refine bh_enter (cc := cX10_goes) (NL := 3) (ret := none) (by decide) rfl (Nat.le_of_ble_eq_true rfl) (fun X => ?_)
  show bh_J eU yX10_goes cX10_goes wsX10_goes none 3 0 0 X σ 0 [(0, .ref this), (1, .int p1), (2, .int p2)] [] _
  unfold f_X10_goes
  refine bj_aload_nS dX10_goes_0 rfl 0 rfl ?_
  refine bj_getR (ci := 11) (k := 34) (C := RX10) (T := TX10) (N := 49) rfl hi_X10_goes_X10 (by decide) rfl fl_X10_goes_81 (Or.inl rfl) dX10_goes_1 (fun v1 h2 => ?_)
  refine bj_iload_n dX10_goes_4 rfl 1 rfl ?_
  refine bj_iconst (v := 1) dX10_goes_5 (by decide) ?_
  refine bj_nn (fun a3 h4 => ?_)
  subst h4
  refine bj_iast dX10_goes_6 (fun σ5 h6 => ?_)
  refine bj_aload_nS dX10_goes_7 rfl 0 rfl ?_
  refine bj_getR (ci := 11) (k := 35) (C := RX10) (T := TX10) (N := 49) rfl hi_X10_goes_X10 (by decide) rfl fl_X10_goes_84 (Or.inl rfl) dX10_goes_8 (fun v7 h8 => ?_)
  refine bj_iload_n dX10_goes_11 rfl 1 rfl ?_
  refine bj_iload_n dX10_goes_12 rfl 2 rfl ?_
  refine bj_nn (fun a9 h10 => ?_)
  subst h10
  refine bj_iast dX10_goes_13 (fun σ11 h12 => ?_)
  refine bj_aload_nS dX10_goes_14 rfl 0 rfl ?_
  refine bj_getR (ci := 11) (k := 36) (C := RX10) (T := TX10) (N := 49) rfl hi_X10_goes_X10 (by decide) rfl fl_X10_goes_87 (Or.inl rfl) dX10_goes_15 (fun v13 h14 => ?_)
  refine bj_iload_n dX10_goes_18 rfl 1 rfl ?_
  refine bj_aload_nS dX10_goes_19 rfl 0 rfl ?_
  refine bj_getI (ci := 11) (k := 6) (C := RX10) (T := TX10) (N := 49) rfl hi_X10_goes_X10 (by decide) rfl fl_X10_goes_138 (Or.inl rfl) dX10_goes_20 (fun v15 h16 => ?_)
  refine bj_aload_nS dX10_goes_23 rfl 0 rfl ?_
  refine bj_getR (ci := 11) (k := 21) (C := RX10) (T := TX10) (N := 49) rfl hi_X10_goes_X10 (by decide) rfl fl_X10_goes_41 (Or.inl rfl) dX10_goes_24 (fun v17 h18 => ?_)
  refine bj_iload_n dX10_goes_27 rfl 2 rfl ?_
  refine bj_nn (fun a19 h20 => ?_)
  subst h20
  refine bj_iald dX10_goes_28 (fun v21 h22 => ?_)
  refine bj_iadd dX10_goes_29 ?_
  refine bj_nn (fun a23 h24 => ?_)
  subst h24
  refine bj_iast dX10_goes_30 (fun σ25 h26 => ?_)
  exact bj_vret dX10_goes_31
/-! BeetHouseModel.send(II)I -/
set_option maxRecDepth 100000 in
theorem g_X10_send_X10_isLorry_141 : GoodIn wsX10_send (wsV yX10_send.cls 141 RX10 yX10_isLorry wsX10_isLorry) := goodIn_r _ [3, 4, 5, 6, 7, 8, 9, 10, 6, 11, 29, 30, 31, 32, 33, 34, 35, 36, 37, 38, 39, 40, 41, 42, 43, 44, 45, 46, 47, 48, 49, 50, 51, 52, 53, 54, 55, 56, 57, 58, 59, 60, 61, 62, 63, 64, 65, 66, 67, 68, 69, 70, 71, 72, 73, 74, 75, 76, 77] rfl (by decide +kernel)
set_option maxRecDepth 100000 in
theorem g_X10_send_X10_isField_134 : GoodIn wsX10_send (wsV yX10_send.cls 134 RX10 yX10_isField wsX10_isField) := goodIn_r _ [12, 13, 14, 6, 15, 16, 9, 10, 6, 11, 29, 30, 31, 32, 33, 34, 35, 36, 37, 38, 39, 40, 41, 42, 43, 44, 45, 46, 47, 48, 49, 50, 51, 52, 53, 54, 55, 56, 57, 58, 59, 60, 61, 62, 63, 64, 65, 66, 67, 68, 69, 70, 71, 72, 73, 74, 75, 76, 77] rfl (by decide +kernel)
theorem hi_X10_send_X10 : ∀ w ∈ u_ws RX10 TX10 49, w ∈ wsX10_send := fun _ h => (List.mem_cons_of_mem _ (List.mem_append_right _ h))
set_option maxRecDepth 100000 in
theorem fl_X10_send_81 : bh_fl wsX10_send yX10_send.cls 81 "BeetHouseModel" "does" "[I" := Or.inl (List.mem_of_getElem? (i := 1) rfl)
set_option maxRecDepth 100000 in
theorem g_X10_send_X10_goes_144 : GoodIn wsX10_send (wsV yX10_send.cls 144 RX10 yX10_goes wsX10_goes) := goodIn_r _ [22, 23, 24, 6, 25, 1, 26, 2, 27, 28, 29, 30, 31, 32, 33, 34, 35, 36, 37, 38, 39, 40, 41, 42, 43, 44, 45, 46, 47, 48, 49, 50, 51, 52, 53, 54, 55, 56, 57, 58, 59, 60, 61, 62, 63, 64, 65, 66, 67, 68, 69, 70, 71, 72, 73, 74, 75, 76, 77] rfl (by decide +kernel)
set_option maxRecDepth 100000 in
theorem fl_X10_send_87 : bh_fl wsX10_send yX10_send.cls 87 "BeetHouseModel" "there" "[I" := Or.inl (List.mem_of_getElem? (i := 2) rfl)
set_option maxRecDepth 100000 in
theorem g_X10_send_X10_refuse_124 : GoodIn wsX10_send (wsV yX10_send.cls 124 RX10 yX10_refuse wsX10_refuse) := goodIn_r _ [17, 18, 19, 6, 20, 21, 29, 30, 31, 32, 33, 34, 35, 36, 37, 38, 39, 40, 41, 42, 43, 44, 45, 46, 47, 48, 49, 50, 51, 52, 53, 54, 55, 56, 57, 58, 59, 60, 61, 62, 63, 64, 65, 66, 67, 68, 69, 70, 71, 72, 73, 74, 75, 76, 77] rfl (by decide +kernel)
def f_X10_send_b16 (this : Nat) (σ : bh_S) : Option (Int32 × bh_S) :=
  (bh_ck σ this 11).bind fun _ =>
  bh_bnd (f_X10_refuse this (-1) σ) fun v2 σ3 =>
  some (v2, σ3)
set_option maxHeartbeats 4000000 in
set_option maxRecDepth 100000 in
theorem j_X10_send_b16 (X : bh_X) (this : Nat) (σ : bh_S) : bh_J eI yX10_send cX10_send wsX10_send (some .int) 3 2 42 X σ 16 [(0, .ref this)] [] (f_X10_send_b16 this σ) := by
  unfold f_X10_send_b16
  refine bj_aload_nS dX10_send_16 rfl 0 rfl ?_
  refine bj_iconst (v := (-1)) dX10_send_17 (by decide) ?_
  refine bj_op (fun _ h1 => ?_)
  refine bj_callI (br_V (As := [.int (-1)]) (rest := []) (q := (RX10, TX10, 49)) (c_X10_refuse X this (-1) σ) rfl g_X10_send_X10_refuse_124 rfl (bh_ck_spec h1) ⟨rfl, hd_X10_refuse⟩ rfl ⟨by decide, by decide⟩ rfl (Nat.le_of_ble_eq_true rfl) dX10_send_18) (fun v2 σ3 h4 => ?_)
  exact bj_iret dX10_send_21
def f_X10_send (this : Nat) (p1 : Int32) (p2 : Int32) (σ : bh_S) : Option (Int32 × bh_S) :=
  (bh_ck σ this 11).bind fun _ =>
  bh_bnd (f_X10_isLorry this p1 σ) fun v2 σ3 =>
  if v2 = 0 then
    f_X10_send_b16 this σ3
  else
    (bh_ck σ3 this 11).bind fun _ =>
    bh_bnd (f_X10_isField this p2 σ3) fun v7 σ8 =>
    if v7 = 0 then
      f_X10_send_b16 this σ8
    else
      (bh_rdR σ8 11 this 34).bind fun v11 =>
      (v11).bind fun a13 =>
      (bh_ldI σ8 12 a13 p1).bind fun v15 =>
      if v15 = 0 then
        (bh_ck σ8 this 11).bind fun _ =>
        bh_bnd (f_X10_goes this p1 p2 σ8) fun v19 σ20 =>
        (bh_rdR σ20 11 this 36).bind fun v22 =>
        (v22).bind fun a24 =>
        (bh_ldI σ20 12 a24 p1).bind fun v26 =>
        some (v26, σ20)
      else
        (bh_ck σ8 this 11).bind fun _ =>
        bh_bnd (f_X10_refuse this (-3) σ8) fun v29 σ30 =>
        some (v29, σ30)
set_option maxHeartbeats 4000000 in
set_option maxRecDepth 100000 in
theorem c_X10_send (X : bh_X) (this : Nat) (p1 : Int32) (p2 : Int32) (σ : bh_S) : bh_MX eI X yX10_send wsX10_send 2 42 [.ref this, .int p1, .int p2] σ (f_X10_send this p1 p2 σ) := by
  refine bh_enter (cc := cX10_send) (NL := 3) (ret := (some .int)) (by decide) rfl (Nat.le_of_ble_eq_true rfl) (fun X => ?_)
  show bh_J eI yX10_send cX10_send wsX10_send (some .int) 3 2 42 X σ 0 [(0, .ref this), (1, .int p1), (2, .int p2)] [] _
  unfold f_X10_send
  refine bj_aload_nS dX10_send_0 rfl 0 rfl ?_
  refine bj_iload_n dX10_send_1 rfl 1 rfl ?_
  refine bj_op (fun _ h1 => ?_)
  refine bj_callI (br_V (As := [.int p1]) (rest := []) (q := (RX10, TX10, 49)) (c_X10_isLorry X this p1 σ) rfl g_X10_send_X10_isLorry_141 rfl (bh_ck_spec h1) ⟨rfl, hd_X10_isLorry⟩ rfl ⟨by decide, by decide⟩ rfl (Nat.le_of_ble_eq_true rfl) dX10_send_2) (fun v2 σ3 h4 => ?_)
  refine bj_if_eq (tgt := 16) dX10_send_5 (by decide) (fun h5 => ?_) (fun h5 => ?_)
  · refine bj_sub (lv' := [(0, .ref this)]) [0] rfl ?_
    exact j_X10_send_b16 X this σ3
  · refine bj_aload_nS dX10_send_8 rfl 0 rfl ?_
    refine bj_iload_n dX10_send_9 rfl 2 rfl ?_
    refine bj_op (fun _ h6 => ?_)
    refine bj_callI (br_V (As := [.int p2]) (rest := []) (q := (RX10, TX10, 49)) (c_X10_isField X this p2 σ3) rfl g_X10_send_X10_isField_134 rfl (bh_ck_spec h6) ⟨rfl, hd_X10_isField⟩ rfl ⟨by decide, by decide⟩ rfl (Nat.le_of_ble_eq_true rfl) dX10_send_10) (fun v7 σ8 h9 => ?_)
    refine bj_if_ne (tgt := 22) dX10_send_13 (by decide) (fun h10 => ?_) (fun h10 => ?_)
    · refine bj_aload_nS dX10_send_22 rfl 0 rfl ?_
      refine bj_getR (ci := 11) (k := 34) (C := RX10) (T := TX10) (N := 49) rfl hi_X10_send_X10 (by decide) rfl fl_X10_send_81 (Or.inl rfl) dX10_send_23 (fun v11 h12 => ?_)
      refine bj_iload_n dX10_send_26 rfl 1 rfl ?_
      refine bj_nn (fun a13 h14 => ?_)
      subst h14
      refine bj_iald dX10_send_27 (fun v15 h16 => ?_)
      refine bj_if_eq (tgt := 38) dX10_send_28 (by decide) (fun h17 => ?_) (fun h17 => ?_)
      · refine bj_aload_nS dX10_send_38 rfl 0 rfl ?_
        refine bj_iload_n dX10_send_39 rfl 1 rfl ?_
        refine bj_iload_n dX10_send_40 rfl 2 rfl ?_
        refine bj_op (fun _ h18 => ?_)
        refine bj_callU (br_V (As := [.int p1, .int p2]) (rest := []) (q := (RX10, TX10, 49)) (c_X10_goes X this p1 p2 σ8) rfl g_X10_send_X10_goes_144 rfl (bh_ck_spec h18) ⟨rfl, hd_X10_goes⟩ rfl ⟨by decide, by decide⟩ rfl (Nat.le_of_ble_eq_true rfl) dX10_send_41) (fun v19 σ20 h21 => ?_)
        refine bj_aload_nS dX10_send_44 rfl 0 rfl ?_
        refine bj_getR (ci := 11) (k := 36) (C := RX10) (T := TX10) (N := 49) rfl hi_X10_send_X10 (by decide) rfl fl_X10_send_87 (Or.inl rfl) dX10_send_45 (fun v22 h23 => ?_)
        refine bj_iload_n dX10_send_48 rfl 1 rfl ?_
        refine bj_nn (fun a24 h25 => ?_)
        subst h25
        refine bj_iald dX10_send_49 (fun v26 h27 => ?_)
        exact bj_iret dX10_send_50
      · refine bj_aload_nS dX10_send_31 rfl 0 rfl ?_
        refine bj_bipush (v := (-3)) dX10_send_32 (by decide) ?_
        refine bj_op (fun _ h28 => ?_)
        refine bj_callI (br_V (As := [.int (-3)]) (rest := []) (q := (RX10, TX10, 49)) (c_X10_refuse X this (-3) σ8) rfl g_X10_send_X10_refuse_124 rfl (bh_ck_spec h28) ⟨rfl, hd_X10_refuse⟩ rfl ⟨by decide, by decide⟩ rfl (Nat.le_of_ble_eq_true rfl) dX10_send_34) (fun v29 σ30 h31 => ?_)
        exact bj_iret dX10_send_37
    · refine bj_sub (lv' := [(0, .ref this)]) [0] rfl ?_
      exact j_X10_send_b16 X this σ8
/-! BeetHouseModel.isLeft(I)Z -/
theorem hi_X10_isLeft_X10 : ∀ w ∈ u_ws RX10 TX10 49, w ∈ wsX10_isLeft := fun _ h => (List.mem_cons_of_mem _ (List.mem_append_right _ h))
set_option maxRecDepth 100000 in
theorem fl_X10_isLeft_44 : bh_fl wsX10_isLeft yX10_isLeft.cls 44 "BeetHouseModel" "roots" "[I" := Or.inl (List.mem_of_getElem? (i := 1) rfl)
set_option maxRecDepth 100000 in
theorem fl_X10_isLeft_131 : bh_fl wsX10_isLeft yX10_isLeft.cls 131 "BeetHouseModel" "lorries" "I" := Or.inl (List.mem_of_getElem? (i := 2) rfl)
set_option maxRecDepth 100000 in
theorem fl_X10_isLeft_81 : bh_fl wsX10_isLeft yX10_isLeft.cls 81 "BeetHouseModel" "does" "[I" := Or.inl (List.mem_of_getElem? (i := 3) rfl)
set_option maxRecDepth 100000 in
theorem fl_X10_isLeft_84 : bh_fl wsX10_isLeft yX10_isLeft.cls 84 "BeetHouseModel" "to" "[I" := Or.inl (List.mem_of_getElem? (i := 4) rfl)
set_option maxRecDepth 100000 in
theorem fl_X10_isLeft_78 : bh_fl wsX10_isLeft yX10_isLeft.cls 78 "BeetHouseModel" "size" "[I" := Or.inl (List.mem_of_getElem? (i := 5) rfl)
def f_X10_isLeft_b48 (N : Nat) (k9 : Nat → Int32 → Int32 → Int32 → bh_S → Option (Int32 × bh_S)) (this : Nat) (x1 : Int32) (x3 : Int32) (t0 : Int32) (t1 : Int32) (σ : bh_S) : Option (Int32 × bh_S) :=
  k9 this x1 (t1 - t0) (x3 + 1) σ
set_option maxHeartbeats 4000000 in
set_option maxRecDepth 100000 in
theorem j_X10_isLeft_b48 (X : bh_X) (N : Nat) (k9 : Nat → Int32 → Int32 → Int32 → bh_S → Option (Int32 × bh_S)) (hk9 : ∀ (this : Nat) (x1 : Int32) (x2 : Int32) (x3 : Int32) (σ : bh_S), bh_J eI yX10_isLeft cX10_isLeft wsX10_isLeft (some .boolean) 4 0 0 X σ 9 [(0, .ref this), (1, .int x1), (2, .int x2), (3, .int x3)] [] (k9 this x1 x2 x3 σ)) (this : Nat) (x1 : Int32) (x3 : Int32) (t0 : Int32) (t1 : Int32) (σ : bh_S) : bh_J eI yX10_isLeft cX10_isLeft wsX10_isLeft (some .boolean) 4 0 0 X σ 48 [(0, .ref this), (1, .int x1), (3, .int x3)] [.int t0, .int t1] (f_X10_isLeft_b48 N k9 this x1 x3 t0 t1 σ) := by
  unfold f_X10_isLeft_b48
  refine bj_isub dX10_isLeft_48 ?_
  refine bj_istore_n (lv' := [(2, .int (t1 - t0)), (0, .ref this), (1, .int x1), (3, .int x3)]) dX10_isLeft_49 rfl (by decide) rfl ?_
  refine bj_iinc (v := x3 + 1) (lv' := [(3, .int (x3 + 1)), (2, .int (t1 - t0)), (0, .ref this), (1, .int x1)]) dX10_isLeft_50 3 rfl rfl (by decide) rfl ?_
  refine bj_goto (tgt := 9) dX10_isLeft_53 (by decide) ?_
  refine bj_sub (lv' := [(0, .ref this), (1, .int x1), (2, .int (t1 - t0)), (3, .int (x3 + 1))]) [2, 3, 1, 0] rfl ?_
  exact hk9 this x1 (t1 - t0) (x3 + 1) σ
def f_X10_isLeft_b47 (N : Nat) (k9 : Nat → Int32 → Int32 → Int32 → bh_S → Option (Int32 × bh_S)) (this : Nat) (x1 : Int32) (x3 : Int32) (t0 : Int32) (σ : bh_S) : Option (Int32 × bh_S) :=
  f_X10_isLeft_b48 N k9 this x1 x3 0 t0 σ
set_option maxHeartbeats 4000000 in
set_option maxRecDepth 100000 in
theorem j_X10_isLeft_b47 (X : bh_X) (N : Nat) (k9 : Nat → Int32 → Int32 → Int32 → bh_S → Option (Int32 × bh_S)) (hk9 : ∀ (this : Nat) (x1 : Int32) (x2 : Int32) (x3 : Int32) (σ : bh_S), bh_J eI yX10_isLeft cX10_isLeft wsX10_isLeft (some .boolean) 4 0 0 X σ 9 [(0, .ref this), (1, .int x1), (2, .int x2), (3, .int x3)] [] (k9 this x1 x2 x3 σ)) (this : Nat) (x1 : Int32) (x3 : Int32) (t0 : Int32) (σ : bh_S) : bh_J eI yX10_isLeft cX10_isLeft wsX10_isLeft (some .boolean) 4 0 0 X σ 47 [(0, .ref this), (1, .int x1), (3, .int x3)] [.int t0] (f_X10_isLeft_b47 N k9 this x1 x3 t0 σ) := by
  unfold f_X10_isLeft_b47
  refine bj_iconst (v := 0) dX10_isLeft_47 (by decide) ?_
  refine bj_sub (lv' := [(0, .ref this), (1, .int x1), (3, .int x3)]) [0, 1, 2] rfl ?_
  exact j_X10_isLeft_b48 X N k9 hk9 this x1 x3 0 t0 σ
def f_X10_isLeft_b9 (N : Nat) : Nat → Nat → Int32 → Int32 → Int32 → bh_S → Option (Int32 × bh_S)
  | 0, _, _, _, _, _ => none
  | n + 1, this, x1, x2, x3, σ =>
    (bh_rdI σ 11 this 8).bind fun v1 =>
    if v1 ≤ x3 then
      if x2 ≤ 0 then
        bh_retZ σ 0
      else
        bh_retZ σ 1
    else
      (bh_rdR σ 11 this 34).bind fun v5 =>
      (v5).bind fun a7 =>
      (bh_ldI σ 12 a7 x3).bind fun v9 =>
      if v9 = 1 then
        (bh_rdR σ 11 this 35).bind fun v12 =>
        (v12).bind fun a14 =>
        (bh_ldI σ 12 a14 x3).bind fun v16 =>
        if v16 = x1 then
          (bh_rdR σ 11 this 33).bind fun v19 =>
          (v19).bind fun a21 =>
          (bh_ldI σ 12 a21 x3).bind fun v23 =>
          f_X10_isLeft_b48 N (f_X10_isLeft_b9 N n) this x1 x3 v23 x2 σ
        else
          f_X10_isLeft_b47 N (f_X10_isLeft_b9 N n) this x1 x3 x2 σ
      else
        f_X10_isLeft_b47 N (f_X10_isLeft_b9 N n) this x1 x3 x2 σ
set_option maxHeartbeats 4000000 in
set_option maxRecDepth 100000 in
theorem j_X10_isLeft_b9 (X : bh_X) (N : Nat) : ∀ (n : Nat) (this : Nat) (x1 : Int32) (x2 : Int32) (x3 : Int32) (σ : bh_S), bh_J eI yX10_isLeft cX10_isLeft wsX10_isLeft (some .boolean) 4 0 0 X σ 9 [(0, .ref this), (1, .int x1), (2, .int x2), (3, .int x3)] [] (f_X10_isLeft_b9 N n this x1 x2 x3 σ) := by
  intro n
  induction n with
  | zero => intro this x1 x2 x3 σ; exact bj_none
  | succ n ih =>
    intro this x1 x2 x3 σ
    unfold f_X10_isLeft_b9
    refine bj_iload_n dX10_isLeft_9 rfl 3 rfl ?_
    refine bj_aload_nS dX10_isLeft_10 rfl 0 rfl ?_
    refine bj_getI (ci := 11) (k := 8) (C := RX10) (T := TX10) (N := 49) rfl hi_X10_isLeft_X10 (by decide) rfl fl_X10_isLeft_131 (Or.inl rfl) dX10_isLeft_11 (fun v1 h2 => ?_)
    refine bj_icmp_ge (tgt := 56) dX10_isLeft_14 (by decide) (fun h3 => ?_) (fun h3 => ?_)
    · refine bj_iload_n dX10_isLeft_56 rfl 2 rfl ?_
      refine bj_if_le (tgt := 64) dX10_isLeft_57 (by decide) (fun h4 => ?_) (fun h4 => ?_)
      · refine bj_iconst (v := 0) dX10_isLeft_64 (by decide) ?_
        exact bj_zret dX10_isLeft_65
      · refine bj_iconst (v := 1) dX10_isLeft_60 (by decide) ?_
        refine bj_goto (tgt := 65) dX10_isLeft_61 (by decide) ?_
        exact bj_zret dX10_isLeft_65
    · refine bj_iload_n dX10_isLeft_17 rfl 2 rfl ?_
      refine bj_aload_nS dX10_isLeft_18 rfl 0 rfl ?_
      refine bj_getR (ci := 11) (k := 34) (C := RX10) (T := TX10) (N := 49) rfl hi_X10_isLeft_X10 (by decide) rfl fl_X10_isLeft_81 (Or.inl rfl) dX10_isLeft_19 (fun v5 h6 => ?_)
      refine bj_iload_n dX10_isLeft_22 rfl 3 rfl ?_
      refine bj_nn (fun a7 h8 => ?_)
      subst h8
      refine bj_iald dX10_isLeft_23 (fun v9 h10 => ?_)
      refine bj_iconst (v := 1) dX10_isLeft_24 (by decide) ?_
      refine bj_icmp_ne (tgt := 47) dX10_isLeft_25 (by decide) (fun h11 => ?_) (fun h11 => ?_)
      · refine bj_sub (lv' := [(0, .ref this), (1, .int x1), (3, .int x3)]) [0, 1, 3] rfl ?_
        exact j_X10_isLeft_b47 X N (f_X10_isLeft_b9 N n) ih this x1 x3 x2 σ
      · refine bj_aload_nS dX10_isLeft_28 rfl 0 rfl ?_
        refine bj_getR (ci := 11) (k := 35) (C := RX10) (T := TX10) (N := 49) rfl hi_X10_isLeft_X10 (by decide) rfl fl_X10_isLeft_84 (Or.inl rfl) dX10_isLeft_29 (fun v12 h13 => ?_)
        refine bj_iload_n dX10_isLeft_32 rfl 3 rfl ?_
        refine bj_nn (fun a14 h15 => ?_)
        subst h15
        refine bj_iald dX10_isLeft_33 (fun v16 h17 => ?_)
        refine bj_iload_n dX10_isLeft_34 rfl 1 rfl ?_
        refine bj_icmp_ne (tgt := 47) dX10_isLeft_35 (by decide) (fun h18 => ?_) (fun h18 => ?_)
        · refine bj_sub (lv' := [(0, .ref this), (1, .int x1), (3, .int x3)]) [0, 1, 3] rfl ?_
          exact j_X10_isLeft_b47 X N (f_X10_isLeft_b9 N n) ih this x1 x3 x2 σ
        · refine bj_aload_nS dX10_isLeft_38 rfl 0 rfl ?_
          refine bj_getR (ci := 11) (k := 33) (C := RX10) (T := TX10) (N := 49) rfl hi_X10_isLeft_X10 (by decide) rfl fl_X10_isLeft_78 (Or.inl rfl) dX10_isLeft_39 (fun v19 h20 => ?_)
          refine bj_iload_n dX10_isLeft_42 rfl 3 rfl ?_
          refine bj_nn (fun a21 h22 => ?_)
          subst h22
          refine bj_iald dX10_isLeft_43 (fun v23 h24 => ?_)
          refine bj_goto (tgt := 48) dX10_isLeft_44 (by decide) ?_
          refine bj_sub (lv' := [(0, .ref this), (1, .int x1), (3, .int x3)]) [0, 1, 3] rfl ?_
          exact j_X10_isLeft_b48 X N (f_X10_isLeft_b9 N n) ih this x1 x3 v23 x2 σ
def f_X10_isLeft (N : Nat) (this : Nat) (p1 : Int32) (σ : bh_S) : Option (Int32 × bh_S) :=
  (bh_rdR σ 11 this 22).bind fun v1 =>
  (v1).bind fun a3 =>
  (bh_ldI σ 12 a3 p1).bind fun v5 =>
  f_X10_isLeft_b9 N N this p1 v5 0 σ
set_option maxHeartbeats 4000000 in
set_option maxRecDepth 100000 in
theorem c_X10_isLeft (X : bh_X) (N : Nat) (this : Nat) (p1 : Int32) (σ : bh_S) : bh_MX eI X yX10_isLeft wsX10_isLeft 0 0 [.ref this, .int p1] σ (f_X10_isLeft N this p1 σ) := by
  refine bh_enter (cc := cX10_isLeft) (NL := 4) (ret := (some .boolean)) (by decide) rfl (Nat.le_of_ble_eq_true rfl) (fun X => ?_)
  show bh_J eI yX10_isLeft cX10_isLeft wsX10_isLeft (some .boolean) 4 0 0 X σ 0 [(0, .ref this), (1, .int p1)] [] _
  unfold f_X10_isLeft
  refine bj_aload_nS dX10_isLeft_0 rfl 0 rfl ?_
  refine bj_getR (ci := 11) (k := 22) (C := RX10) (T := TX10) (N := 49) rfl hi_X10_isLeft_X10 (by decide) rfl fl_X10_isLeft_44 (Or.inl rfl) dX10_isLeft_1 (fun v1 h2 => ?_)
  refine bj_iload_n dX10_isLeft_4 rfl 1 rfl ?_
  refine bj_nn (fun a3 h4 => ?_)
  subst h4
  refine bj_iald dX10_isLeft_5 (fun v5 h6 => ?_)
  refine bj_istore_n (lv' := [(2, .int v5), (0, .ref this), (1, .int p1)]) dX10_isLeft_6 rfl (by decide) rfl ?_
  refine bj_iconst (v := 0) dX10_isLeft_7 (by decide) ?_
  refine bj_istore_n (lv' := [(3, .int 0), (2, .int v5), (0, .ref this), (1, .int p1)]) dX10_isLeft_8 rfl (by decide) rfl ?_
  refine bj_sub (lv' := [(0, .ref this), (1, .int p1), (2, .int v5), (3, .int 0)]) [2, 3, 1, 0] rfl ?_
  exact j_X10_isLeft_b9 X N N this p1 v5 0 σ
/-! BeetHouseModel.owedOf(I)I -/
theorem hi_X10_owedOf_X10 : ∀ w ∈ u_ws RX10 TX10 49, w ∈ wsX10_owedOf := fun _ h => (List.mem_cons_of_mem _ (List.mem_append_right _ h))
set_option maxRecDepth 100000 in
theorem fl_X10_owedOf_128 : bh_fl wsX10_owedOf yX10_owedOf.cls 128 "BeetHouseModel" "fields" "I" := Or.inl (List.mem_of_getElem? (i := 1) rfl)
set_option maxRecDepth 100000 in
theorem fl_X10_owedOf_13 : bh_fl wsX10_owedOf yX10_owedOf.cls 13 "BeetHouseModel" "shares" "[I" := Or.inl (List.mem_of_getElem? (i := 4) rfl)
set_option maxRecDepth 100000 in
theorem fl_X10_owedOf_59 : bh_fl wsX10_owedOf yX10_owedOf.cls 59 "BeetHouseModel" "came" "[I" := Or.inl (List.mem_of_getElem? (i := 2) rfl)
set_option maxRecDepth 100000 in
theorem fl_X10_owedOf_32 : bh_fl wsX10_owedOf yX10_owedOf.cls 32 "BeetHouseModel" "farmer" "[I" := Or.inl (List.mem_of_getElem? (i := 3) rfl)
def f_X10_owedOf_b49 (N : Nat) (k7 : Nat → Int32 → Int32 → Int32 → Int32 → bh_S → Option (Int32 × bh_S)) (this : Nat) (x1 : Int32) (x2 : Int32) (x4 : Int32) (t0 : Int32) (t1 : Int32) (σ : bh_S) : Option (Int32 × bh_S) :=
  k7 this x1 x2 (t1 + t0) (x4 + 1) σ
set_option maxHeartbeats 4000000 in
set_option maxRecDepth 100000 in
theorem j_X10_owedOf_b49 (X : bh_X) (N : Nat) (k7 : Nat → Int32 → Int32 → Int32 → Int32 → bh_S → Option (Int32 × bh_S)) (hk7 : ∀ (this : Nat) (x1 : Int32) (x2 : Int32) (x3 : Int32) (x4 : Int32) (σ : bh_S), bh_J eI yX10_owedOf cX10_owedOf wsX10_owedOf (some .int) 5 0 0 X σ 7 [(0, .ref this), (1, .int x1), (2, .int x2), (3, .int x3), (4, .int x4)] [] (k7 this x1 x2 x3 x4 σ)) (this : Nat) (x1 : Int32) (x2 : Int32) (x4 : Int32) (t0 : Int32) (t1 : Int32) (σ : bh_S) : bh_J eI yX10_owedOf cX10_owedOf wsX10_owedOf (some .int) 5 0 0 X σ 49 [(0, .ref this), (1, .int x1), (2, .int x2), (4, .int x4)] [.int t0, .int t1] (f_X10_owedOf_b49 N k7 this x1 x2 x4 t0 t1 σ) := by
  unfold f_X10_owedOf_b49
  refine bj_iadd dX10_owedOf_49 ?_
  refine bj_istore_n (lv' := [(3, .int (t1 + t0)), (0, .ref this), (1, .int x1), (2, .int x2), (4, .int x4)]) dX10_owedOf_50 rfl (by decide) rfl ?_
  refine bj_iinc (v := x4 + 1) (lv' := [(4, .int (x4 + 1)), (3, .int (t1 + t0)), (0, .ref this), (1, .int x1), (2, .int x2)]) dX10_owedOf_51 4 rfl rfl (by decide) rfl ?_
  refine bj_goto (tgt := 7) dX10_owedOf_54 (by decide) ?_
  refine bj_sub (lv' := [(0, .ref this), (1, .int x1), (2, .int x2), (3, .int (t1 + t0)), (4, .int (x4 + 1))]) [2, 3, 4, 1, 0] rfl ?_
  exact hk7 this x1 x2 (t1 + t0) (x4 + 1) σ
def f_X10_owedOf_b7 (N : Nat) : Nat → Nat → Int32 → Int32 → Int32 → Int32 → bh_S → Option (Int32 × bh_S)
  | 0, _, _, _, _, _, _ => none
  | n + 1, this, x1, x2, x3, x4, σ =>
    (bh_rdI σ 11 this 7).bind fun v1 =>
    if v1 ≤ x4 then
      (bh_rdR σ 11 this 1).bind fun v4 =>
      (v4).bind fun a6 =>
      (bh_ldI σ 12 a6 x1).bind fun v8 =>
      some ((v8 * x2) - (1000 * x3), σ)
    else
      (bh_rdR σ 11 this 27).bind fun v10 =>
      (v10).bind fun a12 =>
      (bh_ldI σ 12 a12 x4).bind fun v14 =>
      (bh_rdR σ 11 this 18).bind fun v16 =>
      (v16).bind fun a18 =>
      (bh_ldI σ 12 a18 x4).bind fun v20 =>
      if v20 = x1 then
        (bh_rdR σ 11 this 27).bind fun v23 =>
        (v23).bind fun a25 =>
        (bh_ldI σ 12 a25 x4).bind fun v27 =>
        f_X10_owedOf_b49 N (f_X10_owedOf_b7 N n) this x1 (x2 + v14) x4 v27 x3 σ
      else
        f_X10_owedOf_b49 N (f_X10_owedOf_b7 N n) this x1 (x2 + v14) x4 0 x3 σ
set_option maxHeartbeats 4000000 in
set_option maxRecDepth 100000 in
theorem j_X10_owedOf_b7 (X : bh_X) (N : Nat) : ∀ (n : Nat) (this : Nat) (x1 : Int32) (x2 : Int32) (x3 : Int32) (x4 : Int32) (σ : bh_S), bh_J eI yX10_owedOf cX10_owedOf wsX10_owedOf (some .int) 5 0 0 X σ 7 [(0, .ref this), (1, .int x1), (2, .int x2), (3, .int x3), (4, .int x4)] [] (f_X10_owedOf_b7 N n this x1 x2 x3 x4 σ) := by
  intro n
  induction n with
  | zero => intro this x1 x2 x3 x4 σ; exact bj_none
  | succ n ih =>
    intro this x1 x2 x3 x4 σ
    unfold f_X10_owedOf_b7
    refine bj_iload dX10_owedOf_7 4 rfl ?_
    refine bj_aload_nS dX10_owedOf_9 rfl 0 rfl ?_
    refine bj_getI (ci := 11) (k := 7) (C := RX10) (T := TX10) (N := 49) rfl hi_X10_owedOf_X10 (by decide) rfl fl_X10_owedOf_128 (Or.inl rfl) dX10_owedOf_10 (fun v1 h2 => ?_)
    refine bj_icmp_ge (tgt := 57) dX10_owedOf_13 (by decide) (fun h3 => ?_) (fun h3 => ?_)
    · refine bj_aload_nS dX10_owedOf_57 rfl 0 rfl ?_
      refine bj_getR (ci := 11) (k := 1) (C := RX10) (T := TX10) (N := 49) rfl hi_X10_owedOf_X10 (by decide) rfl fl_X10_owedOf_13 (Or.inl rfl) dX10_owedOf_58 (fun v4 h5 => ?_)
      refine bj_iload_n dX10_owedOf_61 rfl 1 rfl ?_
      refine bj_nn (fun a6 h7 => ?_)
      subst h7
      refine bj_iald dX10_owedOf_62 (fun v8 h9 => ?_)
      refine bj_iload_n dX10_owedOf_63 rfl 2 rfl ?_
      refine bj_imul dX10_owedOf_64 ?_
      refine bj_sipush (v := 1000) dX10_owedOf_65 (by decide) ?_
      refine bj_iload_n dX10_owedOf_68 rfl 3 rfl ?_
      refine bj_imul dX10_owedOf_69 ?_
      refine bj_isub dX10_owedOf_70 ?_
      exact bj_iret dX10_owedOf_71
    · refine bj_iload_n dX10_owedOf_16 rfl 2 rfl ?_
      refine bj_aload_nS dX10_owedOf_17 rfl 0 rfl ?_
      refine bj_getR (ci := 11) (k := 27) (C := RX10) (T := TX10) (N := 49) rfl hi_X10_owedOf_X10 (by decide) rfl fl_X10_owedOf_59 (Or.inl rfl) dX10_owedOf_18 (fun v10 h11 => ?_)
      refine bj_iload dX10_owedOf_21 4 rfl ?_
      refine bj_nn (fun a12 h13 => ?_)
      subst h13
      refine bj_iald dX10_owedOf_23 (fun v14 h15 => ?_)
      refine bj_iadd dX10_owedOf_24 ?_
      refine bj_istore_n (lv' := [(2, .int (x2 + v14)), (0, .ref this), (1, .int x1), (3, .int x3), (4, .int x4)]) dX10_owedOf_25 rfl (by decide) rfl ?_
      refine bj_iload_n dX10_owedOf_26 rfl 3 rfl ?_
      refine bj_aload_nS dX10_owedOf_27 rfl 1 rfl ?_
      refine bj_getR (ci := 11) (k := 18) (C := RX10) (T := TX10) (N := 49) rfl hi_X10_owedOf_X10 (by decide) rfl fl_X10_owedOf_32 (Or.inl rfl) dX10_owedOf_28 (fun v16 h17 => ?_)
      refine bj_iload dX10_owedOf_31 4 rfl ?_
      refine bj_nn (fun a18 h19 => ?_)
      subst h19
      refine bj_iald dX10_owedOf_33 (fun v20 h21 => ?_)
      refine bj_iload_n dX10_owedOf_34 rfl 2 rfl ?_
      refine bj_icmp_ne (tgt := 48) dX10_owedOf_35 (by decide) (fun h22 => ?_) (fun h22 => ?_)
      · refine bj_iconst (v := 0) dX10_owedOf_48 (by decide) ?_
        refine bj_sub (lv' := [(0, .ref this), (1, .int x1), (2, .int (x2 + v14)), (4, .int x4)]) [1, 2, 0, 4] rfl ?_
        exact j_X10_owedOf_b49 X N (f_X10_owedOf_b7 N n) ih this x1 (x2 + v14) x4 0 x3 σ
      · refine bj_aload_nS dX10_owedOf_38 rfl 1 rfl ?_
        refine bj_getR (ci := 11) (k := 27) (C := RX10) (T := TX10) (N := 49) rfl hi_X10_owedOf_X10 (by decide) rfl fl_X10_owedOf_59 (Or.inl rfl) dX10_owedOf_39 (fun v23 h24 => ?_)
        refine bj_iload dX10_owedOf_42 4 rfl ?_
        refine bj_nn (fun a25 h26 => ?_)
        subst h26
        refine bj_iald dX10_owedOf_44 (fun v27 h28 => ?_)
        refine bj_goto (tgt := 49) dX10_owedOf_45 (by decide) ?_
        refine bj_sub (lv' := [(0, .ref this), (1, .int x1), (2, .int (x2 + v14)), (4, .int x4)]) [1, 2, 0, 4] rfl ?_
        exact j_X10_owedOf_b49 X N (f_X10_owedOf_b7 N n) ih this x1 (x2 + v14) x4 v27 x3 σ
def f_X10_owedOf (N : Nat) (this : Nat) (p1 : Int32) (σ : bh_S) : Option (Int32 × bh_S) :=
  f_X10_owedOf_b7 N N this p1 0 0 0 σ
set_option maxHeartbeats 4000000 in
set_option maxRecDepth 100000 in
theorem c_X10_owedOf (X : bh_X) (N : Nat) (this : Nat) (p1 : Int32) (σ : bh_S) : bh_MX eI X yX10_owedOf wsX10_owedOf 0 0 [.ref this, .int p1] σ (f_X10_owedOf N this p1 σ) := by
  refine bh_enter (cc := cX10_owedOf) (NL := 5) (ret := (some .int)) (by decide) rfl (Nat.le_of_ble_eq_true rfl) (fun X => ?_)
  show bh_J eI yX10_owedOf cX10_owedOf wsX10_owedOf (some .int) 5 0 0 X σ 0 [(0, .ref this), (1, .int p1)] [] _
  unfold f_X10_owedOf
  refine bj_iconst (v := 0) dX10_owedOf_0 (by decide) ?_
  refine bj_istore_n (lv' := [(2, .int 0), (0, .ref this), (1, .int p1)]) dX10_owedOf_1 rfl (by decide) rfl ?_
  refine bj_iconst (v := 0) dX10_owedOf_2 (by decide) ?_
  refine bj_istore_n (lv' := [(3, .int 0), (2, .int 0), (0, .ref this), (1, .int p1)]) dX10_owedOf_3 rfl (by decide) rfl ?_
  refine bj_iconst (v := 0) dX10_owedOf_4 (by decide) ?_
  refine bj_istore (lv' := [(4, .int 0), (3, .int 0), (2, .int 0), (0, .ref this), (1, .int p1)]) dX10_owedOf_5 (by decide) rfl ?_
  refine bj_sub (lv' := [(0, .ref this), (1, .int p1), (2, .int 0), (3, .int 0), (4, .int 0)]) [3, 4, 2, 1, 0] rfl ?_
  exact j_X10_owedOf_b7 X N N this p1 0 0 0 σ
/-! BeetHouseModel.nextOf()I -/
theorem hi_X10_nextOf_X10 : ∀ w ∈ u_ws RX10 TX10 49, w ∈ wsX10_nextOf := fun _ h => (List.mem_cons_of_mem _ (List.mem_append_right _ h))
set_option maxRecDepth 100000 in
theorem fl_X10_nextOf_128 : bh_fl wsX10_nextOf yX10_nextOf.cls 128 "BeetHouseModel" "fields" "I" := Or.inl (List.mem_of_getElem? (i := 1) rfl)
set_option maxRecDepth 100000 in
theorem fl_X10_nextOf_32 : bh_fl wsX10_nextOf yX10_nextOf.cls 32 "BeetHouseModel" "farmer" "[I" := Or.inl (List.mem_of_getElem? (i := 2) rfl)
set_option maxRecDepth 100000 in
theorem g_X10_nextOf_X10_isLeft_148 : GoodIn wsX10_nextOf (wsV yX10_nextOf.cls 148 RX10 yX10_isLeft wsX10_isLeft) := goodIn_r _ [3, 4, 5, 6, 7, 8, 9, 10, 11, 12, 19, 20, 21, 22, 23, 24, 25, 26, 27, 28, 29, 30, 31, 32, 33, 34, 35, 36, 37, 38, 39, 40, 41, 42, 43, 44, 45, 46, 47, 48, 49, 50, 51, 52, 53, 54, 55, 56, 57, 58, 59, 60, 61, 62, 63, 64, 65, 66, 67] rfl (by decide +kernel)
set_option maxRecDepth 100000 in
theorem g_X10_nextOf_X10_owedOf_151 : GoodIn wsX10_nextOf (wsV yX10_nextOf.cls 151 RX10 yX10_owedOf wsX10_owedOf) := goodIn_r _ [13, 14, 15, 6, 16, 1, 17, 2, 18, 19, 20, 21, 22, 23, 24, 25, 26, 27, 28, 29, 30, 31, 32, 33, 34, 35, 36, 37, 38, 39, 40, 41, 42, 43, 44, 45, 46, 47, 48, 49, 50, 51, 52, 53, 54, 55, 56, 57, 58, 59, 60, 61, 62, 63, 64, 65, 66, 67] rfl (by decide +kernel)
def f_X10_nextOf_b54 (N : Nat) (k5 : Nat → Int32 → Int32 → bh_S → Option (Int32 × bh_S)) (k16 : Nat → Int32 → Int32 → Int32 → Int32 → bh_S → Option (Int32 × bh_S)) (this : Nat) (x1 : Int32) (x2 : Int32) (x4 : Int32) (t0 : Int32) (σ : bh_S) : Option (Int32 × bh_S) :=
  k16 this x1 x2 t0 (x4 + 1) σ
set_option maxHeartbeats 4000000 in
set_option maxRecDepth 100000 in
theorem j_X10_nextOf_b54 (X : bh_X) (N : Nat) (k5 : Nat → Int32 → Int32 → bh_S → Option (Int32 × bh_S)) (hk5 : ∀ (this : Nat) (x1 : Int32) (x2 : Int32) (σ : bh_S), bh_J eI yX10_nextOf cX10_nextOf wsX10_nextOf (some .int) 5 1 24 X σ 5 [(0, .ref this), (1, .int x1), (2, .int x2)] [] (k5 this x1 x2 σ)) (k16 : Nat → Int32 → Int32 → Int32 → Int32 → bh_S → Option (Int32 × bh_S)) (hk16 : ∀ (this : Nat) (x1 : Int32) (x2 : Int32) (x3 : Int32) (x4 : Int32) (σ : bh_S), bh_J eI yX10_nextOf cX10_nextOf wsX10_nextOf (some .int) 5 1 24 X σ 16 [(0, .ref this), (1, .int x1), (2, .int x2), (3, .int x3), (4, .int x4)] [] (k16 this x1 x2 x3 x4 σ)) (this : Nat) (x1 : Int32) (x2 : Int32) (x4 : Int32) (t0 : Int32) (σ : bh_S) : bh_J eI yX10_nextOf cX10_nextOf wsX10_nextOf (some .int) 5 1 24 X σ 54 [(0, .ref this), (1, .int x1), (2, .int x2), (4, .int x4)] [.int t0] (f_X10_nextOf_b54 N k5 k16 this x1 x2 x4 t0 σ) := by
  unfold f_X10_nextOf_b54
  refine bj_istore_n (lv' := [(3, .int t0), (0, .ref this), (1, .int x1), (2, .int x2), (4, .int x4)]) dX10_nextOf_54 rfl (by decide) rfl ?_
  refine bj_iinc (v := x4 + 1) (lv' := [(4, .int (x4 + 1)), (3, .int t0), (0, .ref this), (1, .int x1), (2, .int x2)]) dX10_nextOf_55 4 rfl rfl (by decide) rfl ?_
  refine bj_goto (tgt := 16) dX10_nextOf_58 (by decide) ?_
  refine bj_sub (lv' := [(0, .ref this), (1, .int x1), (2, .int x2), (3, .int t0), (4, .int (x4 + 1))]) [2, 3, 4, 1, 0] rfl ?_
  exact hk16 this x1 x2 t0 (x4 + 1) σ
def f_X10_nextOf_b53 (N : Nat) (k5 : Nat → Int32 → Int32 → bh_S → Option (Int32 × bh_S)) (k16 : Nat → Int32 → Int32 → Int32 → Int32 → bh_S → Option (Int32 × bh_S)) (this : Nat) (x1 : Int32) (x2 : Int32) (x4 : Int32) (σ : bh_S) : Option (Int32 × bh_S) :=
  f_X10_nextOf_b54 N k5 k16 this x1 x2 x4 0 σ
set_option maxHeartbeats 4000000 in
set_option maxRecDepth 100000 in
theorem j_X10_nextOf_b53 (X : bh_X) (N : Nat) (k5 : Nat → Int32 → Int32 → bh_S → Option (Int32 × bh_S)) (hk5 : ∀ (this : Nat) (x1 : Int32) (x2 : Int32) (σ : bh_S), bh_J eI yX10_nextOf cX10_nextOf wsX10_nextOf (some .int) 5 1 24 X σ 5 [(0, .ref this), (1, .int x1), (2, .int x2)] [] (k5 this x1 x2 σ)) (k16 : Nat → Int32 → Int32 → Int32 → Int32 → bh_S → Option (Int32 × bh_S)) (hk16 : ∀ (this : Nat) (x1 : Int32) (x2 : Int32) (x3 : Int32) (x4 : Int32) (σ : bh_S), bh_J eI yX10_nextOf cX10_nextOf wsX10_nextOf (some .int) 5 1 24 X σ 16 [(0, .ref this), (1, .int x1), (2, .int x2), (3, .int x3), (4, .int x4)] [] (k16 this x1 x2 x3 x4 σ)) (this : Nat) (x1 : Int32) (x2 : Int32) (x4 : Int32) (σ : bh_S) : bh_J eI yX10_nextOf cX10_nextOf wsX10_nextOf (some .int) 5 1 24 X σ 53 [(0, .ref this), (1, .int x1), (2, .int x2), (4, .int x4)] [] (f_X10_nextOf_b53 N k5 k16 this x1 x2 x4 σ) := by
  unfold f_X10_nextOf_b53
  refine bj_iconst (v := 0) dX10_nextOf_53 (by decide) ?_
  refine bj_sub (lv' := [(0, .ref this), (1, .int x1), (2, .int x2), (4, .int x4)]) [0, 1, 2, 3] rfl ?_
  exact j_X10_nextOf_b54 X N k5 hk5 k16 hk16 this x1 x2 x4 0 σ
def f_X10_nextOf_b84 (N : Nat) (k5 : Nat → Int32 → Int32 → bh_S → Option (Int32 × bh_S)) (this : Nat) (x1 : Int32) (x2 : Int32) (σ : bh_S) : Option (Int32 × bh_S) :=
  k5 this x1 (x2 + 1) σ
set_option maxHeartbeats 4000000 in
set_option maxRecDepth 100000 in
theorem j_X10_nextOf_b84 (X : bh_X) (N : Nat) (k5 : Nat → Int32 → Int32 → bh_S → Option (Int32 × bh_S)) (hk5 : ∀ (this : Nat) (x1 : Int32) (x2 : Int32) (σ : bh_S), bh_J eI yX10_nextOf cX10_nextOf wsX10_nextOf (some .int) 5 1 24 X σ 5 [(0, .ref this), (1, .int x1), (2, .int x2)] [] (k5 this x1 x2 σ)) (this : Nat) (x1 : Int32) (x2 : Int32) (σ : bh_S) : bh_J eI yX10_nextOf cX10_nextOf wsX10_nextOf (some .int) 5 1 24 X σ 84 [(0, .ref this), (1, .int x1), (2, .int x2)] [] (f_X10_nextOf_b84 N k5 this x1 x2 σ) := by
  unfold f_X10_nextOf_b84
  refine bj_iinc (v := x2 + 1) (lv' := [(2, .int (x2 + 1)), (0, .ref this), (1, .int x1)]) dX10_nextOf_84 2 rfl rfl (by decide) rfl ?_
  refine bj_goto (tgt := 5) dX10_nextOf_87 (by decide) ?_
  refine bj_sub (lv' := [(0, .ref this), (1, .int x1), (2, .int (x2 + 1))]) [1, 2, 0] rfl ?_
  exact hk5 this x1 (x2 + 1) σ
def f_X10_nextOf_b82 (N : Nat) (k5 : Nat → Int32 → Int32 → bh_S → Option (Int32 × bh_S)) (this : Nat) (x2 : Int32) (σ : bh_S) : Option (Int32 × bh_S) :=
  f_X10_nextOf_b84 N k5 this x2 x2 σ
set_option maxHeartbeats 4000000 in
set_option maxRecDepth 100000 in
theorem j_X10_nextOf_b82 (X : bh_X) (N : Nat) (k5 : Nat → Int32 → Int32 → bh_S → Option (Int32 × bh_S)) (hk5 : ∀ (this : Nat) (x1 : Int32) (x2 : Int32) (σ : bh_S), bh_J eI yX10_nextOf cX10_nextOf wsX10_nextOf (some .int) 5 1 24 X σ 5 [(0, .ref this), (1, .int x1), (2, .int x2)] [] (k5 this x1 x2 σ)) (this : Nat) (x2 : Int32) (σ : bh_S) : bh_J eI yX10_nextOf cX10_nextOf wsX10_nextOf (some .int) 5 1 24 X σ 82 [(0, .ref this), (2, .int x2)] [] (f_X10_nextOf_b82 N k5 this x2 σ) := by
  unfold f_X10_nextOf_b82
  refine bj_iload_n dX10_nextOf_82 rfl 1 rfl ?_
  refine bj_istore_n (lv' := [(1, .int x2), (0, .ref this), (2, .int x2)]) dX10_nextOf_83 rfl (by decide) rfl ?_
  refine bj_sub (lv' := [(0, .ref this), (1, .int x2), (2, .int x2)]) [1, 0, 2] rfl ?_
  exact j_X10_nextOf_b84 X N k5 hk5 this x2 x2 σ
def f_X10_nextOf_b61 (N : Nat) (k5 : Nat → Int32 → Int32 → bh_S → Option (Int32 × bh_S)) (this : Nat) (x1 : Int32) (x2 : Int32) (x3 : Int32) (σ : bh_S) : Option (Int32 × bh_S) :=
  if x3 = 0 then
    f_X10_nextOf_b84 N k5 this x1 x2 σ
  else
    if x1 < 0 then
      f_X10_nextOf_b82 N k5 this x2 σ
    else
      (bh_ck σ this 11).bind fun _ =>
      bh_bnd (f_X10_owedOf N this x2 σ) fun v4 σ5 =>
      (bh_ck σ5 this 11).bind fun _ =>
      bh_bnd (f_X10_owedOf N this x1 σ5) fun v8 σ9 =>
      if v4 ≤ v8 then
        f_X10_nextOf_b84 N k5 this x1 x2 σ9
      else
        f_X10_nextOf_b82 N k5 this x2 σ9
set_option maxHeartbeats 4000000 in
set_option maxRecDepth 100000 in
theorem j_X10_nextOf_b61 (X : bh_X) (N : Nat) (k5 : Nat → Int32 → Int32 → bh_S → Option (Int32 × bh_S)) (hk5 : ∀ (this : Nat) (x1 : Int32) (x2 : Int32) (σ : bh_S), bh_J eI yX10_nextOf cX10_nextOf wsX10_nextOf (some .int) 5 1 24 X σ 5 [(0, .ref this), (1, .int x1), (2, .int x2)] [] (k5 this x1 x2 σ)) (this : Nat) (x1 : Int32) (x2 : Int32) (x3 : Int32) (σ : bh_S) : bh_J eI yX10_nextOf cX10_nextOf wsX10_nextOf (some .int) 5 1 24 X σ 61 [(0, .ref this), (1, .int x1), (2, .int x2), (3, .int x3)] [] (f_X10_nextOf_b61 N k5 this x1 x2 x3 σ) := by
  unfold f_X10_nextOf_b61
  refine bj_iload_n dX10_nextOf_61 rfl 3 rfl ?_
  refine bj_if_eq (tgt := 84) dX10_nextOf_62 (by decide) (fun h1 => ?_) (fun h1 => ?_)
  · refine bj_sub (lv' := [(0, .ref this), (1, .int x1), (2, .int x2)]) [0, 1, 2] rfl ?_
    exact j_X10_nextOf_b84 X N k5 hk5 this x1 x2 σ
  · refine bj_iload_n dX10_nextOf_65 rfl 1 rfl ?_
    refine bj_if_lt (tgt := 82) dX10_nextOf_66 (by decide) (fun h2 => ?_) (fun h2 => ?_)
    · refine bj_sub (lv' := [(0, .ref this), (2, .int x2)]) [0, 2] rfl ?_
      exact j_X10_nextOf_b82 X N k5 hk5 this x2 σ
    · refine bj_aload_nS dX10_nextOf_69 rfl 0 rfl ?_
      refine bj_iload_n dX10_nextOf_70 rfl 2 rfl ?_
      refine bj_op (fun _ h3 => ?_)
      refine bj_callI (br_V (As := [.int x2]) (rest := []) (q := (RX10, TX10, 49)) (c_X10_owedOf X N this x2 σ) rfl g_X10_nextOf_X10_owedOf_151 rfl (bh_ck_spec h3) ⟨rfl, hd_X10_owedOf⟩ rfl ⟨by decide, by decide⟩ rfl (Nat.le_of_ble_eq_true rfl) dX10_nextOf_71) (fun v4 σ5 h6 => ?_)
      refine bj_aload_nS dX10_nextOf_74 rfl 0 rfl ?_
      refine bj_iload_n dX10_nextOf_75 rfl 1 rfl ?_
      refine bj_op (fun _ h7 => ?_)
      refine bj_callI (br_V (As := [.int x1]) (rest := [.int v4]) (q := (RX10, TX10, 49)) (c_X10_owedOf X N this x1 σ5) rfl g_X10_nextOf_X10_owedOf_151 rfl (bh_ck_spec h7) ⟨rfl, hd_X10_owedOf⟩ rfl ⟨by decide, by decide⟩ rfl (Nat.le_of_ble_eq_true rfl) dX10_nextOf_76) (fun v8 σ9 h10 => ?_)
      refine bj_icmp_le (tgt := 84) dX10_nextOf_79 (by decide) (fun h11 => ?_) (fun h11 => ?_)
      · refine bj_sub (lv' := [(0, .ref this), (1, .int x1), (2, .int x2)]) [0, 1, 2] rfl ?_
        exact j_X10_nextOf_b84 X N k5 hk5 this x1 x2 σ9
      · refine bj_sub (lv' := [(0, .ref this), (2, .int x2)]) [0, 2] rfl ?_
        exact j_X10_nextOf_b82 X N k5 hk5 this x2 σ9
def f_X10_nextOf_b16 (N : Nat) (k5 : Nat → Int32 → Int32 → bh_S → Option (Int32 × bh_S)) : Nat → Nat → Int32 → Int32 → Int32 → Int32 → bh_S → Option (Int32 × bh_S)
  | 0, _, _, _, _, _, _ => none
  | n + 1, this, x1, x2, x3, x4, σ =>
    (bh_rdI σ 11 this 7).bind fun v1 =>
    if v1 ≤ x4 then
      f_X10_nextOf_b61 N k5 this x1 x2 x3 σ
    else
      if x3 = 0 then
        (bh_rdR σ 11 this 18).bind fun v5 =>
        (v5).bind fun a7 =>
        (bh_ldI σ 12 a7 x4).bind fun v9 =>
        if v9 = x2 then
          (bh_ck σ this 11).bind fun _ =>
          bh_bnd (f_X10_isLeft N this x4 σ) fun v13 σ14 =>
          if v13 = 0 then
            f_X10_nextOf_b53 N k5 (f_X10_nextOf_b16 N k5 n) this x1 x2 x4 σ14
          else
            f_X10_nextOf_b54 N k5 (f_X10_nextOf_b16 N k5 n) this x1 x2 x4 1 σ14
        else
          f_X10_nextOf_b53 N k5 (f_X10_nextOf_b16 N k5 n) this x1 x2 x4 σ
      else
        f_X10_nextOf_b61 N k5 this x1 x2 x3 σ
set_option maxHeartbeats 4000000 in
set_option maxRecDepth 100000 in
theorem j_X10_nextOf_b16 (X : bh_X) (N : Nat) (k5 : Nat → Int32 → Int32 → bh_S → Option (Int32 × bh_S)) (hk5 : ∀ (this : Nat) (x1 : Int32) (x2 : Int32) (σ : bh_S), bh_J eI yX10_nextOf cX10_nextOf wsX10_nextOf (some .int) 5 1 24 X σ 5 [(0, .ref this), (1, .int x1), (2, .int x2)] [] (k5 this x1 x2 σ)) : ∀ (n : Nat) (this : Nat) (x1 : Int32) (x2 : Int32) (x3 : Int32) (x4 : Int32) (σ : bh_S), bh_J eI yX10_nextOf cX10_nextOf wsX10_nextOf (some .int) 5 1 24 X σ 16 [(0, .ref this), (1, .int x1), (2, .int x2), (3, .int x3), (4, .int x4)] [] (f_X10_nextOf_b16 N k5 n this x1 x2 x3 x4 σ) := by
  intro n
  induction n with
  | zero => intro this x1 x2 x3 x4 σ; exact bj_none
  | succ n ih =>
    intro this x1 x2 x3 x4 σ
    unfold f_X10_nextOf_b16
    refine bj_iload dX10_nextOf_16 4 rfl ?_
    refine bj_aload_nS dX10_nextOf_18 rfl 0 rfl ?_
    refine bj_getI (ci := 11) (k := 7) (C := RX10) (T := TX10) (N := 49) rfl hi_X10_nextOf_X10 (by decide) rfl fl_X10_nextOf_128 (Or.inl rfl) dX10_nextOf_19 (fun v1 h2 => ?_)
    refine bj_icmp_ge (tgt := 61) dX10_nextOf_22 (by decide) (fun h3 => ?_) (fun h3 => ?_)
    · refine bj_sub (lv' := [(0, .ref this), (1, .int x1), (2, .int x2), (3, .int x3)]) [0, 1, 2, 3] rfl ?_
      exact j_X10_nextOf_b61 X N k5 hk5 this x1 x2 x3 σ
    · refine bj_iload_n dX10_nextOf_25 rfl 3 rfl ?_
      refine bj_if_ne (tgt := 61) dX10_nextOf_26 (by decide) (fun h4 => ?_) (fun h4 => ?_)
      · refine bj_sub (lv' := [(0, .ref this), (1, .int x1), (2, .int x2), (3, .int x3)]) [0, 1, 2, 3] rfl ?_
        exact j_X10_nextOf_b61 X N k5 hk5 this x1 x2 x3 σ
      · refine bj_aload_nS dX10_nextOf_29 rfl 0 rfl ?_
        refine bj_getR (ci := 11) (k := 18) (C := RX10) (T := TX10) (N := 49) rfl hi_X10_nextOf_X10 (by decide) rfl fl_X10_nextOf_32 (Or.inl rfl) dX10_nextOf_30 (fun v5 h6 => ?_)
        refine bj_iload dX10_nextOf_33 4 rfl ?_
        refine bj_nn (fun a7 h8 => ?_)
        subst h8
        refine bj_iald dX10_nextOf_35 (fun v9 h10 => ?_)
        refine bj_iload_n dX10_nextOf_36 rfl 2 rfl ?_
        refine bj_icmp_ne (tgt := 53) dX10_nextOf_37 (by decide) (fun h11 => ?_) (fun h11 => ?_)
        · refine bj_sub (lv' := [(0, .ref this), (1, .int x1), (2, .int x2), (4, .int x4)]) [0, 1, 2, 4] rfl ?_
          exact j_X10_nextOf_b53 X N k5 hk5 (f_X10_nextOf_b16 N k5 n) ih this x1 x2 x4 σ
        · refine bj_aload_nS dX10_nextOf_40 rfl 0 rfl ?_
          refine bj_iload dX10_nextOf_41 4 rfl ?_
          refine bj_op (fun _ h12 => ?_)
          refine bj_callI (br_V (As := [.int x4]) (rest := []) (q := (RX10, TX10, 49)) (c_X10_isLeft X N this x4 σ) rfl g_X10_nextOf_X10_isLeft_148 rfl (bh_ck_spec h12) ⟨rfl, hd_X10_isLeft⟩ rfl ⟨by decide, by decide⟩ rfl (Nat.le_of_ble_eq_true rfl) dX10_nextOf_43) (fun v13 σ14 h15 => ?_)
          refine bj_if_eq (tgt := 53) dX10_nextOf_46 (by decide) (fun h16 => ?_) (fun h16 => ?_)
          · refine bj_sub (lv' := [(0, .ref this), (1, .int x1), (2, .int x2), (4, .int x4)]) [0, 1, 2, 4] rfl ?_
            exact j_X10_nextOf_b53 X N k5 hk5 (f_X10_nextOf_b16 N k5 n) ih this x1 x2 x4 σ14
          · refine bj_iconst (v := 1) dX10_nextOf_49 (by decide) ?_
            refine bj_goto (tgt := 54) dX10_nextOf_50 (by decide) ?_
            refine bj_sub (lv' := [(0, .ref this), (1, .int x1), (2, .int x2), (4, .int x4)]) [0, 1, 2, 4] rfl ?_
            exact j_X10_nextOf_b54 X N k5 hk5 (f_X10_nextOf_b16 N k5 n) ih this x1 x2 x4 1 σ14
def f_X10_nextOf_b5 (N : Nat) : Nat → Nat → Int32 → Int32 → bh_S → Option (Int32 × bh_S)
  | 0, _, _, _, _ => none
  | n + 1, this, x1, x2, σ =>
    if 6 ≤ x2 then
      some (x1, σ)
    else
      f_X10_nextOf_b16 N (f_X10_nextOf_b5 N n) N this x1 x2 0 0 σ
set_option maxHeartbeats 4000000 in
set_option maxRecDepth 100000 in
theorem j_X10_nextOf_b5 (X : bh_X) (N : Nat) : ∀ (n : Nat) (this : Nat) (x1 : Int32) (x2 : Int32) (σ : bh_S), bh_J eI yX10_nextOf cX10_nextOf wsX10_nextOf (some .int) 5 1 24 X σ 5 [(0, .ref this), (1, .int x1), (2, .int x2)] [] (f_X10_nextOf_b5 N n this x1 x2 σ) := by
  intro n
  induction n with
  | zero => intro this x1 x2 σ; exact bj_none
  | succ n ih =>
    intro this x1 x2 σ
    unfold f_X10_nextOf_b5
    refine bj_iload_n dX10_nextOf_5 rfl 2 rfl ?_
    refine bj_bipush (v := 6) dX10_nextOf_6 (by decide) ?_
    refine bj_icmp_ge (tgt := 90) dX10_nextOf_8 (by decide) (fun h1 => ?_) (fun h1 => ?_)
    · refine bj_iload_n dX10_nextOf_90 rfl 1 rfl ?_
      exact bj_iret dX10_nextOf_91
    · refine bj_iconst (v := 0) dX10_nextOf_11 (by decide) ?_
      refine bj_istore_n (lv' := [(3, .int 0), (0, .ref this), (1, .int x1), (2, .int x2)]) dX10_nextOf_12 rfl (by decide) rfl ?_
      refine bj_iconst (v := 0) dX10_nextOf_13 (by decide) ?_
      refine bj_istore (lv' := [(4, .int 0), (3, .int 0), (0, .ref this), (1, .int x1), (2, .int x2)]) dX10_nextOf_14 (by decide) rfl ?_
      refine bj_sub (lv' := [(0, .ref this), (1, .int x1), (2, .int x2), (3, .int 0), (4, .int 0)]) [2, 3, 4, 1, 0] rfl ?_
      exact j_X10_nextOf_b16 X N (f_X10_nextOf_b5 N n) ih N this x1 x2 0 0 σ
def f_X10_nextOf (N : Nat) (this : Nat) (σ : bh_S) : Option (Int32 × bh_S) :=
  f_X10_nextOf_b5 N N this (-9) 0 σ
set_option maxHeartbeats 4000000 in
set_option maxRecDepth 100000 in
theorem c_X10_nextOf (X : bh_X) (N : Nat) (this : Nat) (σ : bh_S) : bh_MX eI X yX10_nextOf wsX10_nextOf 1 24 [.ref this] σ (f_X10_nextOf N this σ) := by
  refine bh_enter (cc := cX10_nextOf) (NL := 5) (ret := (some .int)) (by decide) rfl (Nat.le_of_ble_eq_true rfl) (fun X => ?_)
  show bh_J eI yX10_nextOf cX10_nextOf wsX10_nextOf (some .int) 5 1 24 X σ 0 [(0, .ref this)] [] _
  unfold f_X10_nextOf
  refine bj_bipush (v := (-9)) dX10_nextOf_0 (by decide) ?_
  refine bj_istore_n (lv' := [(1, .int (-9)), (0, .ref this)]) dX10_nextOf_2 rfl (by decide) rfl ?_
  refine bj_iconst (v := 0) dX10_nextOf_3 (by decide) ?_
  refine bj_istore_n (lv' := [(2, .int 0), (1, .int (-9)), (0, .ref this)]) dX10_nextOf_4 rfl (by decide) rfl ?_
  refine bj_sub (lv' := [(0, .ref this), (1, .int (-9)), (2, .int 0)]) [2, 1, 0] rfl ?_
  exact j_X10_nextOf_b5 X N N this (-9) 0 σ
/-! BeetHouseModel.turn()I -/
theorem hi_X10_turn_X10 : ∀ w ∈ u_ws RX10 TX10 49, w ∈ wsX10_turn := fun _ h => (List.mem_cons_of_mem _ (List.mem_append_right _ h))
set_option maxRecDepth 100000 in
theorem fl_X10_turn_131 : bh_fl wsX10_turn yX10_turn.cls 131 "BeetHouseModel" "lorries" "I" := Or.inl (List.mem_of_getElem? (i := 1) rfl)
set_option maxRecDepth 100000 in
theorem fl_X10_turn_81 : bh_fl wsX10_turn yX10_turn.cls 81 "BeetHouseModel" "does" "[I" := Or.inl (List.mem_of_getElem? (i := 2) rfl)
set_option maxRecDepth 100000 in
theorem g_X10_turn_X10_nextOf_154 : GoodIn wsX10_turn (wsV yX10_turn.cls 154 RX10 yX10_nextOf wsX10_nextOf) := goodIn_r _ [12, 13, 14, 9, 15, 3, 4, 16, 17, 18, 9, 19, 20, 1, 2, 21, 22, 23, 24, 25, 26, 27, 28, 36, 37, 38, 39, 40, 41, 42, 43, 44, 45, 46, 47, 48, 49, 50, 51, 52, 53, 54, 55, 56, 57, 58, 59, 60, 61, 62, 63, 64, 65, 66, 67, 68, 69, 70, 71, 72, 73, 74, 75, 76, 77, 78, 79, 80, 81, 82, 83, 84] rfl (by decide +kernel)
set_option maxRecDepth 100000 in
theorem g_X10_turn_X10_refuse_124 : GoodIn wsX10_turn (wsV yX10_turn.cls 124 RX10 yX10_refuse wsX10_refuse) := goodIn_r _ [6, 7, 8, 9, 10, 11, 36, 37, 38, 39, 40, 41, 42, 43, 44, 45, 46, 47, 48, 49, 50, 51, 52, 53, 54, 55, 56, 57, 58, 59, 60, 61, 62, 63, 64, 65, 66, 67, 68, 69, 70, 71, 72, 73, 74, 75, 76, 77, 78, 79, 80, 81, 82, 83, 84] rfl (by decide +kernel)
set_option maxRecDepth 100000 in
theorem fl_X10_turn_128 : bh_fl wsX10_turn yX10_turn.cls 128 "BeetHouseModel" "fields" "I" := Or.inl (List.mem_of_getElem? (i := 3) rfl)
set_option maxRecDepth 100000 in
theorem g_X10_turn_X10_goes_144 : GoodIn wsX10_turn (wsV yX10_turn.cls 144 RX10 yX10_goes wsX10_goes) := goodIn_r _ [29, 30, 31, 9, 32, 2, 21, 33, 34, 35, 36, 37, 38, 39, 40, 41, 42, 43, 44, 45, 46, 47, 48, 49, 50, 51, 52, 53, 54, 55, 56, 57, 58, 59, 60, 61, 62, 63, 64, 65, 66, 67, 68, 69, 70, 71, 72, 73, 74, 75, 76, 77, 78, 79, 80, 81, 82, 83, 84] rfl (by decide +kernel)
set_option maxRecDepth 100000 in
theorem fl_X10_turn_32 : bh_fl wsX10_turn yX10_turn.cls 32 "BeetHouseModel" "farmer" "[I" := Or.inl (List.mem_of_getElem? (i := 4) rfl)
set_option maxRecDepth 100000 in
theorem g_X10_turn_X10_isLeft_148 : GoodIn wsX10_turn (wsV yX10_turn.cls 148 RX10 yX10_isLeft wsX10_isLeft) := goodIn_r _ [16, 17, 18, 9, 19, 20, 1, 2, 21, 22, 36, 37, 38, 39, 40, 41, 42, 43, 44, 45, 46, 47, 48, 49, 50, 51, 52, 53, 54, 55, 56, 57, 58, 59, 60, 61, 62, 63, 64, 65, 66, 67, 68, 69, 70, 71, 72, 73, 74, 75, 76, 77, 78, 79, 80, 81, 82, 83, 84] rfl (by decide +kernel)
set_option maxRecDepth 100000 in
theorem fl_X10_turn_47 : bh_fl wsX10_turn yX10_turn.cls 47 "BeetHouseModel" "sugar" "[I" := Or.inl (List.mem_of_getElem? (i := 5) rfl)
def f_X10_turn_b103 (N : Nat) (k51 : Nat → Int32 → Int32 → Int32 → Int32 → bh_S → Option (Int32 × bh_S)) (this : Nat) (x1 : Int32) (x2 : Int32) (x3 : Int32) (x4 : Int32) (σ : bh_S) : Option (Int32 × bh_S) :=
  k51 this x1 x2 x3 (x4 + 1) σ
set_option maxHeartbeats 4000000 in
set_option maxRecDepth 100000 in
theorem j_X10_turn_b103 (X : bh_X) (N : Nat) (k51 : Nat → Int32 → Int32 → Int32 → Int32 → bh_S → Option (Int32 × bh_S)) (hk51 : ∀ (this : Nat) (x1 : Int32) (x2 : Int32) (x3 : Int32) (x4 : Int32) (σ : bh_S), bh_J eI yX10_turn cX10_turn wsX10_turn (some .int) 5 2 48 X σ 51 [(0, .ref this), (1, .int x1), (2, .int x2), (3, .int x3), (4, .int x4)] [] (k51 this x1 x2 x3 x4 σ)) (this : Nat) (x1 : Int32) (x2 : Int32) (x3 : Int32) (x4 : Int32) (σ : bh_S) : bh_J eI yX10_turn cX10_turn wsX10_turn (some .int) 5 2 48 X σ 103 [(0, .ref this), (1, .int x1), (2, .int x2), (3, .int x3), (4, .int x4)] [] (f_X10_turn_b103 N k51 this x1 x2 x3 x4 σ) := by
  unfold f_X10_turn_b103
  refine bj_iinc (v := x4 + 1) (lv' := [(4, .int (x4 + 1)), (0, .ref this), (1, .int x1), (2, .int x2), (3, .int x3)]) dX10_turn_103 4 rfl rfl (by decide) rfl ?_
  refine bj_goto (tgt := 51) dX10_turn_106 (by decide) ?_
  refine bj_sub (lv' := [(0, .ref this), (1, .int x1), (2, .int x2), (3, .int x3), (4, .int (x4 + 1))]) [1, 2, 3, 4, 0] rfl ?_
  exact hk51 this x1 x2 x3 (x4 + 1) σ
def f_X10_turn_b100 (N : Nat) (k51 : Nat → Int32 → Int32 → Int32 → Int32 → bh_S → Option (Int32 × bh_S)) (this : Nat) (x1 : Int32) (x2 : Int32) (x4 : Int32) (σ : bh_S) : Option (Int32 × bh_S) :=
  f_X10_turn_b103 N k51 this x1 x2 x4 x4 σ
set_option maxHeartbeats 4000000 in
set_option maxRecDepth 100000 in
theorem j_X10_turn_b100 (X : bh_X) (N : Nat) (k51 : Nat → Int32 → Int32 → Int32 → Int32 → bh_S → Option (Int32 × bh_S)) (hk51 : ∀ (this : Nat) (x1 : Int32) (x2 : Int32) (x3 : Int32) (x4 : Int32) (σ : bh_S), bh_J eI yX10_turn cX10_turn wsX10_turn (some .int) 5 2 48 X σ 51 [(0, .ref this), (1, .int x1), (2, .int x2), (3, .int x3), (4, .int x4)] [] (k51 this x1 x2 x3 x4 σ)) (this : Nat) (x1 : Int32) (x2 : Int32) (x4 : Int32) (σ : bh_S) : bh_J eI yX10_turn cX10_turn wsX10_turn (some .int) 5 2 48 X σ 100 [(0, .ref this), (1, .int x1), (2, .int x2), (4, .int x4)] [] (f_X10_turn_b100 N k51 this x1 x2 x4 σ) := by
  unfold f_X10_turn_b100
  refine bj_iload dX10_turn_100 3 rfl ?_
  refine bj_istore_n (lv' := [(3, .int x4), (0, .ref this), (1, .int x1), (2, .int x2), (4, .int x4)]) dX10_turn_102 rfl (by decide) rfl ?_
  refine bj_sub (lv' := [(0, .ref this), (1, .int x1), (2, .int x2), (3, .int x4), (4, .int x4)]) [1, 2, 3, 0, 4] rfl ?_
  exact j_X10_turn_b103 X N k51 hk51 this x1 x2 x4 x4 σ
def f_X10_turn_b51 (N : Nat) : Nat → Nat → Int32 → Int32 → Int32 → Int32 → bh_S → Option (Int32 × bh_S)
  | 0, _, _, _, _, _, _ => none
  | n + 1, this, x1, x2, x3, x4, σ =>
    (bh_rdI σ 11 this 7).bind fun v1 =>
    if v1 ≤ x4 then
      if x3 < 0 then
        some (x3, σ)
      else
        (bh_ck σ this 11).bind fun _ =>
        bh_bnd (f_X10_goes this x1 x3 σ) fun v6 σ7 =>
        some (x3, σ7)
    else
      (bh_rdR σ 11 this 18).bind fun v9 =>
      (v9).bind fun a11 =>
      (bh_ldI σ 12 a11 x4).bind fun v13 =>
      if v13 = x2 then
        (bh_ck σ this 11).bind fun _ =>
        bh_bnd (f_X10_isLeft N this x4 σ) fun v17 σ18 =>
        if v17 = 0 then
          f_X10_turn_b103 N (f_X10_turn_b51 N n) this x1 x2 x3 x4 σ18
        else
          if x3 < 0 then
            f_X10_turn_b100 N (f_X10_turn_b51 N n) this x1 x2 x4 σ18
          else
            (bh_rdR σ18 11 this 23).bind fun v22 =>
            (v22).bind fun a24 =>
            (bh_ldI σ18 12 a24 x4).bind fun v26 =>
            (bh_rdR σ18 11 this 23).bind fun v28 =>
            (v28).bind fun a30 =>
            (bh_ldI σ18 12 a30 x3).bind fun v32 =>
            if v26 ≤ v32 then
              f_X10_turn_b103 N (f_X10_turn_b51 N n) this x1 x2 x3 x4 σ18
            else
              f_X10_turn_b100 N (f_X10_turn_b51 N n) this x1 x2 x4 σ18
      else
        f_X10_turn_b103 N (f_X10_turn_b51 N n) this x1 x2 x3 x4 σ
set_option maxHeartbeats 4000000 in
set_option maxRecDepth 100000 in
theorem j_X10_turn_b51 (X : bh_X) (N : Nat) : ∀ (n : Nat) (this : Nat) (x1 : Int32) (x2 : Int32) (x3 : Int32) (x4 : Int32) (σ : bh_S), bh_J eI yX10_turn cX10_turn wsX10_turn (some .int) 5 2 48 X σ 51 [(0, .ref this), (1, .int x1), (2, .int x2), (3, .int x3), (4, .int x4)] [] (f_X10_turn_b51 N n this x1 x2 x3 x4 σ) := by
  intro n
  induction n with
  | zero => intro this x1 x2 x3 x4 σ; exact bj_none
  | succ n ih =>
    intro this x1 x2 x3 x4 σ
    unfold f_X10_turn_b51
    refine bj_iload dX10_turn_51 4 rfl ?_
    refine bj_aload_nS dX10_turn_53 rfl 0 rfl ?_
    refine bj_getI (ci := 11) (k := 7) (C := RX10) (T := TX10) (N := 49) rfl hi_X10_turn_X10 (by decide) rfl fl_X10_turn_128 (Or.inl rfl) dX10_turn_54 (fun v1 h2 => ?_)
    refine bj_icmp_ge (tgt := 109) dX10_turn_57 (by decide) (fun h3 => ?_) (fun h3 => ?_)
    · refine bj_iload_n dX10_turn_109 rfl 3 rfl ?_
      refine bj_if_lt (tgt := 119) dX10_turn_110 (by decide) (fun h4 => ?_) (fun h4 => ?_)
      · refine bj_iload_n dX10_turn_119 rfl 3 rfl ?_
        exact bj_iret dX10_turn_120
      · refine bj_aload_nS dX10_turn_113 rfl 0 rfl ?_
        refine bj_iload_n dX10_turn_114 rfl 1 rfl ?_
        refine bj_iload_n dX10_turn_115 rfl 3 rfl ?_
        refine bj_op (fun _ h5 => ?_)
        refine bj_callU (br_V (As := [.int x1, .int x3]) (rest := []) (q := (RX10, TX10, 49)) (c_X10_goes X this x1 x3 σ) rfl g_X10_turn_X10_goes_144 rfl (bh_ck_spec h5) ⟨rfl, hd_X10_goes⟩ rfl ⟨by decide, by decide⟩ rfl (Nat.le_of_ble_eq_true rfl) dX10_turn_116) (fun v6 σ7 h8 => ?_)
        refine bj_iload_n dX10_turn_119 rfl 3 rfl ?_
        exact bj_iret dX10_turn_120
    · refine bj_aload_nS dX10_turn_60 rfl 0 rfl ?_
      refine bj_getR (ci := 11) (k := 18) (C := RX10) (T := TX10) (N := 49) rfl hi_X10_turn_X10 (by decide) rfl fl_X10_turn_32 (Or.inl rfl) dX10_turn_61 (fun v9 h10 => ?_)
      refine bj_iload dX10_turn_64 4 rfl ?_
      refine bj_nn (fun a11 h12 => ?_)
      subst h12
      refine bj_iald dX10_turn_66 (fun v13 h14 => ?_)
      refine bj_iload_n dX10_turn_67 rfl 2 rfl ?_
      refine bj_icmp_ne (tgt := 103) dX10_turn_68 (by decide) (fun h15 => ?_) (fun h15 => ?_)
      · refine bj_sub (lv' := [(0, .ref this), (1, .int x1), (2, .int x2), (3, .int x3), (4, .int x4)]) [0, 1, 2, 3, 4] rfl ?_
        exact j_X10_turn_b103 X N (f_X10_turn_b51 N n) ih this x1 x2 x3 x4 σ
      · refine bj_aload_nS dX10_turn_71 rfl 0 rfl ?_
        refine bj_iload dX10_turn_72 4 rfl ?_
        refine bj_op (fun _ h16 => ?_)
        refine bj_callI (br_V (As := [.int x4]) (rest := []) (q := (RX10, TX10, 49)) (c_X10_isLeft X N this x4 σ) rfl g_X10_turn_X10_isLeft_148 rfl (bh_ck_spec h16) ⟨rfl, hd_X10_isLeft⟩ rfl ⟨by decide, by decide⟩ rfl (Nat.le_of_ble_eq_true rfl) dX10_turn_74) (fun v17 σ18 h19 => ?_)
        refine bj_if_eq (tgt := 103) dX10_turn_77 (by decide) (fun h20 => ?_) (fun h20 => ?_)
        · refine bj_sub (lv' := [(0, .ref this), (1, .int x1), (2, .int x2), (3, .int x3), (4, .int x4)]) [0, 1, 2, 3, 4] rfl ?_
          exact j_X10_turn_b103 X N (f_X10_turn_b51 N n) ih this x1 x2 x3 x4 σ18
        · refine bj_iload_n dX10_turn_80 rfl 3 rfl ?_
          refine bj_if_lt (tgt := 100) dX10_turn_81 (by decide) (fun h21 => ?_) (fun h21 => ?_)
          · refine bj_sub (lv' := [(0, .ref this), (1, .int x1), (2, .int x2), (4, .int x4)]) [0, 1, 2, 4] rfl ?_
            exact j_X10_turn_b100 X N (f_X10_turn_b51 N n) ih this x1 x2 x4 σ18
          · refine bj_aload_nS dX10_turn_84 rfl 0 rfl ?_
            refine bj_getR (ci := 11) (k := 23) (C := RX10) (T := TX10) (N := 49) rfl hi_X10_turn_X10 (by decide) rfl fl_X10_turn_47 (Or.inl rfl) dX10_turn_85 (fun v22 h23 => ?_)
            refine bj_iload dX10_turn_88 4 rfl ?_
            refine bj_nn (fun a24 h25 => ?_)
            subst h25
            refine bj_iald dX10_turn_90 (fun v26 h27 => ?_)
            refine bj_aload_nS dX10_turn_91 rfl 0 rfl ?_
            refine bj_getR (ci := 11) (k := 23) (C := RX10) (T := TX10) (N := 49) rfl hi_X10_turn_X10 (by decide) rfl fl_X10_turn_47 (Or.inl rfl) dX10_turn_92 (fun v28 h29 => ?_)
            refine bj_iload_n dX10_turn_95 rfl 3 rfl ?_
            refine bj_nn (fun a30 h31 => ?_)
            subst h31
            refine bj_iald dX10_turn_96 (fun v32 h33 => ?_)
            refine bj_icmp_le (tgt := 103) dX10_turn_97 (by decide) (fun h34 => ?_) (fun h34 => ?_)
            · refine bj_sub (lv' := [(0, .ref this), (1, .int x1), (2, .int x2), (3, .int x3), (4, .int x4)]) [0, 1, 2, 3, 4] rfl ?_
              exact j_X10_turn_b103 X N (f_X10_turn_b51 N n) ih this x1 x2 x3 x4 σ18
            · refine bj_sub (lv' := [(0, .ref this), (1, .int x1), (2, .int x2), (4, .int x4)]) [0, 1, 2, 4] rfl ?_
              exact j_X10_turn_b100 X N (f_X10_turn_b51 N n) ih this x1 x2 x4 σ18
def f_X10_turn_b25 (N : Nat) (this : Nat) (x1 : Int32) (σ : bh_S) : Option (Int32 × bh_S) :=
  (bh_rdI σ 11 this 8).bind fun v1 =>
  if x1 = v1 then
    (bh_ck σ this 11).bind fun _ =>
    bh_bnd (f_X10_refuse this (-3) σ) fun v9 σ10 =>
    some (v9, σ10)
  else
    (bh_ck σ this 11).bind fun _ =>
    bh_bnd (f_X10_nextOf N this σ) fun v5 σ6 =>
    f_X10_turn_b51 N N this x1 v5 (-9) 0 σ6
set_option maxHeartbeats 4000000 in
set_option maxRecDepth 100000 in
theorem j_X10_turn_b25 (X : bh_X) (N : Nat) (this : Nat) (x1 : Int32) (σ : bh_S) : bh_J eI yX10_turn cX10_turn wsX10_turn (some .int) 5 2 48 X σ 25 [(0, .ref this), (1, .int x1)] [] (f_X10_turn_b25 N this x1 σ) := by
  unfold f_X10_turn_b25
  refine bj_iload_n dX10_turn_25 rfl 1 rfl ?_
  refine bj_aload_nS dX10_turn_26 rfl 0 rfl ?_
  refine bj_getI (ci := 11) (k := 8) (C := RX10) (T := TX10) (N := 49) rfl hi_X10_turn_X10 (by decide) rfl fl_X10_turn_131 (Or.inl rfl) dX10_turn_27 (fun v1 h2 => ?_)
  refine bj_icmp_ne (tgt := 40) dX10_turn_30 (by decide) (fun h3 => ?_) (fun h3 => ?_)
  · refine bj_aload_nS dX10_turn_40 rfl 0 rfl ?_
    refine bj_op (fun _ h4 => ?_)
    refine bj_callI (br_V (As := []) (rest := []) (q := (RX10, TX10, 49)) (c_X10_nextOf X N this σ) rfl g_X10_turn_X10_nextOf_154 rfl (bh_ck_spec h4) ⟨rfl, hd_X10_nextOf⟩ rfl ⟨by decide, by decide⟩ rfl (Nat.le_of_ble_eq_true rfl) dX10_turn_41) (fun v5 σ6 h7 => ?_)
    refine bj_istore_n (lv' := [(2, .int v5), (0, .ref this), (1, .int x1)]) dX10_turn_44 rfl (by decide) rfl ?_
    refine bj_bipush (v := (-9)) dX10_turn_45 (by decide) ?_
    refine bj_istore_n (lv' := [(3, .int (-9)), (2, .int v5), (0, .ref this), (1, .int x1)]) dX10_turn_47 rfl (by decide) rfl ?_
    refine bj_iconst (v := 0) dX10_turn_48 (by decide) ?_
    refine bj_istore (lv' := [(4, .int 0), (3, .int (-9)), (2, .int v5), (0, .ref this), (1, .int x1)]) dX10_turn_49 (by decide) rfl ?_
    refine bj_sub (lv' := [(0, .ref this), (1, .int x1), (2, .int v5), (3, .int (-9)), (4, .int 0)]) [3, 4, 2, 1, 0] rfl ?_
    exact j_X10_turn_b51 X N N this x1 v5 (-9) 0 σ6
  · refine bj_aload_nS dX10_turn_33 rfl 0 rfl ?_
    refine bj_bipush (v := (-3)) dX10_turn_34 (by decide) ?_
    refine bj_op (fun _ h8 => ?_)
    refine bj_callI (br_V (As := [.int (-3)]) (rest := []) (q := (RX10, TX10, 49)) (c_X10_refuse X this (-3) σ) rfl g_X10_turn_X10_refuse_124 rfl (bh_ck_spec h8) ⟨rfl, hd_X10_refuse⟩ rfl ⟨by decide, by decide⟩ rfl (Nat.le_of_ble_eq_true rfl) dX10_turn_36) (fun v9 σ10 h11 => ?_)
    exact bj_iret dX10_turn_39
def f_X10_turn_b2 (N : Nat) : Nat → Nat → Int32 → bh_S → Option (Int32 × bh_S)
  | 0, _, _, _ => none
  | n + 1, this, x1, σ =>
    (bh_rdI σ 11 this 8).bind fun v1 =>
    if v1 ≤ x1 then
      f_X10_turn_b25 N this x1 σ
    else
      (bh_rdR σ 11 this 34).bind fun v4 =>
      (v4).bind fun a6 =>
      (bh_ldI σ 12 a6 x1).bind fun v8 =>
      if v8 = 0 then
        f_X10_turn_b25 N this x1 σ
      else
        f_X10_turn_b2 N n this (x1 + 1) σ
set_option maxHeartbeats 4000000 in
set_option maxRecDepth 100000 in
theorem j_X10_turn_b2 (X : bh_X) (N : Nat) : ∀ (n : Nat) (this : Nat) (x1 : Int32) (σ : bh_S), bh_J eI yX10_turn cX10_turn wsX10_turn (some .int) 5 2 48 X σ 2 [(0, .ref this), (1, .int x1)] [] (f_X10_turn_b2 N n this x1 σ) := by
  intro n
  induction n with
  | zero => intro this x1 σ; exact bj_none
  | succ n ih =>
    intro this x1 σ
    unfold f_X10_turn_b2
    refine bj_iload_n dX10_turn_2 rfl 1 rfl ?_
    refine bj_aload_nS dX10_turn_3 rfl 0 rfl ?_
    refine bj_getI (ci := 11) (k := 8) (C := RX10) (T := TX10) (N := 49) rfl hi_X10_turn_X10 (by decide) rfl fl_X10_turn_131 (Or.inl rfl) dX10_turn_4 (fun v1 h2 => ?_)
    refine bj_icmp_ge (tgt := 25) dX10_turn_7 (by decide) (fun h3 => ?_) (fun h3 => ?_)
    · refine bj_sub (lv' := [(0, .ref this), (1, .int x1)]) [0, 1] rfl ?_
      exact j_X10_turn_b25 X N this x1 σ
    · refine bj_aload_nS dX10_turn_10 rfl 0 rfl ?_
      refine bj_getR (ci := 11) (k := 34) (C := RX10) (T := TX10) (N := 49) rfl hi_X10_turn_X10 (by decide) rfl fl_X10_turn_81 (Or.inl rfl) dX10_turn_11 (fun v4 h5 => ?_)
      refine bj_iload_n dX10_turn_14 rfl 1 rfl ?_
      refine bj_nn (fun a6 h7 => ?_)
      subst h7
      refine bj_iald dX10_turn_15 (fun v8 h9 => ?_)
      refine bj_if_eq (tgt := 25) dX10_turn_16 (by decide) (fun h10 => ?_) (fun h10 => ?_)
      · refine bj_sub (lv' := [(0, .ref this), (1, .int x1)]) [0, 1] rfl ?_
        exact j_X10_turn_b25 X N this x1 σ
      · refine bj_iinc (v := x1 + 1) (lv' := [(1, .int (x1 + 1)), (0, .ref this)]) dX10_turn_19 1 rfl rfl (by decide) rfl ?_
        refine bj_goto (tgt := 2) dX10_turn_22 (by decide) ?_
        refine bj_sub (lv' := [(0, .ref this), (1, .int (x1 + 1))]) [1, 0] rfl ?_
        exact ih this (x1 + 1) σ
def f_X10_turn (N : Nat) (this : Nat) (σ : bh_S) : Option (Int32 × bh_S) :=
  f_X10_turn_b2 N N this 0 σ
set_option maxHeartbeats 4000000 in
set_option maxRecDepth 100000 in
theorem c_X10_turn (X : bh_X) (N : Nat) (this : Nat) (σ : bh_S) : bh_MX eI X yX10_turn wsX10_turn 2 48 [.ref this] σ (f_X10_turn N this σ) := by
  refine bh_enter (cc := cX10_turn) (NL := 5) (ret := (some .int)) (by decide) rfl (Nat.le_of_ble_eq_true rfl) (fun X => ?_)
  show bh_J eI yX10_turn cX10_turn wsX10_turn (some .int) 5 2 48 X σ 0 [(0, .ref this)] [] _
  unfold f_X10_turn
  refine bj_iconst (v := 0) dX10_turn_0 (by decide) ?_
  refine bj_istore_n (lv' := [(1, .int 0), (0, .ref this)]) dX10_turn_1 rfl (by decide) rfl ?_
  refine bj_sub (lv' := [(0, .ref this), (1, .int 0)]) [1, 0] rfl ?_
  exact j_X10_turn_b2 X N N this 0 σ
/-! BeetHouseModel.works(II)I -/
set_option maxRecDepth 100000 in
theorem g_X10_works_X10_isIn_120 : GoodIn wsX10_works (va_wsS yX10_works.cls 120 yX10_isIn wsX10_isIn) := goodIn_r _ [3, 4, 5, 6] rfl (by decide +kernel)
set_option maxRecDepth 100000 in
theorem g_X10_works_X10_refuse_124 : GoodIn wsX10_works (wsV yX10_works.cls 124 RX10 yX10_refuse wsX10_refuse) := goodIn_r _ [7, 8, 9, 5, 10, 11, 12, 13, 14, 15, 16, 17, 18, 19, 20, 21, 22, 23, 24, 25, 26, 27, 28, 29, 30, 31, 32, 33, 34, 35, 36, 37, 38, 39, 40, 41, 42, 43, 44, 45, 46, 47, 48, 49, 50, 51, 52, 53, 54, 55, 56, 57, 58, 59, 60] rfl (by decide +kernel)
theorem hi_X10_works_X10 : ∀ w ∈ u_ws RX10 TX10 49, w ∈ wsX10_works := fun _ h => (List.mem_cons_of_mem _ (List.mem_append_right _ h))
set_option maxRecDepth 100000 in
theorem fl_X10_works_158 : bh_fl wsX10_works yX10_works.cls 158 "BeetHouseModel" "rate" "I" := Or.inl (List.mem_of_getElem? (i := 2) rfl)
set_option maxRecDepth 100000 in
theorem fl_X10_works_28 : bh_fl wsX10_works yX10_works.cls 28 "BeetHouseModel" "room" "I" := Or.inl (List.mem_of_getElem? (i := 1) rfl)
def f_X10_works_b65 (this : Nat) (x1 : Int32) (x2 : Int32) (t0 : Int32) (σ : bh_S) : Option (Int32 × bh_S) :=
  if x1 = 0 then
    (bh_wrI σ 11 this 9 x2).bind fun σ4 =>
    some (t0, σ4)
  else
    (bh_wrI σ 11 this 10 x2).bind fun σ2 =>
    some (t0, σ2)
set_option maxHeartbeats 4000000 in
set_option maxRecDepth 100000 in
theorem j_X10_works_b65 (X : bh_X) (this : Nat) (x1 : Int32) (x2 : Int32) (t0 : Int32) (σ : bh_S) : bh_J eI yX10_works cX10_works wsX10_works (some .int) 4 1 21 X σ 65 [(0, .ref this), (1, .int x1), (2, .int x2)] [.int t0] (f_X10_works_b65 this x1 x2 t0 σ) := by
  unfold f_X10_works_b65
  refine bj_istore_n (lv' := [(3, .int t0), (0, .ref this), (1, .int x1), (2, .int x2)]) dX10_works_65 rfl (by decide) rfl ?_
  refine bj_iload_n dX10_works_66 rfl 2 rfl ?_
  refine bj_if_ne (tgt := 78) dX10_works_67 (by decide) (fun h1 => ?_) (fun h1 => ?_)
  · refine bj_aload_nS dX10_works_78 rfl 1 rfl ?_
    refine bj_iload_n dX10_works_79 rfl 3 rfl ?_
    refine bj_putI (ci := 11) (k := 10) (C := RX10) (T := TX10) (N := 49) rfl hi_X10_works_X10 (by decide) rfl fl_X10_works_158 (Or.inl rfl) tyX10 tyX10_ok nmX10 rfl (Or.inl rfl) dX10_works_80 (fun σ2 h3 => ?_)
    refine bj_iload_n dX10_works_83 rfl 0 rfl ?_
    exact bj_iret dX10_works_84
  · refine bj_aload_nS dX10_works_70 rfl 1 rfl ?_
    refine bj_iload_n dX10_works_71 rfl 3 rfl ?_
    refine bj_putI (ci := 11) (k := 9) (C := RX10) (T := TX10) (N := 49) rfl hi_X10_works_X10 (by decide) rfl fl_X10_works_28 (Or.inl rfl) tyX10 tyX10_ok nmX10 rfl (Or.inl rfl) dX10_works_72 (fun σ4 h5 => ?_)
    refine bj_goto (tgt := 83) dX10_works_75 (by decide) ?_
    refine bj_iload_n dX10_works_83 rfl 0 rfl ?_
    exact bj_iret dX10_works_84
def f_X10_works_b40 (this : Nat) (x1 : Int32) (x2 : Int32) (t0 : Int32) (t1 : Int32) (σ : bh_S) : Option (Int32 × bh_S) :=
  if t1 ≤ t0 then
    if x1 = 0 then
      (bh_rdI σ 11 this 9).bind fun v5 =>
      f_X10_works_b65 this x1 x2 v5 σ
    else
      (bh_rdI σ 11 this 10).bind fun v3 =>
      f_X10_works_b65 this x1 x2 v3 σ
  else
    (bh_ck σ this 11).bind fun _ =>
    bh_bnd (f_X10_refuse this (-6) σ) fun v8 σ9 =>
    some (v8, σ9)
set_option maxHeartbeats 4000000 in
set_option maxRecDepth 100000 in
theorem j_X10_works_b40 (X : bh_X) (this : Nat) (x1 : Int32) (x2 : Int32) (t0 : Int32) (t1 : Int32) (σ : bh_S) : bh_J eI yX10_works cX10_works wsX10_works (some .int) 4 1 21 X σ 40 [(0, .ref this), (1, .int x1), (2, .int x2)] [.int t0, .int t1] (f_X10_works_b40 this x1 x2 t0 t1 σ) := by
  unfold f_X10_works_b40
  refine bj_icmp_le (tgt := 50) dX10_works_40 (by decide) (fun h1 => ?_) (fun h1 => ?_)
  · refine bj_iload_n dX10_works_50 rfl 1 rfl ?_
    refine bj_if_ne (tgt := 61) dX10_works_51 (by decide) (fun h2 => ?_) (fun h2 => ?_)
    · refine bj_aload_nS dX10_works_61 rfl 0 rfl ?_
      refine bj_getI (ci := 11) (k := 10) (C := RX10) (T := TX10) (N := 49) rfl hi_X10_works_X10 (by decide) rfl fl_X10_works_158 (Or.inl rfl) dX10_works_62 (fun v3 h4 => ?_)
      refine bj_sub (lv' := [(0, .ref this), (1, .int x1), (2, .int x2)]) [0, 1, 2] rfl ?_
      exact j_X10_works_b65 X this x1 x2 v3 σ
    · refine bj_aload_nS dX10_works_54 rfl 0 rfl ?_
      refine bj_getI (ci := 11) (k := 9) (C := RX10) (T := TX10) (N := 49) rfl hi_X10_works_X10 (by decide) rfl fl_X10_works_28 (Or.inl rfl) dX10_works_55 (fun v5 h6 => ?_)
      refine bj_goto (tgt := 65) dX10_works_58 (by decide) ?_
      refine bj_sub (lv' := [(0, .ref this), (1, .int x1), (2, .int x2)]) [0, 1, 2] rfl ?_
      exact j_X10_works_b65 X this x1 x2 v5 σ
  · refine bj_aload_nS dX10_works_43 rfl 0 rfl ?_
    refine bj_bipush (v := (-6)) dX10_works_44 (by decide) ?_
    refine bj_op (fun _ h7 => ?_)
    refine bj_callI (br_V (As := [.int (-6)]) (rest := []) (q := (RX10, TX10, 49)) (c_X10_refuse X this (-6) σ) rfl g_X10_works_X10_refuse_124 rfl (bh_ck_spec h7) ⟨rfl, hd_X10_refuse⟩ rfl ⟨by decide, by decide⟩ rfl (Nat.le_of_ble_eq_true rfl) dX10_works_46) (fun v8 σ9 h10 => ?_)
    exact bj_iret dX10_works_49
def f_X10_works (this : Nat) (p1 : Int32) (p2 : Int32) (σ : bh_S) : Option (Int32 × bh_S) :=
  bh_bnd (f_X10_isIn p1 2 σ) fun v1 σ2 =>
  if v1 = 0 then
    (bh_ck σ2 this 11).bind fun _ =>
    bh_bnd (f_X10_refuse this (-2) σ2) fun v12 σ13 =>
    some (v12, σ13)
  else
    if 0 ≤ p2 then
      if p1 = 0 then
        f_X10_works_b40 this p1 p2 3000 p2 σ2
      else
        f_X10_works_b40 this p1 p2 300 p2 σ2
    else
      (bh_ck σ2 this 11).bind fun _ =>
      bh_bnd (f_X10_refuse this (-4) σ2) fun v8 σ9 =>
      some (v8, σ9)
set_option maxHeartbeats 4000000 in
set_option maxRecDepth 100000 in
theorem c_X10_works (X : bh_X) (this : Nat) (p1 : Int32) (p2 : Int32) (σ : bh_S) : bh_MX eI X yX10_works wsX10_works 1 21 [.ref this, .int p1, .int p2] σ (f_X10_works this p1 p2 σ) := by
  refine bh_enter (cc := cX10_works) (NL := 4) (ret := (some .int)) (by decide) rfl (Nat.le_of_ble_eq_true rfl) (fun X => ?_)
  show bh_J eI yX10_works cX10_works wsX10_works (some .int) 4 1 21 X σ 0 [(0, .ref this), (1, .int p1), (2, .int p2)] [] _
  unfold f_X10_works
  refine bj_iload_n dX10_works_0 rfl 1 rfl ?_
  refine bj_iconst (v := 2) dX10_works_1 (by decide) ?_
  refine bj_callI (br_S (As := [.int p1, .int 2]) (rest := []) (c_X10_isIn X p1 2 σ) rfl g_X10_works_X10_isIn_120 hd_X10_isIn rfl ⟨by decide, by decide⟩ rfl (Nat.le_of_ble_eq_true rfl) dX10_works_2) (fun v1 σ2 h3 => ?_)
  refine bj_if_ne (tgt := 15) dX10_works_5 (by decide) (fun h4 => ?_) (fun h4 => ?_)
  · refine bj_iload_n dX10_works_15 rfl 2 rfl ?_
    refine bj_if_ge (tgt := 26) dX10_works_16 (by decide) (fun h5 => ?_) (fun h5 => ?_)
    · refine bj_iload_n dX10_works_26 rfl 2 rfl ?_
      refine bj_iload_n dX10_works_27 rfl 1 rfl ?_
      refine bj_if_ne (tgt := 37) dX10_works_28 (by decide) (fun h6 => ?_) (fun h6 => ?_)
      · refine bj_sipush (v := 300) dX10_works_37 (by decide) ?_
        refine bj_sub (lv' := [(0, .ref this), (1, .int p1), (2, .int p2)]) [0, 1, 2] rfl ?_
        exact j_X10_works_b40 X this p1 p2 300 p2 σ2
      · refine bj_sipush (v := 3000) dX10_works_31 (by decide) ?_
        refine bj_goto (tgt := 40) dX10_works_34 (by decide) ?_
        refine bj_sub (lv' := [(0, .ref this), (1, .int p1), (2, .int p2)]) [0, 1, 2] rfl ?_
        exact j_X10_works_b40 X this p1 p2 3000 p2 σ2
    · refine bj_aload_nS dX10_works_19 rfl 0 rfl ?_
      refine bj_bipush (v := (-4)) dX10_works_20 (by decide) ?_
      refine bj_op (fun _ h7 => ?_)
      refine bj_callI (br_V (As := [.int (-4)]) (rest := []) (q := (RX10, TX10, 49)) (c_X10_refuse X this (-4) σ2) rfl g_X10_works_X10_refuse_124 rfl (bh_ck_spec h7) ⟨rfl, hd_X10_refuse⟩ rfl ⟨by decide, by decide⟩ rfl (Nat.le_of_ble_eq_true rfl) dX10_works_22) (fun v8 σ9 h10 => ?_)
      exact bj_iret dX10_works_25
  · refine bj_aload_nS dX10_works_8 rfl 0 rfl ?_
    refine bj_bipush (v := (-2)) dX10_works_9 (by decide) ?_
    refine bj_op (fun _ h11 => ?_)
    refine bj_callI (br_V (As := [.int (-2)]) (rest := []) (q := (RX10, TX10, 49)) (c_X10_refuse X this (-2) σ2) rfl g_X10_works_X10_refuse_124 rfl (bh_ck_spec h11) ⟨rfl, hd_X10_refuse⟩ rfl ⟨by decide, by decide⟩ rfl (Nat.le_of_ble_eq_true rfl) dX10_works_11) (fun v12 σ13 h14 => ?_)
    exact bj_iret dX10_works_14
/-! BeetHouseModel.table(II)I -/
set_option maxRecDepth 100000 in
theorem g_X10_table_X10_isIn_120 : GoodIn wsX10_table (va_wsS yX10_table.cls 120 yX10_isIn wsX10_isIn) := goodIn_r _ [2, 3, 4, 5] rfl (by decide +kernel)
theorem hi_X10_table_X10 : ∀ w ∈ u_ws RX10 TX10 49, w ∈ wsX10_table := fun _ h => (List.mem_cons_of_mem _ (List.mem_append_right _ h))
set_option maxRecDepth 100000 in
theorem fl_X10_table_22 : bh_fl wsX10_table yX10_table.cls 22 "BeetHouseModel" "tables" "[I" := Or.inl (List.mem_of_getElem? (i := 1) rfl)
set_option maxRecDepth 100000 in
theorem g_X10_table_X10_refuse_124 : GoodIn wsX10_table (wsV yX10_table.cls 124 RX10 yX10_refuse wsX10_refuse) := goodIn_r _ [6, 7, 8, 4, 9, 10, 11, 12, 13, 14, 15, 16, 17, 18, 19, 20, 21, 22, 23, 24, 25, 26, 27, 28, 29, 30, 31, 32, 33, 34, 35, 36, 37, 38, 39, 40, 41, 42, 43, 44, 45, 46, 47, 48, 49, 50, 51, 52, 53, 54, 55, 56, 57, 58, 59] rfl (by decide +kernel)
def f_X10_table (this : Nat) (p1 : Int32) (p2 : Int32) (σ : bh_S) : Option (Int32 × bh_S) :=
  bh_bnd (f_X10_isIn p1 10 σ) fun v1 σ2 =>
  if v1 = 0 then
    (bh_ck σ2 this 11).bind fun _ =>
    bh_bnd (f_X10_refuse this (-2) σ2) fun v28 σ29 =>
    some (v28, σ29)
  else
    if 0 ≤ p2 then
      if p2 ≤ 100 then
        (bh_rdR σ2 11 this 4).bind fun v7 =>
        (v7).bind fun a9 =>
        (bh_ldI σ2 12 a9 p1).bind fun v11 =>
        (bh_rdR σ2 11 this 4).bind fun v13 =>
        (v13).bind fun a15 =>
        (bh_stI σ2 12 a15 p1 p2).bind fun σ17 =>
        some (v11, σ17)
      else
        (bh_ck σ2 this 11).bind fun _ =>
        bh_bnd (f_X10_refuse this (-6) σ2) fun v20 σ21 =>
        some (v20, σ21)
    else
      (bh_ck σ2 this 11).bind fun _ =>
      bh_bnd (f_X10_refuse this (-4) σ2) fun v24 σ25 =>
      some (v24, σ25)
set_option maxHeartbeats 4000000 in
set_option maxRecDepth 100000 in
theorem c_X10_table (X : bh_X) (this : Nat) (p1 : Int32) (p2 : Int32) (σ : bh_S) : bh_MX eI X yX10_table wsX10_table 1 21 [.ref this, .int p1, .int p2] σ (f_X10_table this p1 p2 σ) := by
  refine bh_enter (cc := cX10_table) (NL := 4) (ret := (some .int)) (by decide) rfl (Nat.le_of_ble_eq_true rfl) (fun X => ?_)
  show bh_J eI yX10_table cX10_table wsX10_table (some .int) 4 1 21 X σ 0 [(0, .ref this), (1, .int p1), (2, .int p2)] [] _
  unfold f_X10_table
  refine bj_iload_n dX10_table_0 rfl 1 rfl ?_
  refine bj_bipush (v := 10) dX10_table_1 (by decide) ?_
  refine bj_callI (br_S (As := [.int p1, .int 10]) (rest := []) (c_X10_isIn X p1 10 σ) rfl g_X10_table_X10_isIn_120 hd_X10_isIn rfl ⟨by decide, by decide⟩ rfl (Nat.le_of_ble_eq_true rfl) dX10_table_3) (fun v1 σ2 h3 => ?_)
  refine bj_if_ne (tgt := 16) dX10_table_6 (by decide) (fun h4 => ?_) (fun h4 => ?_)
  · refine bj_iload_n dX10_table_16 rfl 2 rfl ?_
    refine bj_if_ge (tgt := 27) dX10_table_17 (by decide) (fun h5 => ?_) (fun h5 => ?_)
    · refine bj_iload_n dX10_table_27 rfl 2 rfl ?_
      refine bj_bipush (v := 100) dX10_table_28 (by decide) ?_
      refine bj_icmp_le (tgt := 40) dX10_table_30 (by decide) (fun h6 => ?_) (fun h6 => ?_)
      · refine bj_aload_nS dX10_table_40 rfl 0 rfl ?_
        refine bj_getR (ci := 11) (k := 4) (C := RX10) (T := TX10) (N := 49) rfl hi_X10_table_X10 (by decide) rfl fl_X10_table_22 (Or.inl rfl) dX10_table_41 (fun v7 h8 => ?_)
        refine bj_iload_n dX10_table_44 rfl 1 rfl ?_
        refine bj_nn (fun a9 h10 => ?_)
        subst h10
        refine bj_iald dX10_table_45 (fun v11 h12 => ?_)
        refine bj_istore_n (lv' := [(3, .int v11), (0, .ref this), (1, .int p1), (2, .int p2)]) dX10_table_46 rfl (by decide) rfl ?_
        refine bj_aload_nS dX10_table_47 rfl 1 rfl ?_
        refine bj_getR (ci := 11) (k := 4) (C := RX10) (T := TX10) (N := 49) rfl hi_X10_table_X10 (by decide) rfl fl_X10_table_22 (Or.inl rfl) dX10_table_48 (fun v13 h14 => ?_)
        refine bj_iload_n dX10_table_51 rfl 2 rfl ?_
        refine bj_iload_n dX10_table_52 rfl 3 rfl ?_
        refine bj_nn (fun a15 h16 => ?_)
        subst h16
        refine bj_iast dX10_table_53 (fun σ17 h18 => ?_)
        refine bj_iload_n dX10_table_54 rfl 0 rfl ?_
        exact bj_iret dX10_table_55
      · refine bj_aload_nS dX10_table_33 rfl 0 rfl ?_
        refine bj_bipush (v := (-6)) dX10_table_34 (by decide) ?_
        refine bj_op (fun _ h19 => ?_)
        refine bj_callI (br_V (As := [.int (-6)]) (rest := []) (q := (RX10, TX10, 49)) (c_X10_refuse X this (-6) σ2) rfl g_X10_table_X10_refuse_124 rfl (bh_ck_spec h19) ⟨rfl, hd_X10_refuse⟩ rfl ⟨by decide, by decide⟩ rfl (Nat.le_of_ble_eq_true rfl) dX10_table_36) (fun v20 σ21 h22 => ?_)
        exact bj_iret dX10_table_39
    · refine bj_aload_nS dX10_table_20 rfl 0 rfl ?_
      refine bj_bipush (v := (-4)) dX10_table_21 (by decide) ?_
      refine bj_op (fun _ h23 => ?_)
      refine bj_callI (br_V (As := [.int (-4)]) (rest := []) (q := (RX10, TX10, 49)) (c_X10_refuse X this (-4) σ2) rfl g_X10_table_X10_refuse_124 rfl (bh_ck_spec h23) ⟨rfl, hd_X10_refuse⟩ rfl ⟨by decide, by decide⟩ rfl (Nat.le_of_ble_eq_true rfl) dX10_table_23) (fun v24 σ25 h26 => ?_)
      exact bj_iret dX10_table_26
  · refine bj_aload_nS dX10_table_9 rfl 0 rfl ?_
    refine bj_bipush (v := (-2)) dX10_table_10 (by decide) ?_
    refine bj_op (fun _ h27 => ?_)
    refine bj_callI (br_V (As := [.int (-2)]) (rest := []) (q := (RX10, TX10, 49)) (c_X10_refuse X this (-2) σ2) rfl g_X10_table_X10_refuse_124 rfl (bh_ck_spec h27) ⟨rfl, hd_X10_refuse⟩ rfl ⟨by decide, by decide⟩ rfl (Nat.le_of_ble_eq_true rfl) dX10_table_12) (fun v28 σ29 h30 => ?_)
    exact bj_iret dX10_table_15
/-! BeetHouseModel.warmth(II)I -/
set_option maxRecDepth 100000 in
theorem g_X10_warmth_X10_isIn_120 : GoodIn wsX10_warmth (va_wsS yX10_warmth.cls 120 yX10_isIn wsX10_isIn) := goodIn_r _ [2, 3, 4, 5] rfl (by decide +kernel)
theorem hi_X10_warmth_X10 : ∀ w ∈ u_ws RX10 TX10 49, w ∈ wsX10_warmth := fun _ h => (List.mem_cons_of_mem _ (List.mem_append_right _ h))
set_option maxRecDepth 100000 in
theorem fl_X10_warmth_19 : bh_fl wsX10_warmth yX10_warmth.cls 19 "BeetHouseModel" "warmths" "[I" := Or.inl (List.mem_of_getElem? (i := 1) rfl)
set_option maxRecDepth 100000 in
theorem g_X10_warmth_X10_refuse_124 : GoodIn wsX10_warmth (wsV yX10_warmth.cls 124 RX10 yX10_refuse wsX10_refuse) := goodIn_r _ [6, 7, 8, 4, 9, 10, 11, 12, 13, 14, 15, 16, 17, 18, 19, 20, 21, 22, 23, 24, 25, 26, 27, 28, 29, 30, 31, 32, 33, 34, 35, 36, 37, 38, 39, 40, 41, 42, 43, 44, 45, 46, 47, 48, 49, 50, 51, 52, 53, 54, 55, 56, 57, 58, 59] rfl (by decide +kernel)
def f_X10_warmth (this : Nat) (p1 : Int32) (p2 : Int32) (σ : bh_S) : Option (Int32 × bh_S) :=
  bh_bnd (f_X10_isIn p1 100 σ) fun v1 σ2 =>
  if v1 = 0 then
    (bh_ck σ2 this 11).bind fun _ =>
    bh_bnd (f_X10_refuse this (-1) σ2) fun v28 σ29 =>
    some (v28, σ29)
  else
    if 0 ≤ p2 then
      if p2 ≤ 9 then
        (bh_rdR σ2 11 this 3).bind fun v7 =>
        (v7).bind fun a9 =>
        (bh_ldI σ2 12 a9 p1).bind fun v11 =>
        (bh_rdR σ2 11 this 3).bind fun v13 =>
        (v13).bind fun a15 =>
        (bh_stI σ2 12 a15 p1 p2).bind fun σ17 =>
        some (v11, σ17)
      else
        (bh_ck σ2 this 11).bind fun _ =>
        bh_bnd (f_X10_refuse this (-6) σ2) fun v20 σ21 =>
        some (v20, σ21)
    else
      (bh_ck σ2 this 11).bind fun _ =>
      bh_bnd (f_X10_refuse this (-4) σ2) fun v24 σ25 =>
      some (v24, σ25)
set_option maxHeartbeats 4000000 in
set_option maxRecDepth 100000 in
theorem c_X10_warmth (X : bh_X) (this : Nat) (p1 : Int32) (p2 : Int32) (σ : bh_S) : bh_MX eI X yX10_warmth wsX10_warmth 1 21 [.ref this, .int p1, .int p2] σ (f_X10_warmth this p1 p2 σ) := by
  refine bh_enter (cc := cX10_warmth) (NL := 4) (ret := (some .int)) (by decide) rfl (Nat.le_of_ble_eq_true rfl) (fun X => ?_)
  show bh_J eI yX10_warmth cX10_warmth wsX10_warmth (some .int) 4 1 21 X σ 0 [(0, .ref this), (1, .int p1), (2, .int p2)] [] _
  unfold f_X10_warmth
  refine bj_iload_n dX10_warmth_0 rfl 1 rfl ?_
  refine bj_bipush (v := 100) dX10_warmth_1 (by decide) ?_
  refine bj_callI (br_S (As := [.int p1, .int 100]) (rest := []) (c_X10_isIn X p1 100 σ) rfl g_X10_warmth_X10_isIn_120 hd_X10_isIn rfl ⟨by decide, by decide⟩ rfl (Nat.le_of_ble_eq_true rfl) dX10_warmth_3) (fun v1 σ2 h3 => ?_)
  refine bj_if_ne (tgt := 15) dX10_warmth_6 (by decide) (fun h4 => ?_) (fun h4 => ?_)
  · refine bj_iload_n dX10_warmth_15 rfl 2 rfl ?_
    refine bj_if_ge (tgt := 26) dX10_warmth_16 (by decide) (fun h5 => ?_) (fun h5 => ?_)
    · refine bj_iload_n dX10_warmth_26 rfl 2 rfl ?_
      refine bj_bipush (v := 9) dX10_warmth_27 (by decide) ?_
      refine bj_icmp_le (tgt := 39) dX10_warmth_29 (by decide) (fun h6 => ?_) (fun h6 => ?_)
      · refine bj_aload_nS dX10_warmth_39 rfl 0 rfl ?_
        refine bj_getR (ci := 11) (k := 3) (C := RX10) (T := TX10) (N := 49) rfl hi_X10_warmth_X10 (by decide) rfl fl_X10_warmth_19 (Or.inl rfl) dX10_warmth_40 (fun v7 h8 => ?_)
        refine bj_iload_n dX10_warmth_43 rfl 1 rfl ?_
        refine bj_nn (fun a9 h10 => ?_)
        subst h10
        refine bj_iald dX10_warmth_44 (fun v11 h12 => ?_)
        refine bj_istore_n (lv' := [(3, .int v11), (0, .ref this), (1, .int p1), (2, .int p2)]) dX10_warmth_45 rfl (by decide) rfl ?_
        refine bj_aload_nS dX10_warmth_46 rfl 1 rfl ?_
        refine bj_getR (ci := 11) (k := 3) (C := RX10) (T := TX10) (N := 49) rfl hi_X10_warmth_X10 (by decide) rfl fl_X10_warmth_19 (Or.inl rfl) dX10_warmth_47 (fun v13 h14 => ?_)
        refine bj_iload_n dX10_warmth_50 rfl 2 rfl ?_
        refine bj_iload_n dX10_warmth_51 rfl 3 rfl ?_
        refine bj_nn (fun a15 h16 => ?_)
        subst h16
        refine bj_iast dX10_warmth_52 (fun σ17 h18 => ?_)
        refine bj_iload_n dX10_warmth_53 rfl 0 rfl ?_
        exact bj_iret dX10_warmth_54
      · refine bj_aload_nS dX10_warmth_32 rfl 0 rfl ?_
        refine bj_bipush (v := (-6)) dX10_warmth_33 (by decide) ?_
        refine bj_op (fun _ h19 => ?_)
        refine bj_callI (br_V (As := [.int (-6)]) (rest := []) (q := (RX10, TX10, 49)) (c_X10_refuse X this (-6) σ2) rfl g_X10_warmth_X10_refuse_124 rfl (bh_ck_spec h19) ⟨rfl, hd_X10_refuse⟩ rfl ⟨by decide, by decide⟩ rfl (Nat.le_of_ble_eq_true rfl) dX10_warmth_35) (fun v20 σ21 h22 => ?_)
        exact bj_iret dX10_warmth_38
    · refine bj_aload_nS dX10_warmth_19 rfl 0 rfl ?_
      refine bj_bipush (v := (-4)) dX10_warmth_20 (by decide) ?_
      refine bj_op (fun _ h23 => ?_)
      refine bj_callI (br_V (As := [.int (-4)]) (rest := []) (q := (RX10, TX10, 49)) (c_X10_refuse X this (-4) σ2) rfl g_X10_warmth_X10_refuse_124 rfl (bh_ck_spec h23) ⟨rfl, hd_X10_refuse⟩ rfl ⟨by decide, by decide⟩ rfl (Nat.le_of_ble_eq_true rfl) dX10_warmth_22) (fun v24 σ25 h26 => ?_)
      exact bj_iret dX10_warmth_25
  · refine bj_aload_nS dX10_warmth_9 rfl 0 rfl ?_
    refine bj_iconst (v := (-1)) dX10_warmth_10 (by decide) ?_
    refine bj_op (fun _ h27 => ?_)
    refine bj_callI (br_V (As := [.int (-1)]) (rest := []) (q := (RX10, TX10, 49)) (c_X10_refuse X this (-1) σ2) rfl g_X10_warmth_X10_refuse_124 rfl (bh_ck_spec h27) ⟨rfl, hd_X10_refuse⟩ rfl ⟨by decide, by decide⟩ rfl (Nat.le_of_ble_eq_true rfl) dX10_warmth_11) (fun v28 σ29 h30 => ?_)
    exact bj_iret dX10_warmth_14
/-! BeetHouseModel.price(II)I -/
set_option maxRecDepth 100000 in
theorem g_X10_price_X10_isIn_120 : GoodIn wsX10_price (va_wsS yX10_price.cls 120 yX10_isIn wsX10_isIn) := goodIn_r _ [2, 3, 4, 5] rfl (by decide +kernel)
theorem hi_X10_price_X10 : ∀ w ∈ u_ws RX10 TX10 49, w ∈ wsX10_price := fun _ h => (List.mem_cons_of_mem _ (List.mem_append_right _ h))
set_option maxRecDepth 100000 in
theorem fl_X10_price_25 : bh_fl wsX10_price yX10_price.cls 25 "BeetHouseModel" "prices" "[I" := Or.inl (List.mem_of_getElem? (i := 1) rfl)
set_option maxRecDepth 100000 in
theorem g_X10_price_X10_refuse_124 : GoodIn wsX10_price (wsV yX10_price.cls 124 RX10 yX10_refuse wsX10_refuse) := goodIn_r _ [6, 7, 8, 4, 9, 10, 11, 12, 13, 14, 15, 16, 17, 18, 19, 20, 21, 22, 23, 24, 25, 26, 27, 28, 29, 30, 31, 32, 33, 34, 35, 36, 37, 38, 39, 40, 41, 42, 43, 44, 45, 46, 47, 48, 49, 50, 51, 52, 53, 54, 55, 56, 57, 58, 59] rfl (by decide +kernel)
def f_X10_price (this : Nat) (p1 : Int32) (p2 : Int32) (σ : bh_S) : Option (Int32 × bh_S) :=
  bh_bnd (f_X10_isIn p1 10 σ) fun v1 σ2 =>
  if v1 = 0 then
    (bh_ck σ2 this 11).bind fun _ =>
    bh_bnd (f_X10_refuse this (-2) σ2) fun v28 σ29 =>
    some (v28, σ29)
  else
    if 0 ≤ p2 then
      if p2 ≤ 1000 then
        (bh_rdR σ2 11 this 5).bind fun v7 =>
        (v7).bind fun a9 =>
        (bh_ldI σ2 12 a9 p1).bind fun v11 =>
        (bh_rdR σ2 11 this 5).bind fun v13 =>
        (v13).bind fun a15 =>
        (bh_stI σ2 12 a15 p1 p2).bind fun σ17 =>
        some (v11, σ17)
      else
        (bh_ck σ2 this 11).bind fun _ =>
        bh_bnd (f_X10_refuse this (-6) σ2) fun v20 σ21 =>
        some (v20, σ21)
    else
      (bh_ck σ2 this 11).bind fun _ =>
      bh_bnd (f_X10_refuse this (-4) σ2) fun v24 σ25 =>
      some (v24, σ25)
set_option maxHeartbeats 4000000 in
set_option maxRecDepth 100000 in
theorem c_X10_price (X : bh_X) (this : Nat) (p1 : Int32) (p2 : Int32) (σ : bh_S) : bh_MX eI X yX10_price wsX10_price 1 21 [.ref this, .int p1, .int p2] σ (f_X10_price this p1 p2 σ) := by
  refine bh_enter (cc := cX10_price) (NL := 4) (ret := (some .int)) (by decide) rfl (Nat.le_of_ble_eq_true rfl) (fun X => ?_)
  show bh_J eI yX10_price cX10_price wsX10_price (some .int) 4 1 21 X σ 0 [(0, .ref this), (1, .int p1), (2, .int p2)] [] _
  unfold f_X10_price
  refine bj_iload_n dX10_price_0 rfl 1 rfl ?_
  refine bj_bipush (v := 10) dX10_price_1 (by decide) ?_
  refine bj_callI (br_S (As := [.int p1, .int 10]) (rest := []) (c_X10_isIn X p1 10 σ) rfl g_X10_price_X10_isIn_120 hd_X10_isIn rfl ⟨by decide, by decide⟩ rfl (Nat.le_of_ble_eq_true rfl) dX10_price_3) (fun v1 σ2 h3 => ?_)
  refine bj_if_ne (tgt := 16) dX10_price_6 (by decide) (fun h4 => ?_) (fun h4 => ?_)
  · refine bj_iload_n dX10_price_16 rfl 2 rfl ?_
    refine bj_if_ge (tgt := 27) dX10_price_17 (by decide) (fun h5 => ?_) (fun h5 => ?_)
    · refine bj_iload_n dX10_price_27 rfl 2 rfl ?_
      refine bj_sipush (v := 1000) dX10_price_28 (by decide) ?_
      refine bj_icmp_le (tgt := 41) dX10_price_31 (by decide) (fun h6 => ?_) (fun h6 => ?_)
      · refine bj_aload_nS dX10_price_41 rfl 0 rfl ?_
        refine bj_getR (ci := 11) (k := 5) (C := RX10) (T := TX10) (N := 49) rfl hi_X10_price_X10 (by decide) rfl fl_X10_price_25 (Or.inl rfl) dX10_price_42 (fun v7 h8 => ?_)
        refine bj_iload_n dX10_price_45 rfl 1 rfl ?_
        refine bj_nn (fun a9 h10 => ?_)
        subst h10
        refine bj_iald dX10_price_46 (fun v11 h12 => ?_)
        refine bj_istore_n (lv' := [(3, .int v11), (0, .ref this), (1, .int p1), (2, .int p2)]) dX10_price_47 rfl (by decide) rfl ?_
        refine bj_aload_nS dX10_price_48 rfl 1 rfl ?_
        refine bj_getR (ci := 11) (k := 5) (C := RX10) (T := TX10) (N := 49) rfl hi_X10_price_X10 (by decide) rfl fl_X10_price_25 (Or.inl rfl) dX10_price_49 (fun v13 h14 => ?_)
        refine bj_iload_n dX10_price_52 rfl 2 rfl ?_
        refine bj_iload_n dX10_price_53 rfl 3 rfl ?_
        refine bj_nn (fun a15 h16 => ?_)
        subst h16
        refine bj_iast dX10_price_54 (fun σ17 h18 => ?_)
        refine bj_iload_n dX10_price_55 rfl 0 rfl ?_
        exact bj_iret dX10_price_56
      · refine bj_aload_nS dX10_price_34 rfl 0 rfl ?_
        refine bj_bipush (v := (-6)) dX10_price_35 (by decide) ?_
        refine bj_op (fun _ h19 => ?_)
        refine bj_callI (br_V (As := [.int (-6)]) (rest := []) (q := (RX10, TX10, 49)) (c_X10_refuse X this (-6) σ2) rfl g_X10_price_X10_refuse_124 rfl (bh_ck_spec h19) ⟨rfl, hd_X10_refuse⟩ rfl ⟨by decide, by decide⟩ rfl (Nat.le_of_ble_eq_true rfl) dX10_price_37) (fun v20 σ21 h22 => ?_)
        exact bj_iret dX10_price_40
    · refine bj_aload_nS dX10_price_20 rfl 0 rfl ?_
      refine bj_bipush (v := (-4)) dX10_price_21 (by decide) ?_
      refine bj_op (fun _ h23 => ?_)
      refine bj_callI (br_V (As := [.int (-4)]) (rest := []) (q := (RX10, TX10, 49)) (c_X10_refuse X this (-4) σ2) rfl g_X10_price_X10_refuse_124 rfl (bh_ck_spec h23) ⟨rfl, hd_X10_refuse⟩ rfl ⟨by decide, by decide⟩ rfl (Nat.le_of_ble_eq_true rfl) dX10_price_23) (fun v24 σ25 h26 => ?_)
      exact bj_iret dX10_price_26
  · refine bj_aload_nS dX10_price_9 rfl 0 rfl ?_
    refine bj_bipush (v := (-2)) dX10_price_10 (by decide) ?_
    refine bj_op (fun _ h27 => ?_)
    refine bj_callI (br_V (As := [.int (-2)]) (rest := []) (q := (RX10, TX10, 49)) (c_X10_refuse X this (-2) σ2) rfl g_X10_price_X10_refuse_124 rfl (bh_ck_spec h27) ⟨rfl, hd_X10_refuse⟩ rfl ⟨by decide, by decide⟩ rfl (Nat.le_of_ble_eq_true rfl) dX10_price_12) (fun v28 σ29 h30 => ?_)
    exact bj_iret dX10_price_15
/-! BeetHouseModel.cover(IZ)I -/
set_option maxRecDepth 100000 in
theorem g_X10_cover_X10_isField_134 : GoodIn wsX10_cover (wsV yX10_cover.cls 134 RX10 yX10_isField wsX10_isField) := goodIn_r _ [4, 5, 6, 7, 8, 9, 10, 11, 7, 12, 18, 19, 20, 21, 22, 23, 24, 25, 26, 27, 28, 29, 30, 31, 32, 33, 34, 35, 36, 37, 38, 39, 40, 41, 42, 43, 44, 45, 46, 47, 48, 49, 50, 51, 52, 53, 54, 55, 56, 57, 58, 59, 60, 61, 62, 63, 64, 65, 66] rfl (by decide +kernel)
theorem hi_X10_cover_X10 : ∀ w ∈ u_ws RX10 TX10 49, w ∈ wsX10_cover := fun _ h => (List.mem_cons_of_mem _ (List.mem_append_right _ h))
set_option maxRecDepth 100000 in
theorem fl_X10_cover_44 : bh_fl wsX10_cover yX10_cover.cls 44 "BeetHouseModel" "roots" "[I" := Or.inl (List.mem_of_getElem? (i := 1) rfl)
set_option maxRecDepth 100000 in
theorem fl_X10_cover_69 : bh_fl wsX10_cover yX10_cover.cls 69 "BeetHouseModel" "frozen" "[Z" := Or.inl (List.mem_of_getElem? (i := 2) rfl)
set_option maxRecDepth 100000 in
theorem fl_X10_cover_66 : bh_fl wsX10_cover yX10_cover.cls 66 "BeetHouseModel" "covered" "[Z" := Or.inl (List.mem_of_getElem? (i := 3) rfl)
set_option maxRecDepth 100000 in
theorem g_X10_cover_X10_refuse_124 : GoodIn wsX10_cover (wsV yX10_cover.cls 124 RX10 yX10_refuse wsX10_refuse) := goodIn_r _ [13, 14, 15, 7, 16, 17, 18, 19, 20, 21, 22, 23, 24, 25, 26, 27, 28, 29, 30, 31, 32, 33, 34, 35, 36, 37, 38, 39, 40, 41, 42, 43, 44, 45, 46, 47, 48, 49, 50, 51, 52, 53, 54, 55, 56, 57, 58, 59, 60, 61, 62, 63, 64, 65, 66] rfl (by decide +kernel)
def f_X10_cover_b32 (this : Nat) (σ : bh_S) : Option (Int32 × bh_S) :=
  (bh_ck σ this 11).bind fun _ =>
  bh_bnd (f_X10_refuse this (-3) σ) fun v2 σ3 =>
  some (v2, σ3)
set_option maxHeartbeats 4000000 in
set_option maxRecDepth 100000 in
theorem j_X10_cover_b32 (X : bh_X) (this : Nat) (σ : bh_S) : bh_J eI yX10_cover cX10_cover wsX10_cover (some .int) 3 2 42 X σ 32 [(0, .ref this)] [] (f_X10_cover_b32 this σ) := by
  unfold f_X10_cover_b32
  refine bj_aload_nS dX10_cover_32 rfl 0 rfl ?_
  refine bj_bipush (v := (-3)) dX10_cover_33 (by decide) ?_
  refine bj_op (fun _ h1 => ?_)
  refine bj_callI (br_V (As := [.int (-3)]) (rest := []) (q := (RX10, TX10, 49)) (c_X10_refuse X this (-3) σ) rfl g_X10_cover_X10_refuse_124 rfl (bh_ck_spec h1) ⟨rfl, hd_X10_refuse⟩ rfl ⟨by decide, by decide⟩ rfl (Nat.le_of_ble_eq_true rfl) dX10_cover_35) (fun v2 σ3 h4 => ?_)
  exact bj_iret dX10_cover_38
def f_X10_cover (this : Nat) (p1 : Int32) (p2 : Int32) (σ : bh_S) : Option (Int32 × bh_S) :=
  (bh_ck σ this 11).bind fun _ =>
  bh_bnd (f_X10_isField this p1 σ) fun v2 σ3 =>
  if v2 = 0 then
    (bh_ck σ3 this 11).bind fun _ =>
    bh_bnd (f_X10_refuse this (-1) σ3) fun v34 σ35 =>
    some (v34, σ35)
  else
    (bh_rdR σ3 11 this 22).bind fun v6 =>
    (v6).bind fun a8 =>
    (bh_ldI σ3 12 a8 p1).bind fun v10 =>
    if v10 = 0 then
      f_X10_cover_b32 this σ3
    else
      (bh_rdR σ3 11 this 30).bind fun v13 =>
      (v13).bind fun a15 =>
      (bh_ldI σ3 13 a15 p1).bind fun v17 =>
      if v17 = 0 then
        (bh_rdR σ3 11 this 29).bind fun v20 =>
        (v20).bind fun a22 =>
        (bh_ldI σ3 13 a22 p1).bind fun v24 =>
        if v24 = p2 then
          some (0, σ3)
        else
          (bh_rdR σ3 11 this 29).bind fun v27 =>
          (v27).bind fun a29 =>
          (bh_stZ σ3 13 a29 p1 p2).bind fun σ31 =>
          some (1, σ31)
      else
        f_X10_cover_b32 this σ3
set_option maxHeartbeats 4000000 in
set_option maxRecDepth 100000 in
theorem c_X10_cover (X : bh_X) (this : Nat) (p1 : Int32) (p2 : Int32) (σ : bh_S) : bh_MX eI X yX10_cover wsX10_cover 2 42 [.ref this, .int p1, .int p2] σ (f_X10_cover this p1 p2 σ) := by
  refine bh_enter (cc := cX10_cover) (NL := 3) (ret := (some .int)) (by decide) rfl (Nat.le_of_ble_eq_true rfl) (fun X => ?_)
  show bh_J eI yX10_cover cX10_cover wsX10_cover (some .int) 3 2 42 X σ 0 [(0, .ref this), (1, .int p1), (2, .int p2)] [] _
  unfold f_X10_cover
  refine bj_aload_nS dX10_cover_0 rfl 0 rfl ?_
  refine bj_iload_n dX10_cover_1 rfl 1 rfl ?_
  refine bj_op (fun _ h1 => ?_)
  refine bj_callI (br_V (As := [.int p1]) (rest := []) (q := (RX10, TX10, 49)) (c_X10_isField X this p1 σ) rfl g_X10_cover_X10_isField_134 rfl (bh_ck_spec h1) ⟨rfl, hd_X10_isField⟩ rfl ⟨by decide, by decide⟩ rfl (Nat.le_of_ble_eq_true rfl) dX10_cover_2) (fun v2 σ3 h4 => ?_)
  refine bj_if_ne (tgt := 14) dX10_cover_5 (by decide) (fun h5 => ?_) (fun h5 => ?_)
  · refine bj_aload_nS dX10_cover_14 rfl 0 rfl ?_
    refine bj_getR (ci := 11) (k := 22) (C := RX10) (T := TX10) (N := 49) rfl hi_X10_cover_X10 (by decide) rfl fl_X10_cover_44 (Or.inl rfl) dX10_cover_15 (fun v6 h7 => ?_)
    refine bj_iload_n dX10_cover_18 rfl 1 rfl ?_
    refine bj_nn (fun a8 h9 => ?_)
    subst h9
    refine bj_iald dX10_cover_19 (fun v10 h11 => ?_)
    refine bj_if_eq (tgt := 32) dX10_cover_20 (by decide) (fun h12 => ?_) (fun h12 => ?_)
    · refine bj_sub (lv' := [(0, .ref this)]) [0] rfl ?_
      exact j_X10_cover_b32 X this σ3
    · refine bj_aload_nS dX10_cover_23 rfl 0 rfl ?_
      refine bj_getR (ci := 11) (k := 30) (C := RX10) (T := TX10) (N := 49) rfl hi_X10_cover_X10 (by decide) rfl fl_X10_cover_69 (Or.inl rfl) dX10_cover_24 (fun v13 h14 => ?_)
      refine bj_iload_n dX10_cover_27 rfl 1 rfl ?_
      refine bj_nn (fun a15 h16 => ?_)
      subst h16
      refine bj_zald dX10_cover_28 (fun v17 h18 => ?_)
      refine bj_if_eq (tgt := 39) dX10_cover_29 (by decide) (fun h19 => ?_) (fun h19 => ?_)
      · refine bj_aload_nS dX10_cover_39 rfl 0 rfl ?_
        refine bj_getR (ci := 11) (k := 29) (C := RX10) (T := TX10) (N := 49) rfl hi_X10_cover_X10 (by decide) rfl fl_X10_cover_66 (Or.inl rfl) dX10_cover_40 (fun v20 h21 => ?_)
        refine bj_iload_n dX10_cover_43 rfl 1 rfl ?_
        refine bj_nn (fun a22 h23 => ?_)
        subst h23
        refine bj_zald dX10_cover_44 (fun v24 h25 => ?_)
        refine bj_iload_n dX10_cover_45 rfl 2 rfl ?_
        refine bj_icmp_ne (tgt := 51) dX10_cover_46 (by decide) (fun h26 => ?_) (fun h26 => ?_)
        · refine bj_aload_nS dX10_cover_51 rfl 0 rfl ?_
          refine bj_getR (ci := 11) (k := 29) (C := RX10) (T := TX10) (N := 49) rfl hi_X10_cover_X10 (by decide) rfl fl_X10_cover_66 (Or.inl rfl) dX10_cover_52 (fun v27 h28 => ?_)
          refine bj_iload_n dX10_cover_55 rfl 1 rfl ?_
          refine bj_iload_n dX10_cover_56 rfl 2 rfl ?_
          refine bj_nn (fun a29 h30 => ?_)
          subst h30
          refine bj_zast dX10_cover_57 (fun σ31 h32 => ?_)
          refine bj_iconst (v := 1) dX10_cover_58 (by decide) ?_
          exact bj_iret dX10_cover_59
        · refine bj_iconst (v := 0) dX10_cover_49 (by decide) ?_
          exact bj_iret dX10_cover_50
      · refine bj_sub (lv' := [(0, .ref this)]) [0] rfl ?_
        exact j_X10_cover_b32 X this σ3
  · refine bj_aload_nS dX10_cover_8 rfl 0 rfl ?_
    refine bj_iconst (v := (-1)) dX10_cover_9 (by decide) ?_
    refine bj_op (fun _ h33 => ?_)
    refine bj_callI (br_V (As := [.int (-1)]) (rest := []) (q := (RX10, TX10, 49)) (c_X10_refuse X this (-1) σ3) rfl g_X10_cover_X10_refuse_124 rfl (bh_ck_spec h33) ⟨rfl, hd_X10_refuse⟩ rfl ⟨by decide, by decide⟩ rfl (Nat.le_of_ble_eq_true rfl) dX10_cover_10) (fun v34 σ35 h36 => ?_)
    exact bj_iret dX10_cover_13
