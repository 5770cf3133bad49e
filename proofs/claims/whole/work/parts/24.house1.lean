/-! BeetHouse.<init>()V -/
theorem hi_X9_init_X9 : ∀ w ∈ u_ws RX9 TX9 12, w ∈ wsX9_init := fun _ h => (List.mem_cons_of_mem _ (List.mem_append_left _ (List.mem_append_left _ (List.mem_append_left _ (List.mem_append_left _ (List.mem_append_left _ (List.mem_append_left _ (List.mem_append_left _ (List.mem_append_right _ h)))))))))
set_option maxRecDepth 100000 in
theorem fl_X9_init_11 : bh_fl wsX9_init yX9_init.cls 11 "BeetHouse" "farmers" "[LBeetHouse$Farmer;" := Or.inl (List.mem_of_getElem? (i := 5) rfl)
theorem hi_X9_init_Jx4a65c : ∀ w ∈ u_ws RJx4a65c TJx4a65c 3, w ∈ wsX9_init := fun _ h => (List.mem_cons_of_mem _ (List.mem_append_left _ (List.mem_append_left _ (List.mem_append_left _ (List.mem_append_left _ (List.mem_append_left _ (List.mem_append_left _ (List.mem_append_right _ h))))))))
set_option maxRecDepth 100000 in
theorem g_X9_init_Jx4a65c_init_da8c8 : GoodIn wsX9_init wsJx4a65c_init_da8c8 := goodIn_r _ [40, 41, 42, 43, 44, 45, 46, 47, 48, 49, 50, 51, 52, 2, 3, 110, 111, 112] rfl (by decide +kernel)
set_option maxRecDepth 100000 in
theorem fl_X9_init_18 : bh_fl wsX9_init yX9_init.cls 18 "BeetHouse" "plots" "Ljava/util/ArrayList;" := Or.inl (List.mem_of_getElem? (i := 9) rfl)
set_option maxRecDepth 100000 in
theorem fl_X9_init_24 : bh_fl wsX9_init yX9_init.cls 24 "BeetHouse" "gangs" "[LBeetHouse$Gang;" := Or.inl (List.mem_of_getElem? (i := 11) rfl)
set_option maxRecDepth 100000 in
theorem fl_X9_init_28 : bh_fl wsX9_init yX9_init.cls 28 "BeetHouse" "lorries" "Ljava/util/ArrayList;" := Or.inl (List.mem_of_getElem? (i := 12) rfl)
theorem hi_X9_init_X7 : ∀ w ∈ u_ws RX7 TX7 2, w ∈ wsX9_init := fun _ h => (List.mem_cons_of_mem _ (List.mem_append_left _ (List.mem_append_left _ (List.mem_append_left _ (List.mem_append_left _ (List.mem_append_left _ (List.mem_append_right _ h)))))))
set_option maxRecDepth 100000 in
theorem g_X9_init_X7_init : GoodIn wsX9_init wsX7_init := goodIn_r _ [54, 55, 2, 3, 29, 56, 57, 113, 114] rfl (by decide +kernel)
set_option maxRecDepth 100000 in
theorem fl_X9_init_34 : bh_fl wsX9_init yX9_init.cls 34 "BeetHouse" "weather" "LBeetHouse$Weather;" := Or.inl (List.mem_of_getElem? (i := 16) rfl)
theorem hi_X9_init_X8 : ∀ w ∈ u_ws RX8 TX8 4, w ∈ wsX9_init := fun _ h => (List.mem_cons_of_mem _ (List.mem_append_left _ (List.mem_append_left _ (List.mem_append_left _ (List.mem_append_left _ (List.mem_append_right _ h))))))
set_option maxRecDepth 100000 in
theorem g_X9_init_X8_init : GoodIn wsX9_init wsX8_init := goodIn_r _ [59, 60, 2, 3, 61, 7, 8, 62, 63, 64, 65, 66, 39, 40, 41, 42, 43, 44, 45, 46, 47, 48, 49, 50, 51, 52, 110, 111, 112, 115, 116, 117, 118] rfl (by decide +kernel)
set_option maxRecDepth 100000 in
theorem fl_X9_init_41 : bh_fl wsX9_init yX9_init.cls 41 "BeetHouse" "yard" "LBeetHouse$Yard;" := Or.inl (List.mem_of_getElem? (i := 20) rfl)
theorem hi_X9_init_X4 : ∀ w ∈ u_ws RX4 TX4 5, w ∈ wsX9_init := fun _ h => (List.mem_cons_of_mem _ (List.mem_append_left _ (List.mem_append_left _ (List.mem_append_left _ (List.mem_append_right _ h)))))
set_option maxRecDepth 100000 in
theorem g_X9_init_X4_init : GoodIn wsX9_init wsX4_init := goodIn_r _ [68, 69, 2, 3, 70, 71, 72, 73, 74, 119, 120, 121, 122, 123] rfl (by decide +kernel)
set_option maxRecDepth 100000 in
theorem fl_X9_init_48 : bh_fl wsX9_init yX9_init.cls 48 "BeetHouse" "mill" "LBeetHouse$Mill;" := Or.inl (List.mem_of_getElem? (i := 24) rfl)
theorem hi_X9_init_X5 : ∀ w ∈ u_ws RX5 TX5 7, w ∈ wsX9_init := fun _ h => (List.mem_cons_of_mem _ (List.mem_append_left _ (List.mem_append_left _ (List.mem_append_right _ h))))
set_option maxRecDepth 100000 in
theorem g_X9_init_X5_init : GoodIn wsX9_init wsX5_init := goodIn_r _ [76, 77, 2, 3, 29, 78, 79, 80, 81, 82, 83, 84, 85, 124, 125, 126, 127, 128, 129, 130] rfl (by decide +kernel)
set_option maxRecDepth 100000 in
theorem fl_X9_init_55 : bh_fl wsX9_init yX9_init.cls 55 "BeetHouse" "orders" "LBeetHouse$Orders;" := Or.inl (List.mem_of_getElem? (i := 28) rfl)
set_option maxRecDepth 100000 in
theorem fl_X9_init_59 : bh_fl wsX9_init yX9_init.cls 59 "BeetHouse" "prices" "[I" := Or.inl (List.mem_of_getElem? (i := 30) rfl)
set_option maxRecDepth 100000 in
theorem fl_X9_init_63 : bh_fl wsX9_init yX9_init.cls 63 "BeetHouse" "refusals" "[I" := Or.inl (List.mem_of_getElem? (i := 31) rfl)
set_option maxRecDepth 100000 in
theorem fl_X9_init_66 : bh_fl wsX9_init yX9_init.cls 66 "BeetHouse" "freezing" "Z" := Or.inl (List.mem_of_getElem? (i := 32) rfl)
set_option maxRecDepth 100000 in
theorem fl_X9_init_70 : bh_fl wsX9_init yX9_init.cls 70 "BeetHouse" "hour" "I" := Or.inl (List.mem_of_getElem? (i := 33) rfl)
theorem hi_X9_init_X0 : ∀ w ∈ u_ws RX0 TX0 4, w ∈ wsX9_init := fun _ h => (List.mem_cons_of_mem _ (List.mem_append_left _ (List.mem_append_right _ h)))
set_option maxRecDepth 100000 in
theorem g_X9_init_X0_init : GoodIn wsX9_init wsX0_init := goodIn_r _ [87, 88, 2, 3, 89, 90, 91, 92, 131, 132, 133, 134] rfl (by decide +kernel)
theorem hi_X9_init_X1 : ∀ w ∈ u_ws RX1 TX1 2, w ∈ wsX9_init := fun _ h => (List.mem_cons_of_mem _ (List.mem_append_right _ h))
set_option maxRecDepth 100000 in
theorem g_X9_init_X1_init : GoodIn wsX9_init wsX1_init := goodIn_r _ [94, 95, 2, 3, 96, 97, 135, 136] rfl (by decide +kernel)
def f_X9_init_b143 (N : Nat) : Nat → Nat → Int32 → bh_S → Option (Unit × bh_S)
  | 0, _, _, _ => none
  | n + 1, this, x1, σ =>
    if 4 ≤ x1 then
      some ((), σ)
    else
      (bh_rdR σ 10 this 2).bind fun v2 =>
      bh_bnd (bh_newO σ 2 2) fun a4 σ5 =>
      bh_bnd (f_X1_init a4 σ5) fun v7 σ8 =>
      (v2).bind fun a10 =>
      (bh_stR σ8 15 a10 x1 (some a4)).bind fun σ12 =>
      f_X9_init_b143 N n this (x1 + 1) σ12
set_option maxHeartbeats 4000000 in
set_option maxRecDepth 100000 in
theorem j_X9_init_b143 (X : bh_X) (N : Nat) : ∀ (n : Nat) (this : Nat) (x1 : Int32) (σ : bh_S), bh_J eU yX9_init cX9_init wsX9_init none 2 5 92 X σ 143 [(0, .ref this), (1, .int x1)] [] (f_X9_init_b143 N n this x1 σ) := by
  intro n
  induction n with
  | zero => intro this x1 σ; exact bj_none
  | succ n ih =>
    intro this x1 σ
    unfold f_X9_init_b143
    refine bj_iload_n dX9_init_143 rfl 1 rfl ?_
    refine bj_iconst (v := 4) dX9_init_144 (by decide) ?_
    refine bj_icmp_ge (tgt := 167) dX9_init_145 (by decide) (fun h1 => ?_) (fun h1 => ?_)
    · exact bj_vret dX9_init_167
    · refine bj_aload_nS dX9_init_148 rfl 0 rfl ?_
      refine bj_getR (ci := 10) (k := 2) (C := RX9) (T := TX9) (N := 12) rfl hi_X9_init_X9 (by decide) rfl fl_X9_init_24 (Or.inl rfl) dX9_init_149 (fun v2 h3 => ?_)
      refine bj_iload_n dX9_init_152 rfl 1 rfl ?_
      refine bj_new (ci := 2) (C := RX1) (T := TX1) (N := 2) rfl hi_X9_init_X1 tyX1 tyX1_ok df_X1 (List.mem_of_getElem? (i := 10) rfl) (List.mem_of_getElem? (i := 36) rfl) (List.mem_of_getElem? (i := 37) rfl) dX9_init_153 (fun a4 σ5 h6 => ?_)
      refine bj_dup dX9_init_156 rfl ?_
      refine bj_callU (br_IN (As := []) (rest := [.ref a4, .int x1, va_rf v2]) (host := "BeetHouse") (c_X1_init X a4 σ5) rfl g_X9_init_X1_init (List.mem_of_getElem? (i := 58) rfl) (List.mem_of_getElem? (i := 37) rfl) (List.mem_of_getElem? (i := 93) rfl) rfl hd_X1_init rfl ⟨by decide, by decide⟩ rfl (by cases v2 <;> exact Nat.le_of_ble_eq_true rfl) dX9_init_157) (fun v7 σ8 h9 => ?_)
      refine bj_nn (fun a10 h11 => ?_)
      subst h11
      refine bj_aast (ci := 15) (v := (some a4)) (by decide) dX9_init_160 (fun σ12 h13 => ?_)
      refine bj_iinc (v := x1 + 1) (lv' := [(1, .int (x1 + 1)), (0, .ref this)]) dX9_init_161 1 rfl rfl (by decide) rfl ?_
      refine bj_goto (tgt := 143) dX9_init_164 (by decide) ?_
      refine bj_sub (lv' := [(0, .ref this), (1, .int (x1 + 1))]) [1, 0] rfl ?_
      exact ih this (x1 + 1) σ12
def f_X9_init_b115 (N : Nat) : Nat → Nat → Int32 → bh_S → Option (Unit × bh_S)
  | 0, _, _, _ => none
  | n + 1, this, x1, σ =>
    if 6 ≤ x1 then
      f_X9_init_b143 N N this 0 σ
    else
      (bh_rdR σ 10 this 0).bind fun v2 =>
      bh_bnd (bh_newO σ 1 4) fun a4 σ5 =>
      bh_bnd (f_X0_init a4 x1 σ5) fun v7 σ8 =>
      (v2).bind fun a10 =>
      (bh_stR σ8 14 a10 x1 (some a4)).bind fun σ12 =>
      f_X9_init_b115 N n this (x1 + 1) σ12
set_option maxHeartbeats 4000000 in
set_option maxRecDepth 100000 in
theorem j_X9_init_b115 (X : bh_X) (N : Nat) : ∀ (n : Nat) (this : Nat) (x1 : Int32) (σ : bh_S), bh_J eU yX9_init cX9_init wsX9_init none 2 5 92 X σ 115 [(0, .ref this), (1, .int x1)] [] (f_X9_init_b115 N n this x1 σ) := by
  intro n
  induction n with
  | zero => intro this x1 σ; exact bj_none
  | succ n ih =>
    intro this x1 σ
    unfold f_X9_init_b115
    refine bj_iload_n dX9_init_115 rfl 1 rfl ?_
    refine bj_bipush (v := 6) dX9_init_116 (by decide) ?_
    refine bj_icmp_ge (tgt := 141) dX9_init_118 (by decide) (fun h1 => ?_) (fun h1 => ?_)
    · refine bj_iconst (v := 0) dX9_init_141 (by decide) ?_
      refine bj_istore_n (lv' := [(1, .int 0), (0, .ref this)]) dX9_init_142 rfl (by decide) rfl ?_
      refine bj_sub (lv' := [(0, .ref this), (1, .int 0)]) [1, 0] rfl ?_
      exact j_X9_init_b143 X N N this 0 σ
    · refine bj_aload_nS dX9_init_121 rfl 0 rfl ?_
      refine bj_getR (ci := 10) (k := 0) (C := RX9) (T := TX9) (N := 12) rfl hi_X9_init_X9 (by decide) rfl fl_X9_init_11 (Or.inl rfl) dX9_init_122 (fun v2 h3 => ?_)
      refine bj_iload_n dX9_init_125 rfl 1 rfl ?_
      refine bj_new (ci := 1) (C := RX0) (T := TX0) (N := 4) rfl hi_X9_init_X0 tyX0 tyX0_ok df_X0 (List.mem_of_getElem? (i := 4) rfl) (List.mem_of_getElem? (i := 34) rfl) (List.mem_of_getElem? (i := 35) rfl) dX9_init_126 (fun a4 σ5 h6 => ?_)
      refine bj_dup dX9_init_129 rfl ?_
      refine bj_iload_n dX9_init_130 rfl 1 rfl ?_
      refine bj_callU (br_IN (As := [.int x1]) (rest := [.ref a4, .int x1, va_rf v2]) (host := "BeetHouse") (c_X0_init X a4 x1 σ5) rfl g_X9_init_X0_init (List.mem_of_getElem? (i := 57) rfl) (List.mem_of_getElem? (i := 35) rfl) (List.mem_of_getElem? (i := 86) rfl) rfl hd_X0_init rfl ⟨by decide, by decide⟩ rfl (by cases v2 <;> exact Nat.le_of_ble_eq_true rfl) dX9_init_131) (fun v7 σ8 h9 => ?_)
      refine bj_nn (fun a10 h11 => ?_)
      subst h11
      refine bj_aast (ci := 14) (v := (some a4)) (by decide) dX9_init_134 (fun σ12 h13 => ?_)
      refine bj_iinc (v := x1 + 1) (lv' := [(1, .int (x1 + 1)), (0, .ref this)]) dX9_init_135 1 rfl rfl (by decide) rfl ?_
      refine bj_goto (tgt := 115) dX9_init_138 (by decide) ?_
      refine bj_sub (lv' := [(0, .ref this), (1, .int (x1 + 1))]) [1, 0] rfl ?_
      exact ih this (x1 + 1) σ12
def f_X9_init (N : Nat) (this : Nat) (σ : bh_S) : Option (Unit × bh_S) :=
  bh_bnd (bh_newA σ 14 6) fun a1 σ2 =>
  (bh_wrR σ2 10 this 0 (some a1)).bind fun σ4 =>
  bh_bnd (bh_newO σ4 0 3) fun a6 σ7 =>
  bh_bnd (f_Jx4a65c_init_da8c8 a6 σ7) fun v9 σ10 =>
  (bh_wrR σ10 10 this 1 (some a6)).bind fun σ12 =>
  bh_bnd (bh_newA σ12 15 4) fun a14 σ15 =>
  (bh_wrR σ15 10 this 2 (some a14)).bind fun σ17 =>
  bh_bnd (bh_newO σ17 0 3) fun a19 σ20 =>
  bh_bnd (f_Jx4a65c_init_da8c8 a19 σ20) fun v22 σ23 =>
  (bh_wrR σ23 10 this 3 (some a19)).bind fun σ25 =>
  bh_bnd (bh_newO σ25 8 2) fun a27 σ28 =>
  bh_bnd (f_X7_init N a27 σ28) fun v30 σ31 =>
  (bh_wrR σ31 10 this 4 (some a27)).bind fun σ33 =>
  bh_bnd (bh_newO σ33 9 4) fun a35 σ36 =>
  bh_bnd (f_X8_init a35 σ36) fun v38 σ39 =>
  (bh_wrR σ39 10 this 5 (some a35)).bind fun σ41 =>
  bh_bnd (bh_newO σ41 5 5) fun a43 σ44 =>
  bh_bnd (f_X4_init a43 σ44) fun v46 σ47 =>
  (bh_wrR σ47 10 this 6 (some a43)).bind fun σ49 =>
  bh_bnd (bh_newO σ49 6 7) fun a51 σ52 =>
  bh_bnd (f_X5_init a51 σ52) fun v54 σ55 =>
  (bh_wrR σ55 10 this 7 (some a51)).bind fun σ57 =>
  bh_bnd (bh_newA σ57 12 10) fun a59 σ60 =>
  (bh_wrR σ60 10 this 8 (some a59)).bind fun σ62 =>
  bh_bnd (bh_newA σ62 12 7) fun a64 σ65 =>
  (bh_wrR σ65 10 this 9 (some a64)).bind fun σ67 =>
  (bh_wrZ σ67 10 this 10 0).bind fun σ69 =>
  (bh_wrI σ69 10 this 11 0).bind fun σ71 =>
  f_X9_init_b115 N N this 0 σ71
set_option maxHeartbeats 4000000 in
set_option maxRecDepth 100000 in
theorem c_X9_init (X : bh_X) (N : Nat) (this : Nat) (σ : bh_S) : bh_MX eU X yX9_init wsX9_init 5 92 [.ref this] σ (f_X9_init N this σ) := by
  refine bh_enter (cc := cX9_init) (NL := 2) (ret := none) (by decide) rfl (Nat.le_of_ble_eq_true rfl) (fun X => ?_)
  show bh_J eU yX9_init cX9_init wsX9_init none 2 5 92 X σ 0 [(0, .ref this)] [] _
  unfold f_X9_init
  refine bj_aload_nS dX9_init_0 rfl 0 rfl ?_
  refine bj_objInit (List.mem_of_getElem? (i := 1) rfl) (List.mem_of_getElem? (i := 2) rfl) (List.mem_of_getElem? (i := 3) rfl) (by decide) (Nat.le_of_ble_eq_true rfl) dX9_init_1 ?_
  refine bj_aload_nS dX9_init_4 rfl 0 rfl ?_
  refine bj_bipush (v := 6) dX9_init_5 (by decide) ?_
  refine bj_newF (List.mem_of_getElem? (i := 4) rfl) dX9_init_7 (fun a1 σ2 h3 => ?_)
  refine bj_putR (ci := 10) (k := 0) (C := RX9) (T := TX9) (N := 12) (v := (some a1)) rfl hi_X9_init_X9 (by decide) rfl fl_X9_init_11 (Or.inl rfl) tyX9 tyX9_ok nmX9 (Or.inr ⟨_, rfl⟩) (Or.inr ⟨rfl, rfl, rfl, List.mem_of_getElem? (i := 5) rfl⟩) dX9_init_10 (fun σ4 h5 => ?_)
  refine bj_aload_nS dX9_init_13 rfl 0 rfl ?_
  refine bj_new (ci := 0) (C := RJx4a65c) (T := TJx4a65c) (N := 3) rfl hi_X9_init_Jx4a65c tyJx4a65c tyJx4a65c_ok df_Jx4a65c (List.mem_of_getElem? (i := 6) rfl) (List.mem_of_getElem? (i := 7) rfl) (List.mem_of_getElem? (i := 8) rfl) dX9_init_14 (fun a6 σ7 h8 => ?_)
  refine bj_dup dX9_init_17 rfl ?_
  refine bj_callU (br_I (As := []) (rest := [.ref a6, .ref this]) (c_Jx4a65c_init_da8c8 X a6 σ7) rfl g_X9_init_Jx4a65c_init_da8c8 (List.mem_of_getElem? (i := 8) rfl) (List.mem_of_getElem? (i := 38) rfl) (List.mem_of_getElem? (i := 39) rfl) rfl hd_Jx4a65c_init_da8c8 rfl ⟨by decide, by decide⟩ rfl (Nat.le_of_ble_eq_true rfl) dX9_init_18) (fun v9 σ10 h11 => ?_)
  refine bj_putR (ci := 10) (k := 1) (C := RX9) (T := TX9) (N := 12) (v := (some a6)) rfl hi_X9_init_X9 (by decide) rfl fl_X9_init_18 (Or.inl rfl) tyX9 tyX9_ok nmX9 (Or.inl ⟨_, rfl⟩) (Or.inr ⟨rfl, rfl, rfl, List.mem_of_getElem? (i := 9) rfl⟩) dX9_init_21 (fun σ12 h13 => ?_)
  refine bj_aload_nS dX9_init_24 rfl 0 rfl ?_
  refine bj_iconst (v := 4) dX9_init_25 (by decide) ?_
  refine bj_newG (List.mem_of_getElem? (i := 10) rfl) dX9_init_26 (fun a14 σ15 h16 => ?_)
  refine bj_putR (ci := 10) (k := 2) (C := RX9) (T := TX9) (N := 12) (v := (some a14)) rfl hi_X9_init_X9 (by decide) rfl fl_X9_init_24 (Or.inl rfl) tyX9 tyX9_ok nmX9 (Or.inr ⟨_, rfl⟩) (Or.inr ⟨rfl, rfl, rfl, List.mem_of_getElem? (i := 11) rfl⟩) dX9_init_29 (fun σ17 h18 => ?_)
  refine bj_aload_nS dX9_init_32 rfl 0 rfl ?_
  refine bj_new (ci := 0) (C := RJx4a65c) (T := TJx4a65c) (N := 3) rfl hi_X9_init_Jx4a65c tyJx4a65c tyJx4a65c_ok df_Jx4a65c (List.mem_of_getElem? (i := 6) rfl) (List.mem_of_getElem? (i := 7) rfl) (List.mem_of_getElem? (i := 8) rfl) dX9_init_33 (fun a19 σ20 h21 => ?_)
  refine bj_dup dX9_init_36 rfl ?_
  refine bj_callU (br_I (As := []) (rest := [.ref a19, .ref this]) (c_Jx4a65c_init_da8c8 X a19 σ20) rfl g_X9_init_Jx4a65c_init_da8c8 (List.mem_of_getElem? (i := 8) rfl) (List.mem_of_getElem? (i := 38) rfl) (List.mem_of_getElem? (i := 39) rfl) rfl hd_Jx4a65c_init_da8c8 rfl ⟨by decide, by decide⟩ rfl (Nat.le_of_ble_eq_true rfl) dX9_init_37) (fun v22 σ23 h24 => ?_)
  refine bj_putR (ci := 10) (k := 3) (C := RX9) (T := TX9) (N := 12) (v := (some a19)) rfl hi_X9_init_X9 (by decide) rfl fl_X9_init_28 (Or.inl rfl) tyX9 tyX9_ok nmX9 (Or.inl ⟨_, rfl⟩) (Or.inr ⟨rfl, rfl, rfl, List.mem_of_getElem? (i := 12) rfl⟩) dX9_init_40 (fun σ25 h26 => ?_)
  refine bj_aload_nS dX9_init_43 rfl 0 rfl ?_
  refine bj_new (ci := 8) (C := RX7) (T := TX7) (N := 2) rfl hi_X9_init_X7 tyX7 tyX7_ok df_X7 (List.mem_of_getElem? (i := 13) rfl) (List.mem_of_getElem? (i := 14) rfl) (List.mem_of_getElem? (i := 15) rfl) dX9_init_44 (fun a27 σ28 h29 => ?_)
  refine bj_dup dX9_init_47 rfl ?_
  refine bj_callU (br_IN (As := []) (rest := [.ref a27, .ref this]) (host := "BeetHouse") (c_X7_init X N a27 σ28) rfl g_X9_init_X7_init (List.mem_of_getElem? (i := 53) rfl) (List.mem_of_getElem? (i := 15) rfl) (List.mem_of_getElem? (i := 53) rfl) rfl hd_X7_init rfl ⟨by decide, by decide⟩ rfl (Nat.le_of_ble_eq_true rfl) dX9_init_48) (fun v30 σ31 h32 => ?_)
  refine bj_putR (ci := 10) (k := 4) (C := RX9) (T := TX9) (N := 12) (v := (some a27)) rfl hi_X9_init_X9 (by decide) rfl fl_X9_init_34 (Or.inl rfl) tyX9 tyX9_ok nmX9 (Or.inl ⟨_, rfl⟩) (Or.inr ⟨rfl, rfl, rfl, List.mem_of_getElem? (i := 16) rfl⟩) dX9_init_51 (fun σ33 h34 => ?_)
  refine bj_aload_nS dX9_init_54 rfl 0 rfl ?_
  refine bj_new (ci := 9) (C := RX8) (T := TX8) (N := 4) rfl hi_X9_init_X8 tyX8 tyX8_ok df_X8 (List.mem_of_getElem? (i := 17) rfl) (List.mem_of_getElem? (i := 18) rfl) (List.mem_of_getElem? (i := 19) rfl) dX9_init_55 (fun a35 σ36 h37 => ?_)
  refine bj_dup dX9_init_58 rfl ?_
  refine bj_callU (br_IN (As := []) (rest := [.ref a35, .ref this]) (host := "BeetHouse") (c_X8_init X a35 σ36) rfl g_X9_init_X8_init (List.mem_of_getElem? (i := 54) rfl) (List.mem_of_getElem? (i := 19) rfl) (List.mem_of_getElem? (i := 58) rfl) rfl hd_X8_init rfl ⟨by decide, by decide⟩ rfl (Nat.le_of_ble_eq_true rfl) dX9_init_59) (fun v38 σ39 h40 => ?_)
  refine bj_putR (ci := 10) (k := 5) (C := RX9) (T := TX9) (N := 12) (v := (some a35)) rfl hi_X9_init_X9 (by decide) rfl fl_X9_init_41 (Or.inl rfl) tyX9 tyX9_ok nmX9 (Or.inl ⟨_, rfl⟩) (Or.inr ⟨rfl, rfl, rfl, List.mem_of_getElem? (i := 20) rfl⟩) dX9_init_62 (fun σ41 h42 => ?_)
  refine bj_aload_nS dX9_init_65 rfl 0 rfl ?_
  refine bj_new (ci := 5) (C := RX4) (T := TX4) (N := 5) rfl hi_X9_init_X4 tyX4 tyX4_ok df_X4 (List.mem_of_getElem? (i := 21) rfl) (List.mem_of_getElem? (i := 22) rfl) (List.mem_of_getElem? (i := 23) rfl) dX9_init_66 (fun a43 σ44 h45 => ?_)
  refine bj_dup dX9_init_69 rfl ?_
  refine bj_callU (br_IN (As := []) (rest := [.ref a43, .ref this]) (host := "BeetHouse") (c_X4_init X a43 σ44) rfl g_X9_init_X4_init (List.mem_of_getElem? (i := 55) rfl) (List.mem_of_getElem? (i := 23) rfl) (List.mem_of_getElem? (i := 67) rfl) rfl hd_X4_init rfl ⟨by decide, by decide⟩ rfl (Nat.le_of_ble_eq_true rfl) dX9_init_70) (fun v46 σ47 h48 => ?_)
  refine bj_putR (ci := 10) (k := 6) (C := RX9) (T := TX9) (N := 12) (v := (some a43)) rfl hi_X9_init_X9 (by decide) rfl fl_X9_init_48 (Or.inl rfl) tyX9 tyX9_ok nmX9 (Or.inl ⟨_, rfl⟩) (Or.inr ⟨rfl, rfl, rfl, List.mem_of_getElem? (i := 24) rfl⟩) dX9_init_73 (fun σ49 h50 => ?_)
  refine bj_aload_nS dX9_init_76 rfl 0 rfl ?_
  refine bj_new (ci := 6) (C := RX5) (T := TX5) (N := 7) rfl hi_X9_init_X5 tyX5 tyX5_ok df_X5 (List.mem_of_getElem? (i := 25) rfl) (List.mem_of_getElem? (i := 26) rfl) (List.mem_of_getElem? (i := 27) rfl) dX9_init_77 (fun a51 σ52 h53 => ?_)
  refine bj_dup dX9_init_80 rfl ?_
  refine bj_callU (br_IN (As := []) (rest := [.ref a51, .ref this]) (host := "BeetHouse") (c_X5_init X a51 σ52) rfl g_X9_init_X5_init (List.mem_of_getElem? (i := 56) rfl) (List.mem_of_getElem? (i := 27) rfl) (List.mem_of_getElem? (i := 75) rfl) rfl hd_X5_init rfl ⟨by decide, by decide⟩ rfl (Nat.le_of_ble_eq_true rfl) dX9_init_81) (fun v54 σ55 h56 => ?_)
  refine bj_putR (ci := 10) (k := 7) (C := RX9) (T := TX9) (N := 12) (v := (some a51)) rfl hi_X9_init_X9 (by decide) rfl fl_X9_init_55 (Or.inl rfl) tyX9 tyX9_ok nmX9 (Or.inl ⟨_, rfl⟩) (Or.inr ⟨rfl, rfl, rfl, List.mem_of_getElem? (i := 28) rfl⟩) dX9_init_84 (fun σ57 h58 => ?_)
  refine bj_aload_nS dX9_init_87 rfl 0 rfl ?_
  refine bj_bipush (v := 10) dX9_init_88 (by decide) ?_
  refine bj_newi (List.mem_of_getElem? (i := 29) rfl) dX9_init_90 (fun a59 σ60 h61 => ?_)
  refine bj_putR (ci := 10) (k := 8) (C := RX9) (T := TX9) (N := 12) (v := (some a59)) rfl hi_X9_init_X9 (by decide) rfl fl_X9_init_59 (Or.inl rfl) tyX9 tyX9_ok nmX9 (Or.inr ⟨_, rfl⟩) (Or.inr ⟨rfl, rfl, rfl, List.mem_of_getElem? (i := 30) rfl⟩) dX9_init_92 (fun σ62 h63 => ?_)
  refine bj_aload_nS dX9_init_95 rfl 0 rfl ?_
  refine bj_bipush (v := 7) dX9_init_96 (by decide) ?_
  refine bj_newi (List.mem_of_getElem? (i := 29) rfl) dX9_init_98 (fun a64 σ65 h66 => ?_)
  refine bj_putR (ci := 10) (k := 9) (C := RX9) (T := TX9) (N := 12) (v := (some a64)) rfl hi_X9_init_X9 (by decide) rfl fl_X9_init_63 (Or.inl rfl) tyX9 tyX9_ok nmX9 (Or.inr ⟨_, rfl⟩) (Or.inr ⟨rfl, rfl, rfl, List.mem_of_getElem? (i := 31) rfl⟩) dX9_init_100 (fun σ67 h68 => ?_)
  refine bj_aload_nS dX9_init_103 rfl 0 rfl ?_
  refine bj_iconst (v := 0) dX9_init_104 (by decide) ?_
  refine bj_putZ (ci := 10) (k := 10) (C := RX9) (T := TX9) (N := 12) rfl hi_X9_init_X9 (by decide) rfl fl_X9_init_66 (Or.inl rfl) tyX9 tyX9_ok nmX9 rfl (Or.inl rfl) dX9_init_105 (fun σ69 h70 => ?_)
  refine bj_aload_nS dX9_init_108 rfl 0 rfl ?_
  refine bj_iconst (v := 0) dX9_init_109 (by decide) ?_
  refine bj_putI (ci := 10) (k := 11) (C := RX9) (T := TX9) (N := 12) rfl hi_X9_init_X9 (by decide) rfl fl_X9_init_70 (Or.inl rfl) tyX9 tyX9_ok nmX9 rfl (Or.inl rfl) dX9_init_110 (fun σ71 h72 => ?_)
  refine bj_iconst (v := 0) dX9_init_113 (by decide) ?_
  refine bj_istore_n (lv' := [(1, .int 0), (0, .ref this)]) dX9_init_114 rfl (by decide) rfl ?_
  refine bj_sub (lv' := [(0, .ref this), (1, .int 0)]) [1, 0] rfl ?_
  exact j_X9_init_b115 X N N this 0 σ71
/-! BeetHouse.farmerAt(I)LBeetHouse$Farmer; -/
theorem hi_X9_farmerAt_X9 : ∀ w ∈ u_ws RX9 TX9 12, w ∈ wsX9_farmerAt := fun _ h => (List.mem_cons_of_mem _ (List.mem_append_right _ h))
set_option maxRecDepth 100000 in
theorem fl_X9_farmerAt_11 : bh_fl wsX9_farmerAt yX9_farmerAt.cls 11 "BeetHouse" "farmers" "[LBeetHouse$Farmer;" := Or.inl (List.mem_of_getElem? (i := 1) rfl)
def f_X9_farmerAt (this : Nat) (p1 : Int32) (σ : bh_S) : Option (Option Nat × bh_S) :=
  if p1 < 0 then
    some (none, σ)
  else
    if 6 ≤ p1 then
      some (none, σ)
    else
      (bh_rdR σ 10 this 0).bind fun v3 =>
      (v3).bind fun a5 =>
      (bh_ldR σ 14 a5 p1).bind fun v7 =>
      some (v7, σ)
set_option maxHeartbeats 4000000 in
set_option maxRecDepth 100000 in
theorem c_X9_farmerAt (X : bh_X) (this : Nat) (p1 : Int32) (σ : bh_S) : bh_MX eR X yX9_farmerAt wsX9_farmerAt 0 0 [.ref this, .int p1] σ (f_X9_farmerAt this p1 σ) := by
  refine bh_enter (cc := cX9_farmerAt) (NL := 2) (ret := (some (.object "BeetHouse$Farmer"))) (by decide) rfl (Nat.le_of_ble_eq_true rfl) (fun X => ?_)
  show bh_J eR yX9_farmerAt cX9_farmerAt wsX9_farmerAt (some (.object "BeetHouse$Farmer")) 2 0 0 X σ 0 [(0, .ref this), (1, .int p1)] [] _
  unfold f_X9_farmerAt
  refine bj_iload_n dX9_farmerAt_0 rfl 1 rfl ?_
  refine bj_if_lt (tgt := 19) dX9_farmerAt_1 (by decide) (fun h1 => ?_) (fun h1 => ?_)
  · refine bj_null dX9_farmerAt_19 ?_
    exact bj_aret (o := none) dX9_farmerAt_20 (Or.inl ⟨_, rfl⟩)
  · refine bj_iload_n dX9_farmerAt_4 rfl 1 rfl ?_
    refine bj_bipush (v := 6) dX9_farmerAt_5 (by decide) ?_
    refine bj_icmp_ge (tgt := 19) dX9_farmerAt_7 (by decide) (fun h2 => ?_) (fun h2 => ?_)
    · refine bj_null dX9_farmerAt_19 ?_
      exact bj_aret (o := none) dX9_farmerAt_20 (Or.inl ⟨_, rfl⟩)
    · refine bj_aload_nS dX9_farmerAt_10 rfl 0 rfl ?_
      refine bj_getR (ci := 10) (k := 0) (C := RX9) (T := TX9) (N := 12) rfl hi_X9_farmerAt_X9 (by decide) rfl fl_X9_farmerAt_11 (Or.inl rfl) dX9_farmerAt_11 (fun v3 h4 => ?_)
      refine bj_iload_n dX9_farmerAt_14 rfl 1 rfl ?_
      refine bj_nn (fun a5 h6 => ?_)
      subst h6
      refine bj_aald (ci := 14) (by decide) dX9_farmerAt_15 (fun v7 h8 => ?_)
      refine bj_goto (tgt := 20) dX9_farmerAt_16 (by decide) ?_
      exact bj_aret (o := v7) dX9_farmerAt_20 (Or.inl ⟨_, rfl⟩)
/-! BeetHouse.outside(III)I -/
def f_X9_outside (p0 : Int32) (p1 : Int32) (p2 : Int32) (σ : bh_S) : Option (Int32 × bh_S) :=
  if p1 ≤ p0 then
    if p0 ≤ p2 then
      some (0, σ)
    else
      some ((-6), σ)
  else
    some ((-4), σ)
set_option maxHeartbeats 4000000 in
set_option maxRecDepth 100000 in
theorem c_X9_outside (X : bh_X) (p0 : Int32) (p1 : Int32) (p2 : Int32) (σ : bh_S) : bh_MX eI X yX9_outside wsX9_outside 0 0 [.int p0, .int p1, .int p2] σ (f_X9_outside p0 p1 p2 σ) := by
  refine bh_enter (cc := cX9_outside) (NL := 3) (ret := (some .int)) (by decide) rfl (Nat.le_of_ble_eq_true rfl) (fun X => ?_)
  show bh_J eI yX9_outside cX9_outside wsX9_outside (some .int) 3 0 0 X σ 0 [(0, .int p0), (1, .int p1), (2, .int p2)] [] _
  unfold f_X9_outside
  refine bj_iload_n dX9_outside_0 rfl 0 rfl ?_
  refine bj_iload_n dX9_outside_1 rfl 1 rfl ?_
  refine bj_icmp_ge (tgt := 8) dX9_outside_2 (by decide) (fun h1 => ?_) (fun h1 => ?_)
  · refine bj_iload_n dX9_outside_8 rfl 0 rfl ?_
    refine bj_iload_n dX9_outside_9 rfl 2 rfl ?_
    refine bj_icmp_le (tgt := 18) dX9_outside_10 (by decide) (fun h2 => ?_) (fun h2 => ?_)
    · refine bj_iconst (v := 0) dX9_outside_18 (by decide) ?_
      exact bj_iret dX9_outside_19
    · refine bj_bipush (v := (-6)) dX9_outside_13 (by decide) ?_
      refine bj_goto (tgt := 19) dX9_outside_15 (by decide) ?_
      exact bj_iret dX9_outside_19
  · refine bj_bipush (v := (-4)) dX9_outside_5 (by decide) ?_
    exact bj_iret dX9_outside_7
/-! BeetHouse.refuse(I)I -/
theorem hi_X9_refuse_X9 : ∀ w ∈ u_ws RX9 TX9 12, w ∈ wsX9_refuse := fun _ h => (List.mem_cons_of_mem _ (List.mem_append_right _ h))
set_option maxRecDepth 100000 in
theorem fl_X9_refuse_63 : bh_fl wsX9_refuse yX9_refuse.cls 63 "BeetHouse" "refusals" "[I" := Or.inl (List.mem_of_getElem? (i := 1) rfl)
def f_X9_refuse (this : Nat) (p1 : Int32) (σ : bh_S) : Option (Int32 × bh_S) :=
  if (-1) < p1 then
    some (p1, σ)
  else
    if p1 < (-6) then
      some (p1, σ)
    else
      (bh_rdR σ 10 this 9).bind fun v3 =>
      (v3).bind fun a5 =>
      (bh_ldI σ 12 a5 (-p1)).bind fun v7 =>
      (bh_stI σ 12 a5 (-p1) (v7 + 1)).bind fun σ9 =>
      some (p1, σ9)
set_option maxHeartbeats 4000000 in
set_option maxRecDepth 100000 in
theorem c_X9_refuse (X : bh_X) (this : Nat) (p1 : Int32) (σ : bh_S) : bh_MX eI X yX9_refuse wsX9_refuse 0 0 [.ref this, .int p1] σ (f_X9_refuse this p1 σ) := by
  refine bh_enter (cc := cX9_refuse) (NL := 2) (ret := (some .int)) (by decide) rfl (Nat.le_of_ble_eq_true rfl) (fun X => ?_)
  show bh_J eI yX9_refuse cX9_refuse wsX9_refuse (some .int) 2 0 0 X σ 0 [(0, .ref this), (1, .int p1)] [] _
  unfold f_X9_refuse
  refine bj_iload_n dX9_refuse_0 rfl 1 rfl ?_
  refine bj_iconst (v := (-1)) dX9_refuse_1 (by decide) ?_
  refine bj_icmp_gt (tgt := 22) dX9_refuse_2 (by decide) (fun h1 => ?_) (fun h1 => ?_)
  · refine bj_iload_n dX9_refuse_22 rfl 1 rfl ?_
    exact bj_iret dX9_refuse_23
  · refine bj_iload_n dX9_refuse_5 rfl 1 rfl ?_
    refine bj_bipush (v := (-6)) dX9_refuse_6 (by decide) ?_
    refine bj_icmp_lt (tgt := 22) dX9_refuse_8 (by decide) (fun h2 => ?_) (fun h2 => ?_)
    · refine bj_iload_n dX9_refuse_22 rfl 1 rfl ?_
      exact bj_iret dX9_refuse_23
    · refine bj_aload_nS dX9_refuse_11 rfl 0 rfl ?_
      refine bj_getR (ci := 10) (k := 9) (C := RX9) (T := TX9) (N := 12) rfl hi_X9_refuse_X9 (by decide) rfl fl_X9_refuse_63 (Or.inl rfl) dX9_refuse_12 (fun v3 h4 => ?_)
      refine bj_iload_n dX9_refuse_15 rfl 1 rfl ?_
      refine bj_ineg dX9_refuse_16 ?_
      refine bj_dup2 dX9_refuse_17 rfl (bh_cat _) ?_
      refine bj_nn (fun a5 h6 => ?_)
      subst h6
      refine bj_iald dX9_refuse_18 (fun v7 h8 => ?_)
      refine bj_iconst (v := 1) dX9_refuse_19 (by decide) ?_
      refine bj_iadd dX9_refuse_20 ?_
      refine bj_iast dX9_refuse_21 (fun σ9 h10 => ?_)
      refine bj_iload_n dX9_refuse_22 rfl 1 rfl ?_
      exact bj_iret dX9_refuse_23
/-! BeetHouse.share(II)I -/
set_option maxRecDepth 100000 in
theorem g_X9_share_X9_farmerAt_78 : GoodIn wsX9_share (wsV yX9_share.cls 78 RX9 yX9_farmerAt wsX9_farmerAt) := goodIn_r _ [1, 2, 3, 4, 5, 6, 19, 20, 21, 22, 23, 24, 25, 26, 27, 28, 29, 30] rfl (by decide +kernel)
set_option maxRecDepth 100000 in
theorem g_X9_share_X9_refuse_82 : GoodIn wsX9_share (wsV yX9_share.cls 82 RX9 yX9_refuse wsX9_refuse) := goodIn_r _ [7, 8, 9, 4, 10, 11, 19, 20, 21, 22, 23, 24, 25, 26, 27, 28, 29, 30] rfl (by decide +kernel)
set_option maxRecDepth 100000 in
theorem g_X9_share_X9_outside_86 : GoodIn wsX9_share (va_wsS yX9_share.cls 86 yX9_outside wsX9_outside) := goodIn_r _ [12, 13, 4, 14] rfl (by decide +kernel)
theorem hi_X9_share_X0 : ∀ w ∈ u_ws RX0 TX0 4, w ∈ wsX9_share := fun _ h => (List.mem_cons_of_mem _ (List.mem_append_left _ (List.mem_append_right _ h)))
set_option maxRecDepth 100000 in
theorem fl_X9_share_90 : bh_fl wsX9_share yX9_share.cls 90 "BeetHouse$Farmer" "share" "I" := Or.inr ⟨"BeetHouse", List.mem_of_getElem? (i := 14) rfl⟩
def f_X9_share (this : Nat) (p1 : Int32) (p2 : Int32) (σ : bh_S) : Option (Int32 × bh_S) :=
  (bh_ck σ this 10).bind fun _ =>
  bh_bnd (f_X9_farmerAt this p1 σ) fun v2 σ3 =>
  bh_cs v2 (
    (bh_ck σ3 this 10).bind fun _ =>
    bh_bnd (f_X9_refuse this (-1) σ3) fun v8 σ9 =>
    some (v8, σ9)
  ) (fun a5 =>
    bh_bnd (f_X9_outside p2 0 1000 σ3) fun v11 σ12 =>
    if v11 = 0 then
      (bh_rdI σ12 1 a5 1).bind fun v15 =>
      (bh_wrI σ12 1 a5 1 p2).bind fun σ17 =>
      some (v15, σ17)
    else
      (bh_ck σ12 this 10).bind fun _ =>
      bh_bnd (f_X9_refuse this v11 σ12) fun v20 σ21 =>
      some (v20, σ21)
  )
set_option maxHeartbeats 4000000 in
set_option maxRecDepth 100000 in
theorem c_X9_share (X : bh_X) (this : Nat) (p1 : Int32) (p2 : Int32) (σ : bh_S) : bh_MX eI X yX9_share wsX9_share 1 22 [.ref this, .int p1, .int p2] σ (f_X9_share this p1 p2 σ) := by
  refine bh_enter (cc := cX9_share) (NL := 6) (ret := (some .int)) (by decide) rfl (Nat.le_of_ble_eq_true rfl) (fun X => ?_)
  show bh_J eI yX9_share cX9_share wsX9_share (some .int) 6 1 22 X σ 0 [(0, .ref this), (1, .int p1), (2, .int p2)] [] _
  unfold f_X9_share
  refine bj_aload_nS dX9_share_0 rfl 0 rfl ?_
  refine bj_iload_n dX9_share_1 rfl 1 rfl ?_
  refine bj_op (fun _ h1 => ?_)
  refine bj_callR (br_V (As := [.int p1]) (rest := []) (q := (RX9, TX9, 12)) (c_X9_farmerAt X this p1 σ) rfl g_X9_share_X9_farmerAt_78 rfl (bh_ck_spec h1) ⟨rfl, hd_X9_farmerAt⟩ rfl ⟨by decide, by decide⟩ rfl (Nat.le_of_ble_eq_true rfl) dX9_share_2) (fun v2 σ3 h4 => ?_)
  refine bj_astore_n (lv' := [(3, va_rf v2), (0, .ref this), (1, .int p1), (2, .int p2)]) (o := v2) dX9_share_5 rfl (by decide) rfl ?_
  refine bj_aload_n dX9_share_6 rfl 0 rfl ?_
  refine bj_ifnonnull (o := v2) (tgt := 16) dX9_share_7 (by decide) (fun h6 => ?_) (fun a5 h6 => ?_)
  · subst h6
    refine bj_aload_nS dX9_share_10 rfl 1 rfl ?_
    refine bj_iconst (v := (-1)) dX9_share_11 (by decide) ?_
    refine bj_op (fun _ h7 => ?_)
    refine bj_callI (br_V (As := [.int (-1)]) (rest := []) (q := (RX9, TX9, 12)) (c_X9_refuse X this (-1) σ3) rfl g_X9_share_X9_refuse_82 rfl (bh_ck_spec h7) ⟨rfl, hd_X9_refuse⟩ rfl ⟨by decide, by decide⟩ rfl (Nat.le_of_ble_eq_true rfl) dX9_share_12) (fun v8 σ9 h10 => ?_)
    exact bj_iret dX9_share_15
  · subst h6
    refine bj_iload_n dX9_share_16 rfl 3 rfl ?_
    refine bj_iconst (v := 0) dX9_share_17 (by decide) ?_
    refine bj_sipush (v := 1000) dX9_share_18 (by decide) ?_
    refine bj_callI (br_S (As := [.int p2, .int 0, .int 1000]) (rest := []) (c_X9_outside X p2 0 1000 σ3) rfl g_X9_share_X9_outside_86 hd_X9_outside rfl ⟨by decide, by decide⟩ rfl (Nat.le_of_ble_eq_true rfl) dX9_share_21) (fun v11 σ12 h13 => ?_)
    refine bj_istore (lv' := [(4, .int v11), (3, .ref a5), (0, .ref this), (1, .int p1), (2, .int p2)]) dX9_share_24 (by decide) rfl ?_
    refine bj_iload dX9_share_26 0 rfl ?_
    refine bj_if_eq (tgt := 38) dX9_share_28 (by decide) (fun h14 => ?_) (fun h14 => ?_)
    · refine bj_aload_nS dX9_share_38 rfl 1 rfl ?_
      refine bj_getI (ci := 1) (k := 1) (C := RX0) (T := TX0) (N := 4) rfl hi_X9_share_X0 (by decide) rfl fl_X9_share_90 (Or.inl rfl) dX9_share_39 (fun v15 h16 => ?_)
      refine bj_istore (lv' := [(5, .int v15), (4, .int v11), (3, .ref a5), (0, .ref this), (1, .int p1), (2, .int p2)]) dX9_share_42 (by decide) rfl ?_
      refine bj_aload_nS dX9_share_44 rfl 2 rfl ?_
      refine bj_iload_n dX9_share_45 rfl 5 rfl ?_
      refine bj_putI (ci := 1) (k := 1) (C := RX0) (T := TX0) (N := 4) rfl hi_X9_share_X0 (by decide) rfl fl_X9_share_90 (Or.inl rfl) tyX0 tyX0_ok nmX0 rfl (Or.inl rfl) dX9_share_46 (fun σ17 h18 => ?_)
      refine bj_iload dX9_share_49 0 rfl ?_
      exact bj_iret dX9_share_51
    · refine bj_aload_nS dX9_share_31 rfl 2 rfl ?_
      refine bj_iload dX9_share_32 0 rfl ?_
      refine bj_op (fun _ h19 => ?_)
      refine bj_callI (br_V (As := [.int v11]) (rest := []) (q := (RX9, TX9, 12)) (c_X9_refuse X this v11 σ12) rfl g_X9_share_X9_refuse_82 rfl (bh_ck_spec h19) ⟨rfl, hd_X9_refuse⟩ rfl ⟨by decide, by decide⟩ rfl (Nat.le_of_ble_eq_true rfl) dX9_share_34) (fun v20 σ21 h22 => ?_)
      exact bj_iret dX9_share_37
/-! BeetHouse.field(IIIIZ)I -/
set_option maxRecDepth 100000 in
theorem g_X9_field_X9_farmerAt_78 : GoodIn wsX9_field (wsV yX9_field.cls 78 RX9 yX9_farmerAt wsX9_farmerAt) := goodIn_r _ [5, 6, 7, 8, 9, 10, 95, 96, 97, 98, 99, 100, 101, 102, 103, 104, 105, 106] rfl (by decide +kernel)
set_option maxRecDepth 100000 in
theorem g_X9_field_X9_refuse_82 : GoodIn wsX9_field (wsV yX9_field.cls 82 RX9 yX9_refuse wsX9_refuse) := goodIn_r _ [11, 12, 13, 8, 14, 15, 95, 96, 97, 98, 99, 100, 101, 102, 103, 104, 105, 106] rfl (by decide +kernel)
theorem hi_X9_field_X9 : ∀ w ∈ u_ws RX9 TX9 12, w ∈ wsX9_field := fun _ h => (List.mem_cons_of_mem _ (List.mem_append_left _ (List.mem_append_left _ (List.mem_append_right _ h))))
set_option maxRecDepth 100000 in
theorem fl_X9_field_18 : bh_fl wsX9_field yX9_field.cls 18 "BeetHouse" "plots" "Ljava/util/ArrayList;" := Or.inl (List.mem_of_getElem? (i := 1) rfl)
set_option maxRecDepth 100000 in
theorem g_X9_field_Jx4a65c_size_8abf5_93 : GoodIn wsX9_field (wsV yX9_field.cls 93 RJx4a65c yJx4a65c_size_8abf5 wsJx4a65c_size_8abf5) := goodIn_r _ [16, 17, 18, 19, 20, 21, 121, 122, 123] rfl (by decide +kernel)
theorem hi_X9_field_X6 : ∀ w ∈ u_ws RX6 TX6 14, w ∈ wsX9_field := fun _ h => (List.mem_cons_of_mem _ (List.mem_append_left _ (List.mem_append_right _ h)))
set_option maxRecDepth 100000 in
theorem g_X9_field_X6_init : GoodIn wsX9_field wsX6_init := goodIn_r _ [23, 24, 25, 26, 27, 28, 29, 30, 31, 32, 33, 34, 35, 36, 37, 38, 39, 40, 107, 108, 109, 110, 111, 112, 113, 114, 115, 116, 117, 118, 119, 120] rfl (by decide +kernel)
set_option maxRecDepth 100000 in
theorem g_X9_field_Jx4a65c_add_9ea2d_102 : GoodIn wsX9_field (wsV yX9_field.cls 102 RJx4a65c yJx4a65c_add_9ea2d wsJx4a65c_add_9ea2d) := goodIn_r _ [41, 42, 43, 19, 44, 45, 46, 47, 21, 48, 49, 50, 19, 51, 52, 53, 54, 55, 56, 57, 58, 59, 60, 61, 62, 63, 64, 65, 66, 67, 68, 69, 70, 71, 72, 73, 74, 75, 76, 77, 78, 79, 80, 81, 82, 83, 84, 85, 86, 87, 88, 89, 90, 91, 92, 93, 94, 121, 122, 123] rfl (by decide +kernel)
def f_X9_field_b35 (this : Nat) (σ : bh_S) : Option (Int32 × bh_S) :=
  (bh_ck σ this 10).bind fun _ =>
  bh_bnd (f_X9_refuse this (-4) σ) fun v2 σ3 =>
  some (v2, σ3)
set_option maxHeartbeats 4000000 in
set_option maxRecDepth 100000 in
theorem j_X9_field_b35 (X : bh_X) (this : Nat) (σ : bh_S) : bh_J eI yX9_field cX9_field wsX9_field (some .int) 8 8 208 X σ 35 [(0, .ref this)] [] (f_X9_field_b35 this σ) := by
  unfold f_X9_field_b35
  refine bj_aload_nS dX9_field_35 rfl 0 rfl ?_
  refine bj_bipush (v := (-4)) dX9_field_36 (by decide) ?_
  refine bj_op (fun _ h1 => ?_)
  refine bj_callI (br_V (As := [.int (-4)]) (rest := []) (q := (RX9, TX9, 12)) (c_X9_refuse X this (-4) σ) rfl g_X9_field_X9_refuse_82 rfl (bh_ck_spec h1) ⟨rfl, hd_X9_refuse⟩ rfl ⟨by decide, by decide⟩ rfl (Nat.le_of_ble_eq_true rfl) dX9_field_38) (fun v2 σ3 h4 => ?_)
  exact bj_iret dX9_field_41
def f_X9_field_b75 (this : Nat) (σ : bh_S) : Option (Int32 × bh_S) :=
  (bh_ck σ this 10).bind fun _ =>
  bh_bnd (f_X9_refuse this (-6) σ) fun v2 σ3 =>
  some (v2, σ3)
set_option maxHeartbeats 4000000 in
set_option maxRecDepth 100000 in
theorem j_X9_field_b75 (X : bh_X) (this : Nat) (σ : bh_S) : bh_J eI yX9_field cX9_field wsX9_field (some .int) 8 8 208 X σ 75 [(0, .ref this)] [] (f_X9_field_b75 this σ) := by
  unfold f_X9_field_b75
  refine bj_aload_nS dX9_field_75 rfl 0 rfl ?_
  refine bj_bipush (v := (-6)) dX9_field_76 (by decide) ?_
  refine bj_op (fun _ h1 => ?_)
  refine bj_callI (br_V (As := [.int (-6)]) (rest := []) (q := (RX9, TX9, 12)) (c_X9_refuse X this (-6) σ) rfl g_X9_field_X9_refuse_82 rfl (bh_ck_spec h1) ⟨rfl, hd_X9_refuse⟩ rfl ⟨by decide, by decide⟩ rfl (Nat.le_of_ble_eq_true rfl) dX9_field_78) (fun v2 σ3 h4 => ?_)
  exact bj_iret dX9_field_81
def f_X9_field (this : Nat) (p1 : Int32) (p2 : Int32) (p3 : Int32) (p4 : Int32) (p5 : Int32) (σ : bh_S) : Option (Int32 × bh_S) :=
  (bh_ck σ this 10).bind fun _ =>
  bh_bnd (f_X9_farmerAt this p1 σ) fun v2 σ3 =>
  bh_cs v2 (
    (bh_ck σ3 this 10).bind fun _ =>
    bh_bnd (f_X9_refuse this (-1) σ3) fun v8 σ9 =>
    some (v8, σ9)
  ) (fun a5 =>
    if p2 < 1 then
      f_X9_field_b35 this σ3
    else
      if p3 < 50 then
        f_X9_field_b35 this σ3
      else
        if 1 ≤ p4 then
          if 5000 < p2 then
            f_X9_field_b75 this σ3
          else
            if 250 < p3 then
              f_X9_field_b75 this σ3
            else
              if 12 < p4 then
                f_X9_field_b75 this σ3
              else
                (bh_rdR σ3 10 this 1).bind fun v17 =>
                (v17).bind fun a19 =>
                (bh_ck σ3 a19 0).bind fun _ =>
                bh_bnd (f_Jx4a65c_size_8abf5 a19 σ3) fun v22 σ23 =>
                if v22 < 16 then
                  (bh_rdR σ23 10 this 1).bind fun v26 =>
                  (v26).bind fun a28 =>
                  (bh_ck σ23 a28 0).bind fun _ =>
                  bh_bnd (f_Jx4a65c_size_8abf5 a28 σ23) fun v31 σ32 =>
                  (bh_rdR σ32 10 this 1).bind fun v34 =>
                  bh_bnd (bh_newO σ32 7 14) fun a36 σ37 =>
                  bh_bnd (f_X6_init a36 v31 a5 p2 p3 p4 p5 σ37) fun v39 σ40 =>
                  (v34).bind fun a42 =>
                  (bh_ck σ40 a42 0).bind fun _ =>
                  bh_bnd (f_Jx4a65c_add_9ea2d a42 a36 σ40) fun v45 σ46 =>
                  some (v31, σ46)
                else
                  f_X9_field_b75 this σ23
        else
          f_X9_field_b35 this σ3
  )
set_option maxHeartbeats 4000000 in
set_option maxRecDepth 100000 in
theorem c_X9_field (X : bh_X) (this : Nat) (p1 : Int32) (p2 : Int32) (p3 : Int32) (p4 : Int32) (p5 : Int32) (σ : bh_S) : bh_MX eI X yX9_field wsX9_field 8 208 [.ref this, .int p1, .int p2, .int p3, .int p4, .int p5] σ (f_X9_field this p1 p2 p3 p4 p5 σ) := by
  refine bh_enter (cc := cX9_field) (NL := 8) (ret := (some .int)) (by decide) rfl (Nat.le_of_ble_eq_true rfl) (fun X => ?_)
  show bh_J eI yX9_field cX9_field wsX9_field (some .int) 8 8 208 X σ 0 [(0, .ref this), (1, .int p1), (2, .int p2), (3, .int p3), (4, .int p4), (5, .int p5)] [] _
  unfold f_X9_field
  refine bj_aload_nS dX9_field_0 rfl 0 rfl ?_
  refine bj_iload_n dX9_field_1 rfl 1 rfl ?_
  refine bj_op (fun _ h1 => ?_)
  refine bj_callR (br_V (As := [.int p1]) (rest := []) (q := (RX9, TX9, 12)) (c_X9_farmerAt X this p1 σ) rfl g_X9_field_X9_farmerAt_78 rfl (bh_ck_spec h1) ⟨rfl, hd_X9_farmerAt⟩ rfl ⟨by decide, by decide⟩ rfl (Nat.le_of_ble_eq_true rfl) dX9_field_2) (fun v2 σ3 h4 => ?_)
  refine bj_astore (lv' := [(6, va_rf v2), (0, .ref this), (1, .int p1), (2, .int p2), (3, .int p3), (4, .int p4), (5, .int p5)]) (o := v2) dX9_field_5 (by decide) rfl ?_
  refine bj_aload dX9_field_7 0 rfl ?_
  refine bj_ifnonnull (o := v2) (tgt := 18) dX9_field_9 (by decide) (fun h6 => ?_) (fun a5 h6 => ?_)
  · subst h6
    refine bj_aload_nS dX9_field_12 rfl 1 rfl ?_
    refine bj_iconst (v := (-1)) dX9_field_13 (by decide) ?_
    refine bj_op (fun _ h7 => ?_)
    refine bj_callI (br_V (As := [.int (-1)]) (rest := []) (q := (RX9, TX9, 12)) (c_X9_refuse X this (-1) σ3) rfl g_X9_field_X9_refuse_82 rfl (bh_ck_spec h7) ⟨rfl, hd_X9_refuse⟩ rfl ⟨by decide, by decide⟩ rfl (Nat.le_of_ble_eq_true rfl) dX9_field_14) (fun v8 σ9 h10 => ?_)
    exact bj_iret dX9_field_17
  · subst h6
    refine bj_iload_n dX9_field_18 rfl 3 rfl ?_
    refine bj_iconst (v := 1) dX9_field_19 (by decide) ?_
    refine bj_icmp_lt (tgt := 35) dX9_field_20 (by decide) (fun h11 => ?_) (fun h11 => ?_)
    · refine bj_sub (lv' := [(0, .ref this)]) [1] rfl ?_
      exact j_X9_field_b35 X this σ3
    · refine bj_iload_n dX9_field_23 rfl 4 rfl ?_
      refine bj_bipush (v := 50) dX9_field_24 (by decide) ?_
      refine bj_icmp_lt (tgt := 35) dX9_field_26 (by decide) (fun h12 => ?_) (fun h12 => ?_)
      · refine bj_sub (lv' := [(0, .ref this)]) [1] rfl ?_
        exact j_X9_field_b35 X this σ3
      · refine bj_iload dX9_field_29 5 rfl ?_
        refine bj_iconst (v := 1) dX9_field_31 (by decide) ?_
        refine bj_icmp_ge (tgt := 42) dX9_field_32 (by decide) (fun h13 => ?_) (fun h13 => ?_)
        · refine bj_iload_n dX9_field_42 rfl 3 rfl ?_
          refine bj_sipush (v := 5000) dX9_field_43 (by decide) ?_
          refine bj_icmp_gt (tgt := 75) dX9_field_46 (by decide) (fun h14 => ?_) (fun h14 => ?_)
          · refine bj_sub (lv' := [(0, .ref this)]) [1] rfl ?_
            exact j_X9_field_b75 X this σ3
          · refine bj_iload_n dX9_field_49 rfl 4 rfl ?_
            refine bj_sipush (v := 250) dX9_field_50 (by decide) ?_
            refine bj_icmp_gt (tgt := 75) dX9_field_53 (by decide) (fun h15 => ?_) (fun h15 => ?_)
            · refine bj_sub (lv' := [(0, .ref this)]) [1] rfl ?_
              exact j_X9_field_b75 X this σ3
            · refine bj_iload dX9_field_56 5 rfl ?_
              refine bj_bipush (v := 12) dX9_field_58 (by decide) ?_
              refine bj_icmp_gt (tgt := 75) dX9_field_60 (by decide) (fun h16 => ?_) (fun h16 => ?_)
              · refine bj_sub (lv' := [(0, .ref this)]) [1] rfl ?_
                exact j_X9_field_b75 X this σ3
              · refine bj_aload_nS dX9_field_63 rfl 1 rfl ?_
                refine bj_getR (ci := 10) (k := 1) (C := RX9) (T := TX9) (N := 12) rfl hi_X9_field_X9 (by decide) rfl fl_X9_field_18 (Or.inl rfl) dX9_field_64 (fun v17 h18 => ?_)
                refine bj_nn (fun a19 h20 => ?_)
                subst h20
                refine bj_op (fun _ h21 => ?_)
                refine bj_callI (br_V (As := []) (rest := []) (q := (RJx4a65c, TJx4a65c, 3)) (c_Jx4a65c_size_8abf5 X a19 σ3) rfl g_X9_field_Jx4a65c_size_8abf5_93 rfl (bh_ck_spec h21) ⟨rfl, hd_Jx4a65c_size_8abf5⟩ rfl ⟨by decide, by decide⟩ rfl (Nat.le_of_ble_eq_true rfl) dX9_field_67) (fun v22 σ23 h24 => ?_)
                refine bj_bipush (v := 16) dX9_field_70 (by decide) ?_
                refine bj_icmp_lt (tgt := 82) dX9_field_72 (by decide) (fun h25 => ?_) (fun h25 => ?_)
                · refine bj_aload_nS dX9_field_82 rfl 1 rfl ?_
                  refine bj_getR (ci := 10) (k := 1) (C := RX9) (T := TX9) (N := 12) rfl hi_X9_field_X9 (by decide) rfl fl_X9_field_18 (Or.inl rfl) dX9_field_83 (fun v26 h27 => ?_)
                  refine bj_nn (fun a28 h29 => ?_)
                  subst h29
                  refine bj_op (fun _ h30 => ?_)
                  refine bj_callI (br_V (As := []) (rest := []) (q := (RJx4a65c, TJx4a65c, 3)) (c_Jx4a65c_size_8abf5 X a28 σ23) rfl g_X9_field_Jx4a65c_size_8abf5_93 rfl (bh_ck_spec h30) ⟨rfl, hd_Jx4a65c_size_8abf5⟩ rfl ⟨by decide, by decide⟩ rfl (Nat.le_of_ble_eq_true rfl) dX9_field_86) (fun v31 σ32 h33 => ?_)
                  refine bj_istore (lv' := [(7, .int v31), (6, .ref a5), (0, .ref this), (1, .int p1), (2, .int p2), (3, .int p3), (4, .int p4), (5, .int p5)]) dX9_field_89 (by decide) rfl ?_
                  refine bj_aload_nS dX9_field_91 rfl 2 rfl ?_
                  refine bj_getR (ci := 10) (k := 1) (C := RX9) (T := TX9) (N := 12) rfl hi_X9_field_X9 (by decide) rfl fl_X9_field_18 (Or.inl rfl) dX9_field_92 (fun v34 h35 => ?_)
                  refine bj_new (ci := 7) (C := RX6) (T := TX6) (N := 14) rfl hi_X9_field_X6 tyX6 tyX6_ok df_X6 (List.mem_of_getElem? (i := 2) rfl) (List.mem_of_getElem? (i := 3) rfl) (List.mem_of_getElem? (i := 4) rfl) dX9_field_95 (fun a36 σ37 h38 => ?_)
                  refine bj_dup dX9_field_98 rfl ?_
                  refine bj_iload dX9_field_99 0 rfl ?_
                  refine bj_aloadS dX9_field_101 1 rfl ?_
                  refine bj_iload_n dX9_field_103 rfl 4 rfl ?_
                  refine bj_iload_n dX9_field_104 rfl 5 rfl ?_
                  refine bj_iload dX9_field_105 6 rfl ?_
                  refine bj_iload dX9_field_107 7 rfl ?_
                  refine bj_callU (br_IN (As := [.int v31, .ref a5, .int p2, .int p3, .int p4, .int p5]) (rest := [.ref a36, va_rf v34]) (host := "BeetHouse") (c_X6_init X a36 v31 a5 p2 p3 p4 p5 σ37) rfl g_X9_field_X6_init (List.mem_of_getElem? (i := 59) rfl) (List.mem_of_getElem? (i := 4) rfl) (List.mem_of_getElem? (i := 22) rfl) rfl hd_X6_init rfl ⟨by decide, by decide⟩ rfl (by cases v34 <;> exact Nat.le_of_ble_eq_true rfl) dX9_field_109) (fun v39 σ40 h41 => ?_)
                  refine bj_nn (fun a42 h43 => ?_)
                  subst h43
                  refine bj_op (fun _ h44 => ?_)
                  refine bj_callI (br_V (As := [.ref a36]) (rest := []) (q := (RJx4a65c, TJx4a65c, 3)) (c_Jx4a65c_add_9ea2d X a42 a36 σ40) rfl g_X9_field_Jx4a65c_add_9ea2d_102 rfl (bh_ck_spec h44) ⟨rfl, hd_Jx4a65c_add_9ea2d⟩ rfl ⟨by decide, by decide⟩ rfl (Nat.le_of_ble_eq_true rfl) dX9_field_112) (fun v45 σ46 h47 => ?_)
                  refine bj_pop dX9_field_115 rfl ?_
                  refine bj_iload dX9_field_116 0 rfl ?_
                  exact bj_iret dX9_field_118
                · refine bj_sub (lv' := [(0, .ref this)]) [1] rfl ?_
                  exact j_X9_field_b75 X this σ23
        · refine bj_sub (lv' := [(0, .ref this)]) [1] rfl ?_
          exact j_X9_field_b35 X this σ3
/-! BeetHouse.plotAt(I)LBeetHouse$Plot; -/
theorem hi_X9_plotAt_X9 : ∀ w ∈ u_ws RX9 TX9 12, w ∈ wsX9_plotAt := fun _ h => (List.mem_cons_of_mem _ (List.mem_append_left _ (List.mem_append_right _ h)))
set_option maxRecDepth 100000 in
theorem fl_X9_plotAt_18 : bh_fl wsX9_plotAt yX9_plotAt.cls 18 "BeetHouse" "plots" "Ljava/util/ArrayList;" := Or.inl (List.mem_of_getElem? (i := 1) rfl)
set_option maxRecDepth 100000 in
theorem g_X9_plotAt_Jx4a65c_size_8abf5_93 : GoodIn wsX9_plotAt (wsV yX9_plotAt.cls 93 RJx4a65c yJx4a65c_size_8abf5 wsJx4a65c_size_8abf5) := goodIn_r _ [3, 4, 5, 6, 7, 8, 38, 39, 40] rfl (by decide +kernel)
set_option maxRecDepth 100000 in
theorem g_X9_plotAt_Jx4a65c_get_915e3_172 : GoodIn wsX9_plotAt (wsV yX9_plotAt.cls 172 RJx4a65c yJx4a65c_get_915e3 wsJx4a65c_get_915e3) := goodIn_r _ [9, 10, 11, 6, 12, 8, 13, 14, 15, 16, 17, 18, 19, 20, 21, 22, 23, 6, 24, 25, 38, 39, 40] rfl (by decide +kernel)
def f_X9_plotAt (this : Nat) (p1 : Int32) (σ : bh_S) : Option (Option Nat × bh_S) :=
  if p1 < 0 then
    some (none, σ)
  else
    (bh_rdR σ 10 this 1).bind fun v2 =>
    (v2).bind fun a4 =>
    (bh_ck σ a4 0).bind fun _ =>
    bh_bnd (f_Jx4a65c_size_8abf5 a4 σ) fun v7 σ8 =>
    if v7 ≤ p1 then
      some (none, σ8)
    else
      (bh_rdR σ8 10 this 1).bind fun v11 =>
      (v11).bind fun a13 =>
      (bh_ck σ8 a13 0).bind fun _ =>
      bh_bnd (f_Jx4a65c_get_915e3 a13 p1 σ8) fun v16 σ17 =>
      (bh_cst σ17 7 v16).bind fun _ =>
      some (v16, σ17)
set_option maxHeartbeats 4000000 in
set_option maxRecDepth 100000 in
theorem c_X9_plotAt (X : bh_X) (this : Nat) (p1 : Int32) (σ : bh_S) : bh_MX eR X yX9_plotAt wsX9_plotAt 3 64 [.ref this, .int p1] σ (f_X9_plotAt this p1 σ) := by
  refine bh_enter (cc := cX9_plotAt) (NL := 2) (ret := (some (.object "BeetHouse$Plot"))) (by decide) rfl (Nat.le_of_ble_eq_true rfl) (fun X => ?_)
  show bh_J eR yX9_plotAt cX9_plotAt wsX9_plotAt (some (.object "BeetHouse$Plot")) 2 3 64 X σ 0 [(0, .ref this), (1, .int p1)] [] _
  unfold f_X9_plotAt
  refine bj_iload_n dX9_plotAt_0 rfl 1 rfl ?_
  refine bj_if_lt (tgt := 29) dX9_plotAt_1 (by decide) (fun h1 => ?_) (fun h1 => ?_)
  · refine bj_null dX9_plotAt_29 ?_
    exact bj_aret (o := none) dX9_plotAt_30 (Or.inl ⟨_, rfl⟩)
  · refine bj_iload_n dX9_plotAt_4 rfl 1 rfl ?_
    refine bj_aload_nS dX9_plotAt_5 rfl 0 rfl ?_
    refine bj_getR (ci := 10) (k := 1) (C := RX9) (T := TX9) (N := 12) rfl hi_X9_plotAt_X9 (by decide) rfl fl_X9_plotAt_18 (Or.inl rfl) dX9_plotAt_6 (fun v2 h3 => ?_)
    refine bj_nn (fun a4 h5 => ?_)
    subst h5
    refine bj_op (fun _ h6 => ?_)
    refine bj_callI (br_V (As := []) (rest := [.int p1]) (q := (RJx4a65c, TJx4a65c, 3)) (c_Jx4a65c_size_8abf5 X a4 σ) rfl g_X9_plotAt_Jx4a65c_size_8abf5_93 rfl (bh_ck_spec h6) ⟨rfl, hd_Jx4a65c_size_8abf5⟩ rfl ⟨by decide, by decide⟩ rfl (Nat.le_of_ble_eq_true rfl) dX9_plotAt_9) (fun v7 σ8 h9 => ?_)
    refine bj_icmp_ge (tgt := 29) dX9_plotAt_12 (by decide) (fun h10 => ?_) (fun h10 => ?_)
    · refine bj_null dX9_plotAt_29 ?_
      exact bj_aret (o := none) dX9_plotAt_30 (Or.inl ⟨_, rfl⟩)
    · refine bj_aload_nS dX9_plotAt_15 rfl 0 rfl ?_
      refine bj_getR (ci := 10) (k := 1) (C := RX9) (T := TX9) (N := 12) rfl hi_X9_plotAt_X9 (by decide) rfl fl_X9_plotAt_18 (Or.inl rfl) dX9_plotAt_16 (fun v11 h12 => ?_)
      refine bj_iload_n dX9_plotAt_19 rfl 1 rfl ?_
      refine bj_nn (fun a13 h14 => ?_)
      subst h14
      refine bj_op (fun _ h15 => ?_)
      refine bj_callR (br_V (As := [.int p1]) (rest := []) (q := (RJx4a65c, TJx4a65c, 3)) (c_Jx4a65c_get_915e3 X a13 p1 σ8) rfl g_X9_plotAt_Jx4a65c_get_915e3_172 rfl (bh_ck_spec h15) ⟨rfl, hd_Jx4a65c_get_915e3⟩ rfl ⟨by decide, by decide⟩ rfl (Nat.le_of_ble_eq_true rfl) dX9_plotAt_20) (fun v16 σ17 h18 => ?_)
      refine bj_cast (ci := 7) (C := RX6) (T := TX6) (N := 14) (o := v16) rfl (List.mem_of_getElem? (i := 2) rfl) dX9_plotAt_23 ?_
      refine bj_goto (tgt := 30) dX9_plotAt_26 (by decide) ?_
      exact bj_aret (o := v16) dX9_plotAt_30 (Or.inl ⟨_, rfl⟩)
/-! BeetHouse.gang(III)I -/
set_option maxRecDepth 100000 in
theorem g_X9_gang_X9_plotAt_106 : GoodIn wsX9_gang (wsV yX9_gang.cls 106 RX9 yX9_plotAt wsX9_plotAt) := goodIn_r _ [2, 3, 4, 5, 6, 7, 8, 9, 10, 11, 12, 13, 14, 15, 16, 17, 18, 19, 20, 21, 22, 23, 24, 25, 26, 27, 28, 29, 30, 31, 40, 41, 42, 43, 44, 45, 46, 47, 48, 49, 50, 51, 54, 55, 56] rfl (by decide +kernel)
set_option maxRecDepth 100000 in
theorem g_X9_gang_X9_outside_86 : GoodIn wsX9_gang (va_wsS yX9_gang.cls 86 yX9_outside wsX9_outside) := goodIn_r _ [37, 38, 5, 39] rfl (by decide +kernel)
theorem hi_X9_gang_X9 : ∀ w ∈ u_ws RX9 TX9 12, w ∈ wsX9_gang := fun _ h => (List.mem_cons_of_mem _ (List.mem_append_left _ (List.mem_append_left _ (List.mem_append_right _ h))))
set_option maxRecDepth 100000 in
theorem fl_X9_gang_24 : bh_fl wsX9_gang yX9_gang.cls 24 "BeetHouse" "gangs" "[LBeetHouse$Gang;" := Or.inl (List.mem_of_getElem? (i := 1) rfl)
theorem hi_X9_gang_X1 : ∀ w ∈ u_ws RX1 TX1 2, w ∈ wsX9_gang := fun _ h => (List.mem_cons_of_mem _ (List.mem_append_left _ (List.mem_append_right _ h)))
set_option maxRecDepth 100000 in
theorem fl_X9_gang_110 : bh_fl wsX9_gang yX9_gang.cls 110 "BeetHouse$Gang" "rate" "I" := Or.inr ⟨"BeetHouse", List.mem_of_getElem? (i := 17) rfl⟩
set_option maxRecDepth 100000 in
theorem fl_X9_gang_113 : bh_fl wsX9_gang yX9_gang.cls 113 "BeetHouse$Gang" "plot" "LBeetHouse$Plot;" := Or.inr ⟨"BeetHouse", List.mem_of_getElem? (i := 18) rfl⟩
set_option maxRecDepth 100000 in
theorem g_X9_gang_X9_refuse_82 : GoodIn wsX9_gang (wsV yX9_gang.cls 82 RX9 yX9_refuse wsX9_refuse) := goodIn_r _ [32, 33, 34, 5, 35, 36, 40, 41, 42, 43, 44, 45, 46, 47, 48, 49, 50, 51] rfl (by decide +kernel)
def f_X9_gang_b26 (this : Nat) (σ : bh_S) : Option (Int32 × bh_S) :=
  (bh_ck σ this 10).bind fun _ =>
  bh_bnd (f_X9_refuse this (-1) σ) fun v2 σ3 =>
  some (v2, σ3)
set_option maxHeartbeats 4000000 in
set_option maxRecDepth 100000 in
theorem j_X9_gang_b26 (X : bh_X) (this : Nat) (σ : bh_S) : bh_J eI yX9_gang cX9_gang wsX9_gang (some .int) 6 4 85 X σ 26 [(0, .ref this)] [] (f_X9_gang_b26 this σ) := by
  unfold f_X9_gang_b26
  refine bj_aload_nS dX9_gang_26 rfl 0 rfl ?_
  refine bj_iconst (v := (-1)) dX9_gang_27 (by decide) ?_
  refine bj_op (fun _ h1 => ?_)
  refine bj_callI (br_V (As := [.int (-1)]) (rest := []) (q := (RX9, TX9, 12)) (c_X9_refuse X this (-1) σ) rfl g_X9_gang_X9_refuse_82 rfl (bh_ck_spec h1) ⟨rfl, hd_X9_refuse⟩ rfl ⟨by decide, by decide⟩ rfl (Nat.le_of_ble_eq_true rfl) dX9_gang_28) (fun v2 σ3 h4 => ?_)
  exact bj_iret dX9_gang_31
def f_X9_gang_b32 (this : Nat) (x1 : Int32) (x2 : Int32) (x4 : Option Nat) (σ : bh_S) : Option (Int32 × bh_S) :=
  bh_bnd (f_X9_outside x2 0 100 σ) fun v1 σ2 =>
  if v1 = 0 then
    (bh_rdR σ2 10 this 2).bind fun v5 =>
    (v5).bind fun a7 =>
    (bh_ldR σ2 15 a7 x1).bind fun v9 =>
    (v9).bind fun a11 =>
    (bh_wrI σ2 2 a11 0 x2).bind fun σ13 =>
    (bh_rdR σ13 10 this 2).bind fun v15 =>
    (v15).bind fun a17 =>
    (bh_ldR σ13 15 a17 x1).bind fun v19 =>
    (v19).bind fun a21 =>
    (bh_wrR σ13 2 a21 1 x4).bind fun σ23 =>
    some (1, σ23)
  else
    (bh_ck σ2 this 10).bind fun _ =>
    bh_bnd (f_X9_refuse this v1 σ2) fun v26 σ27 =>
    some (v26, σ27)
set_option maxHeartbeats 4000000 in
set_option maxRecDepth 100000 in
theorem j_X9_gang_b32 (X : bh_X) (this : Nat) (x1 : Int32) (x2 : Int32) (x4 : Option Nat) (σ : bh_S) : bh_J eI yX9_gang cX9_gang wsX9_gang (some .int) 6 4 85 X σ 32 [(0, .ref this), (1, .int x1), (2, .int x2), (4, va_rf x4)] [] (f_X9_gang_b32 this x1 x2 x4 σ) := by
  unfold f_X9_gang_b32
  refine bj_iload_n dX9_gang_32 rfl 2 rfl ?_
  refine bj_iconst (v := 0) dX9_gang_33 (by decide) ?_
  refine bj_bipush (v := 100) dX9_gang_34 (by decide) ?_
  refine bj_callI (br_S (As := [.int x2, .int 0, .int 100]) (rest := []) (c_X9_outside X x2 0 100 σ) rfl g_X9_gang_X9_outside_86 hd_X9_outside rfl ⟨by decide, by decide⟩ rfl (Nat.le_of_ble_eq_true rfl) dX9_gang_36) (fun v1 σ2 h3 => ?_)
  refine bj_istoreU (lv' := [(5, .int v1), (0, .ref this), (1, .int x1), (2, .int x2), (4, va_rf x4)]) dX9_gang_39 (by decide) (bh_c1r (bh_c1i (bh_c1i (bh_c1o bh_c1n)))) rfl ?_
  refine bj_iload dX9_gang_41 0 rfl ?_
  refine bj_if_eq (tgt := 53) dX9_gang_43 (by decide) (fun h4 => ?_) (fun h4 => ?_)
  · refine bj_aload_nS dX9_gang_53 rfl 1 rfl ?_
    refine bj_getR (ci := 10) (k := 2) (C := RX9) (T := TX9) (N := 12) rfl hi_X9_gang_X9 (by decide) rfl fl_X9_gang_24 (Or.inl rfl) dX9_gang_54 (fun v5 h6 => ?_)
    refine bj_iload_n dX9_gang_57 rfl 2 rfl ?_
    refine bj_nn (fun a7 h8 => ?_)
    subst h8
    refine bj_aald (ci := 15) (by decide) dX9_gang_58 (fun v9 h10 => ?_)
    refine bj_iload_n dX9_gang_59 rfl 3 rfl ?_
    refine bj_nn (fun a11 h12 => ?_)
    subst h12
    refine bj_putI (ci := 2) (k := 0) (C := RX1) (T := TX1) (N := 2) rfl hi_X9_gang_X1 (by decide) rfl fl_X9_gang_110 (Or.inl rfl) tyX1 tyX1_ok nmX1 rfl (Or.inl rfl) dX9_gang_60 (fun σ13 h14 => ?_)
    refine bj_aload_nS dX9_gang_63 rfl 1 rfl ?_
    refine bj_getR (ci := 10) (k := 2) (C := RX9) (T := TX9) (N := 12) rfl hi_X9_gang_X9 (by decide) rfl fl_X9_gang_24 (Or.inl rfl) dX9_gang_64 (fun v15 h16 => ?_)
    refine bj_iload_n dX9_gang_67 rfl 2 rfl ?_
    refine bj_nn (fun a17 h18 => ?_)
    subst h18
    refine bj_aald (ci := 15) (by decide) dX9_gang_68 (fun v19 h20 => ?_)
    refine bj_aload dX9_gang_69 4 rfl ?_
    refine bj_nn (fun a21 h22 => ?_)
    subst h22
    refine bj_putR (ci := 2) (k := 1) (C := RX1) (T := TX1) (N := 2) (v := x4) rfl hi_X9_gang_X1 (by decide) rfl fl_X9_gang_113 (Or.inl rfl) tyX1 tyX1_ok nmX1 (Or.inl ⟨_, rfl⟩) (Or.inl rfl) dX9_gang_71 (fun σ23 h24 => ?_)
    refine bj_iconst (v := 1) dX9_gang_74 (by decide) ?_
    exact bj_iret dX9_gang_75
  · refine bj_aload_nS dX9_gang_46 rfl 1 rfl ?_
    refine bj_iload dX9_gang_47 0 rfl ?_
    refine bj_op (fun _ h25 => ?_)
    refine bj_callI (br_V (As := [.int v1]) (rest := []) (q := (RX9, TX9, 12)) (c_X9_refuse X this v1 σ2) rfl g_X9_gang_X9_refuse_82 rfl (bh_ck_spec h25) ⟨rfl, hd_X9_refuse⟩ rfl ⟨by decide, by decide⟩ rfl (Nat.le_of_ble_eq_true rfl) dX9_gang_49) (fun v26 σ27 h28 => ?_)
    exact bj_iret dX9_gang_52
def f_X9_gang (this : Nat) (p1 : Int32) (p2 : Int32) (p3 : Int32) (σ : bh_S) : Option (Int32 × bh_S) :=
  (bh_ck σ this 10).bind fun _ =>
  bh_bnd (f_X9_plotAt this p3 σ) fun v2 σ3 =>
  if p1 < 0 then
    f_X9_gang_b26 this σ3
  else
    if 4 ≤ p1 then
      f_X9_gang_b26 this σ3
    else
      bh_cs v2 (
        if p3 = (-1) then
          f_X9_gang_b32 this p1 p2 none σ3
        else
          f_X9_gang_b26 this σ3
      ) (fun a7 =>
        f_X9_gang_b32 this p1 p2 (some a7) σ3
      )
set_option maxHeartbeats 4000000 in
set_option maxRecDepth 100000 in
theorem c_X9_gang (X : bh_X) (this : Nat) (p1 : Int32) (p2 : Int32) (p3 : Int32) (σ : bh_S) : bh_MX eI X yX9_gang wsX9_gang 4 85 [.ref this, .int p1, .int p2, .int p3] σ (f_X9_gang this p1 p2 p3 σ) := by
  refine bh_enter (cc := cX9_gang) (NL := 6) (ret := (some .int)) (by decide) rfl (Nat.le_of_ble_eq_true rfl) (fun X => ?_)
  show bh_J eI yX9_gang cX9_gang wsX9_gang (some .int) 6 4 85 X σ 0 [(0, .ref this), (1, .int p1), (2, .int p2), (3, .int p3)] [] _
  unfold f_X9_gang
  refine bj_aload_nS dX9_gang_0 rfl 0 rfl ?_
  refine bj_iload_n dX9_gang_1 rfl 3 rfl ?_
  refine bj_op (fun _ h1 => ?_)
  refine bj_callR (br_V (As := [.int p3]) (rest := []) (q := (RX9, TX9, 12)) (c_X9_plotAt X this p3 σ) rfl g_X9_gang_X9_plotAt_106 rfl (bh_ck_spec h1) ⟨rfl, hd_X9_plotAt⟩ rfl ⟨by decide, by decide⟩ rfl (Nat.le_of_ble_eq_true rfl) dX9_gang_2) (fun v2 σ3 h4 => ?_)
  refine bj_astore (lv' := [(4, va_rf v2), (0, .ref this), (1, .int p1), (2, .int p2), (3, .int p3)]) (o := v2) dX9_gang_5 (by decide) rfl ?_
  refine bj_iload_n dX9_gang_7 rfl 2 rfl ?_
  refine bj_if_lt (tgt := 26) dX9_gang_8 (by decide) (fun h5 => ?_) (fun h5 => ?_)
  · refine bj_sub (lv' := [(0, .ref this)]) [1] rfl ?_
    exact j_X9_gang_b26 X this σ3
  · refine bj_iload_n dX9_gang_11 rfl 2 rfl ?_
    refine bj_iconst (v := 4) dX9_gang_12 (by decide) ?_
    refine bj_icmp_ge (tgt := 26) dX9_gang_13 (by decide) (fun h6 => ?_) (fun h6 => ?_)
    · refine bj_sub (lv' := [(0, .ref this)]) [1] rfl ?_
      exact j_X9_gang_b26 X this σ3
    · refine bj_aload dX9_gang_16 0 rfl ?_
      refine bj_ifnonnull (o := v2) (tgt := 32) dX9_gang_18 (by decide) (fun h8 => ?_) (fun a7 h8 => ?_)
      · subst h8
        refine bj_iload_n dX9_gang_21 rfl 4 rfl ?_
        refine bj_iconst (v := (-1)) dX9_gang_22 (by decide) ?_
        refine bj_icmp_eq (tgt := 32) dX9_gang_23 (by decide) (fun h9 => ?_) (fun h9 => ?_)
        · refine bj_sub (lv' := [(0, .ref this), (1, .int p1), (2, .int p2), (4, va_rf none)]) [1, 2, 3, 0] rfl ?_
          exact j_X9_gang_b32 X this p1 p2 none σ3
        · refine bj_sub (lv' := [(0, .ref this)]) [1] rfl ?_
          exact j_X9_gang_b26 X this σ3
      · subst h8
        refine bj_sub (lv' := [(0, .ref this), (1, .int p1), (2, .int p2), (4, .ref a7)]) [1, 2, 3, 0] rfl ?_
        exact j_X9_gang_b32 X this p1 p2 (some a7) σ3
/-! BeetHouse.lorry(I)I -/
theorem hi_X9_lorry_X9 : ∀ w ∈ u_ws RX9 TX9 12, w ∈ wsX9_lorry := fun _ h => (List.mem_cons_of_mem _ (List.mem_append_left _ (List.mem_append_left _ (List.mem_append_right _ h))))
set_option maxRecDepth 100000 in
theorem fl_X9_lorry_28 : bh_fl wsX9_lorry yX9_lorry.cls 28 "BeetHouse" "lorries" "Ljava/util/ArrayList;" := Or.inl (List.mem_of_getElem? (i := 1) rfl)
set_option maxRecDepth 100000 in
theorem g_X9_lorry_Jx4a65c_size_8abf5_93 : GoodIn wsX9_lorry (wsV yX9_lorry.cls 93 RJx4a65c yJx4a65c_size_8abf5 wsJx4a65c_size_8abf5) := goodIn_r _ [11, 12, 13, 14, 15, 16, 104, 105, 106] rfl (by decide +kernel)
theorem hi_X9_lorry_X3 : ∀ w ∈ u_ws RX3 TX3 8, w ∈ wsX9_lorry := fun _ h => (List.mem_cons_of_mem _ (List.mem_append_left _ (List.mem_append_right _ h)))
set_option maxRecDepth 100000 in
theorem g_X9_lorry_X3_init : GoodIn wsX9_lorry wsX3_init := goodIn_r _ [18, 19, 20, 21, 22, 23, 24, 25, 26, 27, 28, 29, 96, 97, 98, 99, 100, 101, 102, 103] rfl (by decide +kernel)
set_option maxRecDepth 100000 in
theorem g_X9_lorry_Jx4a65c_add_9ea2d_102 : GoodIn wsX9_lorry (wsV yX9_lorry.cls 102 RJx4a65c yJx4a65c_add_9ea2d wsJx4a65c_add_9ea2d) := goodIn_r _ [30, 31, 32, 14, 33, 34, 35, 36, 16, 37, 38, 39, 14, 40, 41, 42, 43, 44, 45, 46, 47, 48, 49, 50, 51, 52, 53, 54, 55, 56, 57, 58, 59, 60, 61, 62, 63, 64, 65, 66, 67, 68, 69, 70, 71, 72, 73, 74, 75, 76, 77, 78, 79, 80, 81, 82, 83, 104, 105, 106] rfl (by decide +kernel)
set_option maxRecDepth 100000 in
theorem g_X9_lorry_X9_refuse_82 : GoodIn wsX9_lorry (wsV yX9_lorry.cls 82 RX9 yX9_refuse wsX9_refuse) := goodIn_r _ [5, 6, 7, 8, 9, 10, 84, 85, 86, 87, 88, 89, 90, 91, 92, 93, 94, 95] rfl (by decide +kernel)
def f_X9_lorry_b30 (this : Nat) (σ : bh_S) : Option (Int32 × bh_S) :=
  (bh_ck σ this 10).bind fun _ =>
  bh_bnd (f_X9_refuse this (-6) σ) fun v2 σ3 =>
  some (v2, σ3)
set_option maxHeartbeats 4000000 in
set_option maxRecDepth 100000 in
theorem j_X9_lorry_b30 (X : bh_X) (this : Nat) (σ : bh_S) : bh_J eI yX9_lorry cX9_lorry wsX9_lorry (some .int) 2 8 208 X σ 30 [(0, .ref this)] [] (f_X9_lorry_b30 this σ) := by
  unfold f_X9_lorry_b30
  refine bj_aload_nS dX9_lorry_30 rfl 0 rfl ?_
  refine bj_bipush (v := (-6)) dX9_lorry_31 (by decide) ?_
  refine bj_op (fun _ h1 => ?_)
  refine bj_callI (br_V (As := [.int (-6)]) (rest := []) (q := (RX9, TX9, 12)) (c_X9_refuse X this (-6) σ) rfl g_X9_lorry_X9_refuse_82 rfl (bh_ck_spec h1) ⟨rfl, hd_X9_refuse⟩ rfl ⟨by decide, by decide⟩ rfl (Nat.le_of_ble_eq_true rfl) dX9_lorry_33) (fun v2 σ3 h4 => ?_)
  exact bj_iret dX9_lorry_36
def f_X9_lorry (this : Nat) (p1 : Int32) (σ : bh_S) : Option (Int32 × bh_S) :=
  if 1 ≤ p1 then
    if 100 < p1 then
      f_X9_lorry_b30 this σ
    else
      (bh_rdR σ 10 this 3).bind fun v3 =>
      (v3).bind fun a5 =>
      (bh_ck σ a5 0).bind fun _ =>
      bh_bnd (f_Jx4a65c_size_8abf5 a5 σ) fun v8 σ9 =>
      if v8 < 8 then
        (bh_rdR σ9 10 this 3).bind fun v12 =>
        bh_bnd (bh_newO σ9 4 8) fun a14 σ15 =>
        bh_bnd (f_X3_init a14 p1 σ15) fun v17 σ18 =>
        (v12).bind fun a20 =>
        (bh_ck σ18 a20 0).bind fun _ =>
        bh_bnd (f_Jx4a65c_add_9ea2d a20 a14 σ18) fun v23 σ24 =>
        (bh_rdR σ24 10 this 3).bind fun v26 =>
        (v26).bind fun a28 =>
        (bh_ck σ24 a28 0).bind fun _ =>
        bh_bnd (f_Jx4a65c_size_8abf5 a28 σ24) fun v31 σ32 =>
        some (v31 - 1, σ32)
      else
        f_X9_lorry_b30 this σ9
  else
    (bh_ck σ this 10).bind fun _ =>
    bh_bnd (f_X9_refuse this (-4) σ) fun v35 σ36 =>
    some (v35, σ36)
set_option maxHeartbeats 4000000 in
set_option maxRecDepth 100000 in
theorem c_X9_lorry (X : bh_X) (this : Nat) (p1 : Int32) (σ : bh_S) : bh_MX eI X yX9_lorry wsX9_lorry 8 208 [.ref this, .int p1] σ (f_X9_lorry this p1 σ) := by
  refine bh_enter (cc := cX9_lorry) (NL := 2) (ret := (some .int)) (by decide) rfl (Nat.le_of_ble_eq_true rfl) (fun X => ?_)
  show bh_J eI yX9_lorry cX9_lorry wsX9_lorry (some .int) 2 8 208 X σ 0 [(0, .ref this), (1, .int p1)] [] _
  unfold f_X9_lorry
  refine bj_iload_n dX9_lorry_0 rfl 1 rfl ?_
  refine bj_iconst (v := 1) dX9_lorry_1 (by decide) ?_
  refine bj_icmp_ge (tgt := 12) dX9_lorry_2 (by decide) (fun h1 => ?_) (fun h1 => ?_)
  · refine bj_iload_n dX9_lorry_12 rfl 1 rfl ?_
    refine bj_bipush (v := 100) dX9_lorry_13 (by decide) ?_
    refine bj_icmp_gt (tgt := 30) dX9_lorry_15 (by decide) (fun h2 => ?_) (fun h2 => ?_)
    · refine bj_sub (lv' := [(0, .ref this)]) [0] rfl ?_
      exact j_X9_lorry_b30 X this σ
    · refine bj_aload_nS dX9_lorry_18 rfl 0 rfl ?_
      refine bj_getR (ci := 10) (k := 3) (C := RX9) (T := TX9) (N := 12) rfl hi_X9_lorry_X9 (by decide) rfl fl_X9_lorry_28 (Or.inl rfl) dX9_lorry_19 (fun v3 h4 => ?_)
      refine bj_nn (fun a5 h6 => ?_)
      subst h6
      refine bj_op (fun _ h7 => ?_)
      refine bj_callI (br_V (As := []) (rest := []) (q := (RJx4a65c, TJx4a65c, 3)) (c_Jx4a65c_size_8abf5 X a5 σ) rfl g_X9_lorry_Jx4a65c_size_8abf5_93 rfl (bh_ck_spec h7) ⟨rfl, hd_Jx4a65c_size_8abf5⟩ rfl ⟨by decide, by decide⟩ rfl (Nat.le_of_ble_eq_true rfl) dX9_lorry_22) (fun v8 σ9 h10 => ?_)
      refine bj_bipush (v := 8) dX9_lorry_25 (by decide) ?_
      refine bj_icmp_lt (tgt := 37) dX9_lorry_27 (by decide) (fun h11 => ?_) (fun h11 => ?_)
      · refine bj_aload_nS dX9_lorry_37 rfl 0 rfl ?_
        refine bj_getR (ci := 10) (k := 3) (C := RX9) (T := TX9) (N := 12) rfl hi_X9_lorry_X9 (by decide) rfl fl_X9_lorry_28 (Or.inl rfl) dX9_lorry_38 (fun v12 h13 => ?_)
        refine bj_new (ci := 4) (C := RX3) (T := TX3) (N := 8) rfl hi_X9_lorry_X3 tyX3 tyX3_ok df_X3 (List.mem_of_getElem? (i := 2) rfl) (List.mem_of_getElem? (i := 3) rfl) (List.mem_of_getElem? (i := 4) rfl) dX9_lorry_41 (fun a14 σ15 h16 => ?_)
        refine bj_dup dX9_lorry_44 rfl ?_
        refine bj_iload_n dX9_lorry_45 rfl 1 rfl ?_
        refine bj_callU (br_IN (As := [.int p1]) (rest := [.ref a14, va_rf v12]) (host := "BeetHouse") (c_X3_init X a14 p1 σ15) rfl g_X9_lorry_X3_init (List.mem_of_getElem? (i := 60) rfl) (List.mem_of_getElem? (i := 4) rfl) (List.mem_of_getElem? (i := 17) rfl) rfl hd_X3_init rfl ⟨by decide, by decide⟩ rfl (by cases v12 <;> exact Nat.le_of_ble_eq_true rfl) dX9_lorry_46) (fun v17 σ18 h19 => ?_)
        refine bj_nn (fun a20 h21 => ?_)
        subst h21
        refine bj_op (fun _ h22 => ?_)
        refine bj_callI (br_V (As := [.ref a14]) (rest := []) (q := (RJx4a65c, TJx4a65c, 3)) (c_Jx4a65c_add_9ea2d X a20 a14 σ18) rfl g_X9_lorry_Jx4a65c_add_9ea2d_102 rfl (bh_ck_spec h22) ⟨rfl, hd_Jx4a65c_add_9ea2d⟩ rfl ⟨by decide, by decide⟩ rfl (Nat.le_of_ble_eq_true rfl) dX9_lorry_49) (fun v23 σ24 h25 => ?_)
        refine bj_pop dX9_lorry_52 rfl ?_
        refine bj_aload_nS dX9_lorry_53 rfl 0 rfl ?_
        refine bj_getR (ci := 10) (k := 3) (C := RX9) (T := TX9) (N := 12) rfl hi_X9_lorry_X9 (by decide) rfl fl_X9_lorry_28 (Or.inl rfl) dX9_lorry_54 (fun v26 h27 => ?_)
        refine bj_nn (fun a28 h29 => ?_)
        subst h29
        refine bj_op (fun _ h30 => ?_)
        refine bj_callI (br_V (As := []) (rest := []) (q := (RJx4a65c, TJx4a65c, 3)) (c_Jx4a65c_size_8abf5 X a28 σ24) rfl g_X9_lorry_Jx4a65c_size_8abf5_93 rfl (bh_ck_spec h30) ⟨rfl, hd_Jx4a65c_size_8abf5⟩ rfl ⟨by decide, by decide⟩ rfl (Nat.le_of_ble_eq_true rfl) dX9_lorry_57) (fun v31 σ32 h33 => ?_)
        refine bj_iconst (v := 1) dX9_lorry_60 (by decide) ?_
        refine bj_isub dX9_lorry_61 ?_
        exact bj_iret dX9_lorry_62
      · refine bj_sub (lv' := [(0, .ref this)]) [0] rfl ?_
        exact j_X9_lorry_b30 X this σ9
  · refine bj_aload_nS dX9_lorry_5 rfl 0 rfl ?_
    refine bj_bipush (v := (-4)) dX9_lorry_6 (by decide) ?_
    refine bj_op (fun _ h34 => ?_)
    refine bj_callI (br_V (As := [.int (-4)]) (rest := []) (q := (RX9, TX9, 12)) (c_X9_refuse X this (-4) σ) rfl g_X9_lorry_X9_refuse_82 rfl (bh_ck_spec h34) ⟨rfl, hd_X9_refuse⟩ rfl ⟨by decide, by decide⟩ rfl (Nat.le_of_ble_eq_true rfl) dX9_lorry_8) (fun v35 σ36 h37 => ?_)
    exact bj_iret dX9_lorry_11
/-! BeetHouse.lorryAt(I)LBeetHouse$Lorry; -/
theorem hi_X9_lorryAt_X9 : ∀ w ∈ u_ws RX9 TX9 12, w ∈ wsX9_lorryAt := fun _ h => (List.mem_cons_of_mem _ (List.mem_append_left _ (List.mem_append_right _ h)))
set_option maxRecDepth 100000 in
theorem fl_X9_lorryAt_28 : bh_fl wsX9_lorryAt yX9_lorryAt.cls 28 "BeetHouse" "lorries" "Ljava/util/ArrayList;" := Or.inl (List.mem_of_getElem? (i := 1) rfl)
set_option maxRecDepth 100000 in
theorem g_X9_lorryAt_Jx4a65c_size_8abf5_93 : GoodIn wsX9_lorryAt (wsV yX9_lorryAt.cls 93 RJx4a65c yJx4a65c_size_8abf5 wsJx4a65c_size_8abf5) := goodIn_r _ [3, 4, 5, 6, 7, 8, 38, 39, 40] rfl (by decide +kernel)
set_option maxRecDepth 100000 in
theorem g_X9_lorryAt_Jx4a65c_get_915e3_172 : GoodIn wsX9_lorryAt (wsV yX9_lorryAt.cls 172 RJx4a65c yJx4a65c_get_915e3 wsJx4a65c_get_915e3) := goodIn_r _ [9, 10, 11, 6, 12, 8, 13, 14, 15, 16, 17, 18, 19, 20, 21, 22, 23, 6, 24, 25, 38, 39, 40] rfl (by decide +kernel)
def f_X9_lorryAt (this : Nat) (p1 : Int32) (σ : bh_S) : Option (Option Nat × bh_S) :=
  if p1 < 0 then
    some (none, σ)
  else
    (bh_rdR σ 10 this 3).bind fun v2 =>
    (v2).bind fun a4 =>
    (bh_ck σ a4 0).bind fun _ =>
    bh_bnd (f_Jx4a65c_size_8abf5 a4 σ) fun v7 σ8 =>
    if v7 ≤ p1 then
      some (none, σ8)
    else
      (bh_rdR σ8 10 this 3).bind fun v11 =>
      (v11).bind fun a13 =>
      (bh_ck σ8 a13 0).bind fun _ =>
      bh_bnd (f_Jx4a65c_get_915e3 a13 p1 σ8) fun v16 σ17 =>
      (bh_cst σ17 4 v16).bind fun _ =>
      some (v16, σ17)
set_option maxHeartbeats 4000000 in
set_option maxRecDepth 100000 in
theorem c_X9_lorryAt (X : bh_X) (this : Nat) (p1 : Int32) (σ : bh_S) : bh_MX eR X yX9_lorryAt wsX9_lorryAt 3 64 [.ref this, .int p1] σ (f_X9_lorryAt this p1 σ) := by
  refine bh_enter (cc := cX9_lorryAt) (NL := 2) (ret := (some (.object "BeetHouse$Lorry"))) (by decide) rfl (Nat.le_of_ble_eq_true rfl) (fun X => ?_)
  show bh_J eR yX9_lorryAt cX9_lorryAt wsX9_lorryAt (some (.object "BeetHouse$Lorry")) 2 3 64 X σ 0 [(0, .ref this), (1, .int p1)] [] _
  unfold f_X9_lorryAt
  refine bj_iload_n dX9_lorryAt_0 rfl 1 rfl ?_
  refine bj_if_lt (tgt := 29) dX9_lorryAt_1 (by decide) (fun h1 => ?_) (fun h1 => ?_)
  · refine bj_null dX9_lorryAt_29 ?_
    exact bj_aret (o := none) dX9_lorryAt_30 (Or.inl ⟨_, rfl⟩)
  · refine bj_iload_n dX9_lorryAt_4 rfl 1 rfl ?_
    refine bj_aload_nS dX9_lorryAt_5 rfl 0 rfl ?_
    refine bj_getR (ci := 10) (k := 3) (C := RX9) (T := TX9) (N := 12) rfl hi_X9_lorryAt_X9 (by decide) rfl fl_X9_lorryAt_28 (Or.inl rfl) dX9_lorryAt_6 (fun v2 h3 => ?_)
    refine bj_nn (fun a4 h5 => ?_)
    subst h5
    refine bj_op (fun _ h6 => ?_)
    refine bj_callI (br_V (As := []) (rest := [.int p1]) (q := (RJx4a65c, TJx4a65c, 3)) (c_Jx4a65c_size_8abf5 X a4 σ) rfl g_X9_lorryAt_Jx4a65c_size_8abf5_93 rfl (bh_ck_spec h6) ⟨rfl, hd_Jx4a65c_size_8abf5⟩ rfl ⟨by decide, by decide⟩ rfl (Nat.le_of_ble_eq_true rfl) dX9_lorryAt_9) (fun v7 σ8 h9 => ?_)
    refine bj_icmp_ge (tgt := 29) dX9_lorryAt_12 (by decide) (fun h10 => ?_) (fun h10 => ?_)
    · refine bj_null dX9_lorryAt_29 ?_
      exact bj_aret (o := none) dX9_lorryAt_30 (Or.inl ⟨_, rfl⟩)
    · refine bj_aload_nS dX9_lorryAt_15 rfl 0 rfl ?_
      refine bj_getR (ci := 10) (k := 3) (C := RX9) (T := TX9) (N := 12) rfl hi_X9_lorryAt_X9 (by decide) rfl fl_X9_lorryAt_28 (Or.inl rfl) dX9_lorryAt_16 (fun v11 h12 => ?_)
      refine bj_iload_n dX9_lorryAt_19 rfl 1 rfl ?_
      refine bj_nn (fun a13 h14 => ?_)
      subst h14
      refine bj_op (fun _ h15 => ?_)
      refine bj_callR (br_V (As := [.int p1]) (rest := []) (q := (RJx4a65c, TJx4a65c, 3)) (c_Jx4a65c_get_915e3 X a13 p1 σ8) rfl g_X9_lorryAt_Jx4a65c_get_915e3_172 rfl (bh_ck_spec h15) ⟨rfl, hd_Jx4a65c_get_915e3⟩ rfl ⟨by decide, by decide⟩ rfl (Nat.le_of_ble_eq_true rfl) dX9_lorryAt_20) (fun v16 σ17 h18 => ?_)
      refine bj_cast (ci := 4) (C := RX3) (T := TX3) (N := 8) (o := v16) rfl (List.mem_of_getElem? (i := 2) rfl) dX9_lorryAt_23 ?_
      refine bj_goto (tgt := 30) dX9_lorryAt_26 (by decide) ?_
      exact bj_aret (o := v16) dX9_lorryAt_30 (Or.inl ⟨_, rfl⟩)
/-! BeetHouse.send(II)I -/
set_option maxRecDepth 100000 in
theorem g_X9_send_X9_lorryAt_120 : GoodIn wsX9_send (wsV yX9_send.cls 120 RX9 yX9_lorryAt wsX9_lorryAt) := goodIn_r _ [2, 3, 4, 5, 6, 7, 8, 9, 10, 11, 12, 13, 14, 15, 16, 17, 18, 19, 20, 21, 22, 23, 24, 25, 26, 27, 28, 29, 30, 31, 58, 59, 60, 61, 62, 63, 64, 65, 66, 67, 68, 69, 70, 71, 72] rfl (by decide +kernel)
set_option maxRecDepth 100000 in
theorem g_X9_send_X9_plotAt_106 : GoodIn wsX9_send (wsV yX9_send.cls 106 RX9 yX9_plotAt wsX9_plotAt) := goodIn_r _ [32, 33, 34, 5, 35, 36, 37, 9, 10, 11, 12, 13, 14, 15, 16, 17, 18, 19, 20, 21, 22, 23, 24, 25, 26, 27, 28, 29, 30, 31, 58, 59, 60, 61, 62, 63, 64, 65, 66, 67, 68, 69, 70, 71, 72] rfl (by decide +kernel)
theorem hi_X9_send_X3 : ∀ w ∈ u_ws RX3 TX3 8, w ∈ wsX9_send := fun _ h => (List.mem_cons_of_mem _ (List.mem_append_left _ (List.mem_append_left _ (List.mem_append_left _ (List.mem_append_right _ h)))))
set_option maxRecDepth 100000 in
theorem fl_X9_send_124 : bh_fl wsX9_send yX9_send.cls 124 "BeetHouse$Lorry" "state" "I" := Or.inr ⟨"BeetHouse", List.mem_of_getElem? (i := 38) rfl⟩
theorem hi_X9_send_X9 : ∀ w ∈ u_ws RX9 TX9 12, w ∈ wsX9_send := fun _ h => (List.mem_cons_of_mem _ (List.mem_append_left _ (List.mem_append_left _ (List.mem_append_right _ h))))
set_option maxRecDepth 100000 in
theorem fl_X9_send_70 : bh_fl wsX9_send yX9_send.cls 70 "BeetHouse" "hour" "I" := Or.inl (List.mem_of_getElem? (i := 1) rfl)
set_option maxRecDepth 100000 in
theorem g_X9_send_X3_setOut : GoodIn wsX9_send wsX3_setOut := goodIn_r _ [46, 47, 48, 49, 50, 51, 52, 53, 54, 55, 56, 57, 73, 74, 75, 76, 77, 78, 79, 80, 81, 82, 83, 84, 85, 86] rfl (by decide +kernel)
set_option maxRecDepth 100000 in
theorem fl_X9_send_131 : bh_fl wsX9_send yX9_send.cls 131 "BeetHouse$Lorry" "there" "I" := Or.inr ⟨"BeetHouse", List.mem_of_getElem? (i := 40) rfl⟩
set_option maxRecDepth 100000 in
theorem g_X9_send_X9_refuse_82 : GoodIn wsX9_send (wsV yX9_send.cls 82 RX9 yX9_refuse wsX9_refuse) := goodIn_r _ [38, 39, 40, 5, 41, 42, 58, 59, 60, 61, 62, 63, 64, 65, 66, 67, 68, 69] rfl (by decide +kernel)
def f_X9_send_b22 (this : Nat) (σ : bh_S) : Option (Int32 × bh_S) :=
  (bh_ck σ this 10).bind fun _ =>
  bh_bnd (f_X9_refuse this (-1) σ) fun v2 σ3 =>
  some (v2, σ3)
set_option maxHeartbeats 4000000 in
set_option maxRecDepth 100000 in
theorem j_X9_send_b22 (X : bh_X) (this : Nat) (σ : bh_S) : bh_J eI yX9_send cX9_send wsX9_send (some .int) 5 4 85 X σ 22 [(0, .ref this)] [] (f_X9_send_b22 this σ) := by
  unfold f_X9_send_b22
  refine bj_aload_nS dX9_send_22 rfl 0 rfl ?_
  refine bj_iconst (v := (-1)) dX9_send_23 (by decide) ?_
  refine bj_op (fun _ h1 => ?_)
  refine bj_callI (br_V (As := [.int (-1)]) (rest := []) (q := (RX9, TX9, 12)) (c_X9_refuse X this (-1) σ) rfl g_X9_send_X9_refuse_82 rfl (bh_ck_spec h1) ⟨rfl, hd_X9_refuse⟩ rfl ⟨by decide, by decide⟩ rfl (Nat.le_of_ble_eq_true rfl) dX9_send_24) (fun v2 σ3 h4 => ?_)
  exact bj_iret dX9_send_27
def f_X9_send (this : Nat) (p1 : Int32) (p2 : Int32) (σ : bh_S) : Option (Int32 × bh_S) :=
  (bh_ck σ this 10).bind fun _ =>
  bh_bnd (f_X9_lorryAt this p1 σ) fun v2 σ3 =>
  (bh_ck σ3 this 10).bind fun _ =>
  bh_bnd (f_X9_plotAt this p2 σ3) fun v6 σ7 =>
  bh_cs v2 (
    f_X9_send_b22 this σ7
  ) (fun a9 =>
    bh_cs v6 (
      f_X9_send_b22 this σ7
    ) (fun a11 =>
      (bh_rdI σ7 4 a9 1).bind fun v13 =>
      if v13 = 0 then
        (bh_rdI σ7 10 this 11).bind fun v16 =>
        (bh_ck σ7 a9 4).bind fun _ =>
        bh_bnd (f_X3_setOut a9 a11 v16 σ7) fun v19 σ20 =>
        (bh_rdI σ20 4 a9 3).bind fun v22 =>
        some (v22, σ20)
      else
        (bh_ck σ7 this 10).bind fun _ =>
        bh_bnd (f_X9_refuse this (-3) σ7) fun v25 σ26 =>
        some (v25, σ26)
    )
  )
set_option maxHeartbeats 4000000 in
set_option maxRecDepth 100000 in
theorem c_X9_send (X : bh_X) (this : Nat) (p1 : Int32) (p2 : Int32) (σ : bh_S) : bh_MX eI X yX9_send wsX9_send 4 85 [.ref this, .int p1, .int p2] σ (f_X9_send this p1 p2 σ) := by
  refine bh_enter (cc := cX9_send) (NL := 5) (ret := (some .int)) (by decide) rfl (Nat.le_of_ble_eq_true rfl) (fun X => ?_)
  show bh_J eI yX9_send cX9_send wsX9_send (some .int) 5 4 85 X σ 0 [(0, .ref this), (1, .int p1), (2, .int p2)] [] _
  unfold f_X9_send
  refine bj_aload_nS dX9_send_0 rfl 0 rfl ?_
  refine bj_iload_n dX9_send_1 rfl 1 rfl ?_
  refine bj_op (fun _ h1 => ?_)
  refine bj_callR (br_V (As := [.int p1]) (rest := []) (q := (RX9, TX9, 12)) (c_X9_lorryAt X this p1 σ) rfl g_X9_send_X9_lorryAt_120 rfl (bh_ck_spec h1) ⟨rfl, hd_X9_lorryAt⟩ rfl ⟨by decide, by decide⟩ rfl (Nat.le_of_ble_eq_true rfl) dX9_send_2) (fun v2 σ3 h4 => ?_)
  refine bj_astore_n (lv' := [(3, va_rf v2), (0, .ref this), (1, .int p1), (2, .int p2)]) (o := v2) dX9_send_5 rfl (by decide) rfl ?_
  refine bj_aload_nS dX9_send_6 rfl 1 rfl ?_
  refine bj_iload_n dX9_send_7 rfl 3 rfl ?_
  refine bj_op (fun _ h5 => ?_)
  refine bj_callR (br_V (As := [.int p2]) (rest := []) (q := (RX9, TX9, 12)) (c_X9_plotAt X this p2 σ3) rfl g_X9_send_X9_plotAt_106 rfl (bh_ck_spec h5) ⟨rfl, hd_X9_plotAt⟩ rfl ⟨by decide, by decide⟩ rfl (Nat.le_of_ble_eq_true rfl) dX9_send_8) (fun v6 σ7 h8 => ?_)
  refine bj_astoreU (lv' := [(4, va_rf v6), (3, va_rf v2), (0, .ref this), (1, .int p1), (2, .int p2)]) (o := v6) dX9_send_11 (by decide) (bh_c1o (bh_c1r (bh_c1i (bh_c1i bh_c1n)))) rfl ?_
  refine bj_aload_n dX9_send_13 rfl 1 rfl ?_
  refine bj_ifnull (o := v2) (tgt := 22) dX9_send_14 (by decide) (fun h10 => ?_) (fun a9 h10 => ?_)
  · subst h10
    refine bj_sub (lv' := [(0, .ref this)]) [2] rfl ?_
    exact j_X9_send_b22 X this σ7
  · subst h10
    refine bj_aload dX9_send_17 0 rfl ?_
    refine bj_ifnonnull (o := v6) (tgt := 28) dX9_send_19 (by decide) (fun h12 => ?_) (fun a11 h12 => ?_)
    · subst h12
      refine bj_sub (lv' := [(0, .ref this)]) [2] rfl ?_
      exact j_X9_send_b22 X this σ7
    · subst h12
      refine bj_aload_nS dX9_send_28 rfl 1 rfl ?_
      refine bj_getI (ci := 4) (k := 1) (C := RX3) (T := TX3) (N := 8) rfl hi_X9_send_X3 (by decide) rfl fl_X9_send_124 (Or.inl rfl) dX9_send_29 (fun v13 h14 => ?_)
      refine bj_if_eq (tgt := 42) dX9_send_32 (by decide) (fun h15 => ?_) (fun h15 => ?_)
      · refine bj_aload_nS dX9_send_42 rfl 1 rfl ?_
        refine bj_aloadS dX9_send_43 0 rfl ?_
        refine bj_aload_nS dX9_send_45 rfl 2 rfl ?_
        refine bj_getI (ci := 10) (k := 11) (C := RX9) (T := TX9) (N := 12) rfl hi_X9_send_X9 (by decide) rfl fl_X9_send_70 (Or.inl rfl) dX9_send_46 (fun v16 h17 => ?_)
        refine bj_op (fun _ h18 => ?_)
        refine bj_callU (br_VN (As := [.ref a11, .int v16]) (rest := []) (host := "BeetHouse") (q := (RX3, TX3, 8)) (c_X3_setOut X a9 a11 v16 σ7) rfl g_X9_send_X3_setOut (List.mem_of_getElem? (i := 61) rfl) (List.mem_of_getElem? (i := 44) rfl) (List.mem_of_getElem? (i := 43) rfl) (List.mem_of_getElem? (i := 45) rfl) rfl (bh_ck_spec h18) hd_X3_setOut rfl ⟨by decide, by decide⟩ rfl (Nat.le_of_ble_eq_true rfl) dX9_send_49) (fun v19 σ20 h21 => ?_)
        refine bj_aload_nS dX9_send_52 rfl 1 rfl ?_
        refine bj_getI (ci := 4) (k := 3) (C := RX3) (T := TX3) (N := 8) rfl hi_X9_send_X3 (by decide) rfl fl_X9_send_131 (Or.inl rfl) dX9_send_53 (fun v22 h23 => ?_)
        exact bj_iret dX9_send_56
      · refine bj_aload_nS dX9_send_35 rfl 2 rfl ?_
        refine bj_bipush (v := (-3)) dX9_send_36 (by decide) ?_
        refine bj_op (fun _ h24 => ?_)
        refine bj_callI (br_V (As := [.int (-3)]) (rest := []) (q := (RX9, TX9, 12)) (c_X9_refuse X this (-3) σ7) rfl g_X9_send_X9_refuse_82 rfl (bh_ck_spec h24) ⟨rfl, hd_X9_refuse⟩ rfl ⟨by decide, by decide⟩ rfl (Nat.le_of_ble_eq_true rfl) dX9_send_38) (fun v25 σ26 h27 => ?_)
        exact bj_iret dX9_send_41
/-! BeetHouse.firstHome()LBeetHouse$Lorry; -/
theorem hi_X9_firstHome_X9 : ∀ w ∈ u_ws RX9 TX9 12, w ∈ wsX9_firstHome := fun _ h => (List.mem_cons_of_mem _ (List.mem_append_left _ (List.mem_append_left _ (List.mem_append_right _ h))))
set_option maxRecDepth 100000 in
theorem fl_X9_firstHome_28 : bh_fl wsX9_firstHome yX9_firstHome.cls 28 "BeetHouse" "lorries" "Ljava/util/ArrayList;" := Or.inl (List.mem_of_getElem? (i := 1) rfl)
set_option maxRecDepth 100000 in
theorem g_X9_firstHome_Jx4a65c_size_8abf5_93 : GoodIn wsX9_firstHome (wsV yX9_firstHome.cls 93 RJx4a65c yJx4a65c_size_8abf5 wsJx4a65c_size_8abf5) := goodIn_r _ [3, 4, 5, 6, 7, 8, 46, 47, 48] rfl (by decide +kernel)
set_option maxRecDepth 100000 in
theorem g_X9_firstHome_Jx4a65c_get_915e3_172 : GoodIn wsX9_firstHome (wsV yX9_firstHome.cls 172 RJx4a65c yJx4a65c_get_915e3 wsJx4a65c_get_915e3) := goodIn_r _ [9, 10, 11, 6, 12, 8, 13, 14, 15, 16, 17, 18, 19, 20, 21, 22, 23, 6, 24, 25, 46, 47, 48] rfl (by decide +kernel)
theorem hi_X9_firstHome_X3 : ∀ w ∈ u_ws RX3 TX3 8, w ∈ wsX9_firstHome := fun _ h => (List.mem_cons_of_mem _ (List.mem_append_left _ (List.mem_append_right _ h)))
set_option maxRecDepth 100000 in
theorem fl_X9_firstHome_124 : bh_fl wsX9_firstHome yX9_firstHome.cls 124 "BeetHouse$Lorry" "state" "I" := Or.inr ⟨"BeetHouse", List.mem_of_getElem? (i := 38) rfl⟩
def f_X9_firstHome_b2 (N : Nat) : Nat → Nat → Int32 → bh_S → Option (Option Nat × bh_S)
  | 0, _, _, _ => none
  | n + 1, this, x1, σ =>
    (bh_rdR σ 10 this 3).bind fun v1 =>
    (v1).bind fun a3 =>
    (bh_ck σ a3 0).bind fun _ =>
    bh_bnd (f_Jx4a65c_size_8abf5 a3 σ) fun v6 σ7 =>
    if v6 ≤ x1 then
      some (none, σ7)
    else
      (bh_rdR σ7 10 this 3).bind fun v10 =>
      (v10).bind fun a12 =>
      (bh_ck σ7 a12 0).bind fun _ =>
      bh_bnd (f_Jx4a65c_get_915e3 a12 x1 σ7) fun v15 σ16 =>
      (bh_cst σ16 4 v15).bind fun _ =>
      (v15).bind fun a18 =>
      (bh_rdI σ16 4 a18 1).bind fun v20 =>
      if v20 = 0 then
        (bh_rdR σ16 10 this 3).bind fun v23 =>
        (v23).bind fun a25 =>
        (bh_ck σ16 a25 0).bind fun _ =>
        bh_bnd (f_Jx4a65c_get_915e3 a25 x1 σ16) fun v28 σ29 =>
        (bh_cst σ29 4 v28).bind fun _ =>
        some (v28, σ29)
      else
        f_X9_firstHome_b2 N n this (x1 + 1) σ16
set_option maxHeartbeats 4000000 in
set_option maxRecDepth 100000 in
theorem j_X9_firstHome_b2 (X : bh_X) (N : Nat) : ∀ (n : Nat) (this : Nat) (x1 : Int32) (σ : bh_S), bh_J eR yX9_firstHome cX9_firstHome wsX9_firstHome (some (.object "BeetHouse$Lorry")) 2 3 64 X σ 2 [(0, .ref this), (1, .int x1)] [] (f_X9_firstHome_b2 N n this x1 σ) := by
  intro n
  induction n with
  | zero => intro this x1 σ; exact bj_none
  | succ n ih =>
    intro this x1 σ
    unfold f_X9_firstHome_b2
    refine bj_iload_n dX9_firstHome_2 rfl 1 rfl ?_
    refine bj_aload_nS dX9_firstHome_3 rfl 0 rfl ?_
    refine bj_getR (ci := 10) (k := 3) (C := RX9) (T := TX9) (N := 12) rfl hi_X9_firstHome_X9 (by decide) rfl fl_X9_firstHome_28 (Or.inl rfl) dX9_firstHome_4 (fun v1 h2 => ?_)
    refine bj_nn (fun a3 h4 => ?_)
    subst h4
    refine bj_op (fun _ h5 => ?_)
    refine bj_callI (br_V (As := []) (rest := [.int x1]) (q := (RJx4a65c, TJx4a65c, 3)) (c_Jx4a65c_size_8abf5 X a3 σ) rfl g_X9_firstHome_Jx4a65c_size_8abf5_93 rfl (bh_ck_spec h5) ⟨rfl, hd_Jx4a65c_size_8abf5⟩ rfl ⟨by decide, by decide⟩ rfl (Nat.le_of_ble_eq_true rfl) dX9_firstHome_7) (fun v6 σ7 h8 => ?_)
    refine bj_icmp_ge (tgt := 48) dX9_firstHome_10 (by decide) (fun h9 => ?_) (fun h9 => ?_)
    · refine bj_null dX9_firstHome_48 ?_
      exact bj_aret (o := none) dX9_firstHome_49 (Or.inl ⟨_, rfl⟩)
    · refine bj_aload_nS dX9_firstHome_13 rfl 0 rfl ?_
      refine bj_getR (ci := 10) (k := 3) (C := RX9) (T := TX9) (N := 12) rfl hi_X9_firstHome_X9 (by decide) rfl fl_X9_firstHome_28 (Or.inl rfl) dX9_firstHome_14 (fun v10 h11 => ?_)
      refine bj_iload_n dX9_firstHome_17 rfl 1 rfl ?_
      refine bj_nn (fun a12 h13 => ?_)
      subst h13
      refine bj_op (fun _ h14 => ?_)
      refine bj_callR (br_V (As := [.int x1]) (rest := []) (q := (RJx4a65c, TJx4a65c, 3)) (c_Jx4a65c_get_915e3 X a12 x1 σ7) rfl g_X9_firstHome_Jx4a65c_get_915e3_172 rfl (bh_ck_spec h14) ⟨rfl, hd_Jx4a65c_get_915e3⟩ rfl ⟨by decide, by decide⟩ rfl (Nat.le_of_ble_eq_true rfl) dX9_firstHome_18) (fun v15 σ16 h17 => ?_)
      refine bj_cast (ci := 4) (C := RX3) (T := TX3) (N := 8) (o := v15) rfl (List.mem_of_getElem? (i := 2) rfl) dX9_firstHome_21 ?_
      refine bj_nn (fun a18 h19 => ?_)
      subst h19
      refine bj_getI (ci := 4) (k := 1) (C := RX3) (T := TX3) (N := 8) rfl hi_X9_firstHome_X3 (by decide) rfl fl_X9_firstHome_124 (Or.inl rfl) dX9_firstHome_24 (fun v20 h21 => ?_)
      refine bj_if_ne (tgt := 42) dX9_firstHome_27 (by decide) (fun h22 => ?_) (fun h22 => ?_)
      · refine bj_iinc (v := x1 + 1) (lv' := [(1, .int (x1 + 1)), (0, .ref this)]) dX9_firstHome_42 1 rfl rfl (by decide) rfl ?_
        refine bj_goto (tgt := 2) dX9_firstHome_45 (by decide) ?_
        refine bj_sub (lv' := [(0, .ref this), (1, .int (x1 + 1))]) [1, 0] rfl ?_
        exact ih this (x1 + 1) σ16
      · refine bj_aload_nS dX9_firstHome_30 rfl 0 rfl ?_
        refine bj_getR (ci := 10) (k := 3) (C := RX9) (T := TX9) (N := 12) rfl hi_X9_firstHome_X9 (by decide) rfl fl_X9_firstHome_28 (Or.inl rfl) dX9_firstHome_31 (fun v23 h24 => ?_)
        refine bj_iload_n dX9_firstHome_34 rfl 1 rfl ?_
        refine bj_nn (fun a25 h26 => ?_)
        subst h26
        refine bj_op (fun _ h27 => ?_)
        refine bj_callR (br_V (As := [.int x1]) (rest := []) (q := (RJx4a65c, TJx4a65c, 3)) (c_Jx4a65c_get_915e3 X a25 x1 σ16) rfl g_X9_firstHome_Jx4a65c_get_915e3_172 rfl (bh_ck_spec h27) ⟨rfl, hd_Jx4a65c_get_915e3⟩ rfl ⟨by decide, by decide⟩ rfl (Nat.le_of_ble_eq_true rfl) dX9_firstHome_35) (fun v28 σ29 h30 => ?_)
        refine bj_cast (ci := 4) (C := RX3) (T := TX3) (N := 8) (o := v28) rfl (List.mem_of_getElem? (i := 2) rfl) dX9_firstHome_38 ?_
        exact bj_aret (o := v28) dX9_firstHome_41 (Or.inl ⟨_, rfl⟩)
def f_X9_firstHome (N : Nat) (this : Nat) (σ : bh_S) : Option (Option Nat × bh_S) :=
  f_X9_firstHome_b2 N N this 0 σ
set_option maxHeartbeats 4000000 in
set_option maxRecDepth 100000 in
theorem c_X9_firstHome (X : bh_X) (N : Nat) (this : Nat) (σ : bh_S) : bh_MX eR X yX9_firstHome wsX9_firstHome 3 64 [.ref this] σ (f_X9_firstHome N this σ) := by
  refine bh_enter (cc := cX9_firstHome) (NL := 2) (ret := (some (.object "BeetHouse$Lorry"))) (by decide) rfl (Nat.le_of_ble_eq_true rfl) (fun X => ?_)
  show bh_J eR yX9_firstHome cX9_firstHome wsX9_firstHome (some (.object "BeetHouse$Lorry")) 2 3 64 X σ 0 [(0, .ref this)] [] _
  unfold f_X9_firstHome
  refine bj_iconst (v := 0) dX9_firstHome_0 (by decide) ?_
  refine bj_istore_n (lv' := [(1, .int 0), (0, .ref this)]) dX9_firstHome_1 rfl (by decide) rfl ?_
  refine bj_sub (lv' := [(0, .ref this), (1, .int 0)]) [1, 0] rfl ?_
  exact j_X9_firstHome_b2 X N N this 0 σ
/-! BeetHouse.hasRootsToSpare(LBeetHouse$Plot;)Z -/
theorem hi_X9_hasRootsToSpare_X9 : ∀ w ∈ u_ws RX9 TX9 12, w ∈ wsX9_hasRootsToSpare := fun _ h => (List.mem_cons_of_mem _ (List.mem_append_left _ (List.mem_append_left _ (List.mem_append_left _ (List.mem_append_right _ h)))))
set_option maxRecDepth 100000 in
theorem fl_X9_hasRootsToSpare_28 : bh_fl wsX9_hasRootsToSpare yX9_hasRootsToSpare.cls 28 "BeetHouse" "lorries" "Ljava/util/ArrayList;" := Or.inl (List.mem_of_getElem? (i := 1) rfl)
set_option maxRecDepth 100000 in
theorem g_X9_hasRootsToSpare_Jx4a65c_size_8abf5_93 : GoodIn wsX9_hasRootsToSpare (wsV yX9_hasRootsToSpare.cls 93 RJx4a65c yJx4a65c_size_8abf5 wsJx4a65c_size_8abf5) := goodIn_r _ [3, 4, 5, 6, 7, 8, 66, 67, 68] rfl (by decide +kernel)
theorem hi_X9_hasRootsToSpare_X6 : ∀ w ∈ u_ws RX6 TX6 14, w ∈ wsX9_hasRootsToSpare := fun _ h => (List.mem_cons_of_mem _ (List.mem_append_left _ (List.mem_append_right _ h)))
set_option maxRecDepth 100000 in
theorem fl_X9_hasRootsToSpare_163 : bh_fl wsX9_hasRootsToSpare yX9_hasRootsToSpare.cls 163 "BeetHouse$Plot" "roots" "I" := Or.inr ⟨"BeetHouse", List.mem_of_getElem? (i := 27) rfl⟩
set_option maxRecDepth 100000 in
theorem g_X9_hasRootsToSpare_Jx4a65c_get_915e3_172 : GoodIn wsX9_hasRootsToSpare (wsV yX9_hasRootsToSpare.cls 172 RJx4a65c yJx4a65c_get_915e3 wsJx4a65c_get_915e3) := goodIn_r _ [9, 10, 11, 6, 12, 8, 13, 14, 15, 16, 17, 18, 19, 20, 21, 22, 23, 6, 24, 25, 66, 67, 68] rfl (by decide +kernel)
set_option maxRecDepth 100000 in
theorem g_X9_hasRootsToSpare_X3_isOutTo : GoodIn wsX9_hasRootsToSpare wsX3_isOutTo := goodIn_r _ [29, 30, 31, 44, 45, 46, 47, 48, 49, 50, 51] rfl (by decide +kernel)
theorem hi_X9_hasRootsToSpare_X3 : ∀ w ∈ u_ws RX3 TX3 8, w ∈ wsX9_hasRootsToSpare := fun _ h => (List.mem_cons_of_mem _ (List.mem_append_left _ (List.mem_append_left _ (List.mem_append_right _ h))))
set_option maxRecDepth 100000 in
theorem fl_X9_hasRootsToSpare_271 : bh_fl wsX9_hasRootsToSpare yX9_hasRootsToSpare.cls 271 "BeetHouse$Lorry" "capacity" "I" := Or.inr ⟨"BeetHouse", List.mem_of_getElem? (i := 37) rfl⟩
def f_X9_hasRootsToSpare_b45 (N : Nat) (k4 : Nat → Nat → Int32 → Int32 → bh_S → Option (Int32 × bh_S)) (this : Nat) (x1 : Nat) (x2 : Int32) (x3 : Int32) (σ : bh_S) : Option (Int32 × bh_S) :=
  k4 this x1 x2 (x3 + 1) σ
set_option maxHeartbeats 4000000 in
set_option maxRecDepth 100000 in
theorem j_X9_hasRootsToSpare_b45 (X : bh_X) (N : Nat) (k4 : Nat → Nat → Int32 → Int32 → bh_S → Option (Int32 × bh_S)) (hk4 : ∀ (this : Nat) (x1 : Nat) (x2 : Int32) (x3 : Int32) (σ : bh_S), bh_J eI yX9_hasRootsToSpare cX9_hasRootsToSpare wsX9_hasRootsToSpare (some .boolean) 5 3 64 X σ 4 [(0, .ref this), (1, .ref x1), (2, .int x2), (3, .int x3)] [] (k4 this x1 x2 x3 σ)) (this : Nat) (x1 : Nat) (x2 : Int32) (x3 : Int32) (σ : bh_S) : bh_J eI yX9_hasRootsToSpare cX9_hasRootsToSpare wsX9_hasRootsToSpare (some .boolean) 5 3 64 X σ 45 [(0, .ref this), (1, .ref x1), (2, .int x2), (3, .int x3)] [] (f_X9_hasRootsToSpare_b45 N k4 this x1 x2 x3 σ) := by
  unfold f_X9_hasRootsToSpare_b45
  refine bj_iinc (v := x3 + 1) (lv' := [(3, .int (x3 + 1)), (0, .ref this), (1, .ref x1), (2, .int x2)]) dX9_hasRootsToSpare_45 3 rfl rfl (by decide) rfl ?_
  refine bj_goto (tgt := 4) dX9_hasRootsToSpare_48 (by decide) ?_
  refine bj_sub (lv' := [(0, .ref this), (1, .ref x1), (2, .int x2), (3, .int (x3 + 1))]) [1, 2, 3, 0] rfl ?_
  exact hk4 this x1 x2 (x3 + 1) σ
def f_X9_hasRootsToSpare_b4 (N : Nat) : Nat → Nat → Nat → Int32 → Int32 → bh_S → Option (Int32 × bh_S)
  | 0, _, _, _, _, _ => none
  | n + 1, this, x1, x2, x3, σ =>
    (bh_rdR σ 10 this 3).bind fun v1 =>
    (v1).bind fun a3 =>
    (bh_ck σ a3 0).bind fun _ =>
    bh_bnd (f_Jx4a65c_size_8abf5 a3 σ) fun v6 σ7 =>
    if v6 ≤ x3 then
      (bh_rdI σ7 7 x1 6).bind fun v10 =>
      if v10 ≤ x2 then
        bh_retZ σ7 0
      else
        bh_retZ σ7 1
    else
      (bh_rdR σ7 10 this 3).bind fun v13 =>
      (v13).bind fun a15 =>
      (bh_ck σ7 a15 0).bind fun _ =>
      bh_bnd (f_Jx4a65c_get_915e3 a15 x3 σ7) fun v18 σ19 =>
      (bh_cst σ19 4 v18).bind fun _ =>
      (v18).bind fun a21 =>
      (bh_ck σ19 a21 4).bind fun _ =>
      bh_bnd (f_X3_isOutTo a21 x1 σ19) fun v24 σ25 =>
      if v24 = 0 then
        f_X9_hasRootsToSpare_b45 N (f_X9_hasRootsToSpare_b4 N n) this x1 x2 x3 σ25
      else
        (bh_rdI σ25 4 a21 0).bind fun v28 =>
        f_X9_hasRootsToSpare_b45 N (f_X9_hasRootsToSpare_b4 N n) this x1 (x2 + v28) x3 σ25
set_option maxHeartbeats 4000000 in
set_option maxRecDepth 100000 in
theorem j_X9_hasRootsToSpare_b4 (X : bh_X) (N : Nat) : ∀ (n : Nat) (this : Nat) (x1 : Nat) (x2 : Int32) (x3 : Int32) (σ : bh_S), bh_J eI yX9_hasRootsToSpare cX9_hasRootsToSpare wsX9_hasRootsToSpare (some .boolean) 5 3 64 X σ 4 [(0, .ref this), (1, .ref x1), (2, .int x2), (3, .int x3)] [] (f_X9_hasRootsToSpare_b4 N n this x1 x2 x3 σ) := by
  intro n
  induction n with
  | zero => intro this x1 x2 x3 σ; exact bj_none
  | succ n ih =>
    intro this x1 x2 x3 σ
    unfold f_X9_hasRootsToSpare_b4
    refine bj_iload_n dX9_hasRootsToSpare_4 rfl 3 rfl ?_
    refine bj_aload_nS dX9_hasRootsToSpare_5 rfl 0 rfl ?_
    refine bj_getR (ci := 10) (k := 3) (C := RX9) (T := TX9) (N := 12) rfl hi_X9_hasRootsToSpare_X9 (by decide) rfl fl_X9_hasRootsToSpare_28 (Or.inl rfl) dX9_hasRootsToSpare_6 (fun v1 h2 => ?_)
    refine bj_nn (fun a3 h4 => ?_)
    subst h4
    refine bj_op (fun _ h5 => ?_)
    refine bj_callI (br_V (As := []) (rest := [.int x3]) (q := (RJx4a65c, TJx4a65c, 3)) (c_Jx4a65c_size_8abf5 X a3 σ) rfl g_X9_hasRootsToSpare_Jx4a65c_size_8abf5_93 rfl (bh_ck_spec h5) ⟨rfl, hd_Jx4a65c_size_8abf5⟩ rfl ⟨by decide, by decide⟩ rfl (Nat.le_of_ble_eq_true rfl) dX9_hasRootsToSpare_9) (fun v6 σ7 h8 => ?_)
    refine bj_icmp_ge (tgt := 51) dX9_hasRootsToSpare_12 (by decide) (fun h9 => ?_) (fun h9 => ?_)
    · refine bj_aload_nS dX9_hasRootsToSpare_51 rfl 1 rfl ?_
      refine bj_getI (ci := 7) (k := 6) (C := RX6) (T := TX6) (N := 14) rfl hi_X9_hasRootsToSpare_X6 (by decide) rfl fl_X9_hasRootsToSpare_163 (Or.inl rfl) dX9_hasRootsToSpare_52 (fun v10 h11 => ?_)
      refine bj_iload_n dX9_hasRootsToSpare_55 rfl 2 rfl ?_
      refine bj_icmp_le (tgt := 63) dX9_hasRootsToSpare_56 (by decide) (fun h12 => ?_) (fun h12 => ?_)
      · refine bj_iconst (v := 0) dX9_hasRootsToSpare_63 (by decide) ?_
        exact bj_zret dX9_hasRootsToSpare_64
      · refine bj_iconst (v := 1) dX9_hasRootsToSpare_59 (by decide) ?_
        refine bj_goto (tgt := 64) dX9_hasRootsToSpare_60 (by decide) ?_
        exact bj_zret dX9_hasRootsToSpare_64
    · refine bj_aload_nS dX9_hasRootsToSpare_15 rfl 0 rfl ?_
      refine bj_getR (ci := 10) (k := 3) (C := RX9) (T := TX9) (N := 12) rfl hi_X9_hasRootsToSpare_X9 (by decide) rfl fl_X9_hasRootsToSpare_28 (Or.inl rfl) dX9_hasRootsToSpare_16 (fun v13 h14 => ?_)
      refine bj_iload_n dX9_hasRootsToSpare_19 rfl 3 rfl ?_
      refine bj_nn (fun a15 h16 => ?_)
      subst h16
      refine bj_op (fun _ h17 => ?_)
      refine bj_callR (br_V (As := [.int x3]) (rest := []) (q := (RJx4a65c, TJx4a65c, 3)) (c_Jx4a65c_get_915e3 X a15 x3 σ7) rfl g_X9_hasRootsToSpare_Jx4a65c_get_915e3_172 rfl (bh_ck_spec h17) ⟨rfl, hd_Jx4a65c_get_915e3⟩ rfl ⟨by decide, by decide⟩ rfl (Nat.le_of_ble_eq_true rfl) dX9_hasRootsToSpare_20) (fun v18 σ19 h20 => ?_)
      refine bj_cast (ci := 4) (C := RX3) (T := TX3) (N := 8) (o := v18) rfl (List.mem_of_getElem? (i := 2) rfl) dX9_hasRootsToSpare_23 ?_
      refine bj_astore (lv' := [(4, va_rf v18), (0, .ref this), (1, .ref x1), (2, .int x2), (3, .int x3)]) (o := v18) dX9_hasRootsToSpare_26 (by decide) rfl ?_
      refine bj_aload dX9_hasRootsToSpare_28 0 rfl ?_
      refine bj_aload_nS dX9_hasRootsToSpare_30 rfl 2 rfl ?_
      refine bj_nn (fun a21 h22 => ?_)
      subst h22
      refine bj_op (fun _ h23 => ?_)
      refine bj_callI (br_VN (As := [.ref x1]) (rest := []) (host := "BeetHouse") (q := (RX3, TX3, 8)) (c_X3_isOutTo X a21 x1 σ19) rfl g_X9_hasRootsToSpare_X3_isOutTo (List.mem_of_getElem? (i := 62) rfl) (List.mem_of_getElem? (i := 27) rfl) (List.mem_of_getElem? (i := 26) rfl) (List.mem_of_getElem? (i := 28) rfl) rfl (bh_ck_spec h23) hd_X3_isOutTo rfl ⟨by decide, by decide⟩ rfl (Nat.le_of_ble_eq_true rfl) dX9_hasRootsToSpare_31) (fun v24 σ25 h26 => ?_)
      refine bj_if_eq (tgt := 45) dX9_hasRootsToSpare_34 (by decide) (fun h27 => ?_) (fun h27 => ?_)
      · refine bj_sub (lv' := [(0, .ref this), (1, .ref x1), (2, .int x2), (3, .int x3)]) [1, 2, 3, 4] rfl ?_
        exact j_X9_hasRootsToSpare_b45 X N (f_X9_hasRootsToSpare_b4 N n) ih this x1 x2 x3 σ25
      · refine bj_iload_n dX9_hasRootsToSpare_37 rfl 3 rfl ?_
        refine bj_aloadS dX9_hasRootsToSpare_38 0 rfl ?_
        refine bj_getI (ci := 4) (k := 0) (C := RX3) (T := TX3) (N := 8) rfl hi_X9_hasRootsToSpare_X3 (by decide) rfl fl_X9_hasRootsToSpare_271 (Or.inl rfl) dX9_hasRootsToSpare_40 (fun v28 h29 => ?_)
        refine bj_iadd dX9_hasRootsToSpare_43 ?_
        refine bj_istore_n (lv' := [(2, .int (x2 + v28)), (4, .ref a21), (0, .ref this), (1, .ref x1), (3, .int x3)]) dX9_hasRootsToSpare_44 rfl (by decide) rfl ?_
        refine bj_sub (lv' := [(0, .ref this), (1, .ref x1), (2, .int (x2 + v28)), (3, .int x3)]) [2, 3, 0, 4] rfl ?_
        exact j_X9_hasRootsToSpare_b45 X N (f_X9_hasRootsToSpare_b4 N n) ih this x1 (x2 + v28) x3 σ25
def f_X9_hasRootsToSpare (N : Nat) (this : Nat) (p1 : Nat) (σ : bh_S) : Option (Int32 × bh_S) :=
  f_X9_hasRootsToSpare_b4 N N this p1 0 0 σ
set_option maxHeartbeats 4000000 in
set_option maxRecDepth 100000 in
theorem c_X9_hasRootsToSpare (X : bh_X) (N : Nat) (this : Nat) (p1 : Nat) (σ : bh_S) : bh_MX eI X yX9_hasRootsToSpare wsX9_hasRootsToSpare 3 64 [.ref this, .ref p1] σ (f_X9_hasRootsToSpare N this p1 σ) := by
  refine bh_enter (cc := cX9_hasRootsToSpare) (NL := 5) (ret := (some .boolean)) (by decide) rfl (Nat.le_of_ble_eq_true rfl) (fun X => ?_)
  show bh_J eI yX9_hasRootsToSpare cX9_hasRootsToSpare wsX9_hasRootsToSpare (some .boolean) 5 3 64 X σ 0 [(0, .ref this), (1, .ref p1)] [] _
  unfold f_X9_hasRootsToSpare
  refine bj_iconst (v := 0) dX9_hasRootsToSpare_0 (by decide) ?_
  refine bj_istore_n (lv' := [(2, .int 0), (0, .ref this), (1, .ref p1)]) dX9_hasRootsToSpare_1 rfl (by decide) rfl ?_
  refine bj_iconst (v := 0) dX9_hasRootsToSpare_2 (by decide) ?_
  refine bj_istore_n (lv' := [(3, .int 0), (2, .int 0), (0, .ref this), (1, .ref p1)]) dX9_hasRootsToSpare_3 rfl (by decide) rfl ?_
  refine bj_sub (lv' := [(0, .ref this), (1, .ref p1), (2, .int 0), (3, .int 0)]) [2, 3, 1, 0] rfl ?_
  exact j_X9_hasRootsToSpare_b4 X N N this p1 0 0 σ
/-! BeetHouse.mostOwed()LBeetHouse$Farmer; -/
theorem hi_X9_mostOwed_X9 : ∀ w ∈ u_ws RX9 TX9 12, w ∈ wsX9_mostOwed := fun _ h => (List.mem_cons_of_mem _ (List.mem_append_left _ (List.mem_append_left _ (List.mem_append_left _ (List.mem_append_left _ (List.mem_append_left _ (List.mem_append_right _ h)))))))
set_option maxRecDepth 100000 in
theorem fl_X9_mostOwed_18 : bh_fl wsX9_mostOwed yX9_mostOwed.cls 18 "BeetHouse" "plots" "Ljava/util/ArrayList;" := Or.inl (List.mem_of_getElem? (i := 1) rfl)
set_option maxRecDepth 100000 in
theorem g_X9_mostOwed_Jx4a65c_size_8abf5_93 : GoodIn wsX9_mostOwed (wsV yX9_mostOwed.cls 93 RJx4a65c yJx4a65c_size_8abf5 wsJx4a65c_size_8abf5) := goodIn_r _ [4, 5, 6, 7, 8, 9, 81, 82, 83] rfl (by decide +kernel)
set_option maxRecDepth 100000 in
theorem g_X9_mostOwed_Jx4a65c_get_915e3_172 : GoodIn wsX9_mostOwed (wsV yX9_mostOwed.cls 172 RJx4a65c yJx4a65c_get_915e3 wsJx4a65c_get_915e3) := goodIn_r _ [10, 11, 12, 7, 13, 9, 14, 15, 16, 17, 18, 19, 20, 21, 22, 23, 24, 7, 25, 26, 81, 82, 83] rfl (by decide +kernel)
set_option maxRecDepth 100000 in
theorem g_X9_mostOwed_X9_hasRootsToSpare_274 : GoodIn wsX9_mostOwed (wsV yX9_mostOwed.cls 274 RX9 yX9_hasRootsToSpare wsX9_hasRootsToSpare) := goodIn_r _ [27, 28, 29, 30, 31, 32, 33, 4, 5, 6, 7, 8, 9, 10, 11, 12, 13, 14, 15, 16, 17, 18, 19, 20, 21, 22, 23, 24, 25, 26, 34, 35, 36, 37, 38, 39, 51, 52, 53, 54, 55, 56, 57, 58, 59, 60, 61, 62, 84, 85, 86, 87, 88, 89, 90, 91, 63, 64, 65, 66, 67, 68, 69, 70, 71, 72, 73, 74, 75, 76, 81, 82, 83] rfl (by decide +kernel)
theorem hi_X9_mostOwed_X6 : ∀ w ∈ u_ws RX6 TX6 14, w ∈ wsX9_mostOwed := fun _ h => (List.mem_cons_of_mem _ (List.mem_append_left _ (List.mem_append_left _ (List.mem_append_left _ (List.mem_append_left _ (List.mem_append_right _ h))))))
set_option maxRecDepth 100000 in
theorem fl_X9_mostOwed_223 : bh_fl wsX9_mostOwed yX9_mostOwed.cls 223 "BeetHouse$Plot" "farmer" "LBeetHouse$Farmer;" := Or.inr ⟨"BeetHouse", List.mem_of_getElem? (i := 22) rfl⟩
set_option maxRecDepth 100000 in
theorem fl_X9_mostOwed_41 : bh_fl wsX9_mostOwed yX9_mostOwed.cls 41 "BeetHouse" "yard" "LBeetHouse$Yard;" := Or.inl (List.mem_of_getElem? (i := 3) rfl)
theorem hi_X9_mostOwed_X8 : ∀ w ∈ u_ws RX8 TX8 4, w ∈ wsX9_mostOwed := fun _ h => (List.mem_cons_of_mem _ (List.mem_append_left _ (List.mem_append_left _ (List.mem_append_left _ (List.mem_append_right _ h)))))
set_option maxRecDepth 100000 in
theorem fl_X9_mostOwed_191 : bh_fl wsX9_mostOwed yX9_mostOwed.cls 191 "BeetHouse$Yard" "came" "I" := Or.inr ⟨"BeetHouse", List.mem_of_getElem? (i := 7) rfl⟩
set_option maxRecDepth 100000 in
theorem g_X9_mostOwed_X0_comesBefore : GoodIn wsX9_mostOwed wsX0_comesBefore := goodIn_r _ [43, 44, 45, 46, 47, 41, 48, 49, 50, 92, 93, 94, 95] rfl (by decide +kernel)
def f_X9_mostOwed_b62 (N : Nat) (k4 : Nat → Option Nat → Int32 → bh_S → Option (Option Nat × bh_S)) (this : Nat) (x1 : Option Nat) (x2 : Int32) (σ : bh_S) : Option (Option Nat × bh_S) :=
  k4 this x1 (x2 + 1) σ
set_option maxHeartbeats 4000000 in
set_option maxRecDepth 100000 in
theorem j_X9_mostOwed_b62 (X : bh_X) (N : Nat) (k4 : Nat → Option Nat → Int32 → bh_S → Option (Option Nat × bh_S)) (hk4 : ∀ (this : Nat) (x1 : Option Nat) (x2 : Int32) (σ : bh_S), bh_J eR yX9_mostOwed cX9_mostOwed wsX9_mostOwed (some (.object "BeetHouse$Farmer")) 4 4 88 X σ 4 [(0, .ref this), (1, va_rf x1), (2, .int x2)] [] (k4 this x1 x2 σ)) (this : Nat) (x1 : Option Nat) (x2 : Int32) (σ : bh_S) : bh_J eR yX9_mostOwed cX9_mostOwed wsX9_mostOwed (some (.object "BeetHouse$Farmer")) 4 4 88 X σ 62 [(0, .ref this), (1, va_rf x1), (2, .int x2)] [] (f_X9_mostOwed_b62 N k4 this x1 x2 σ) := by
  unfold f_X9_mostOwed_b62
  refine bj_iincU (v := x2 + 1) (lv' := [(2, .int (x2 + 1)), (0, .ref this), (1, va_rf x1)]) dX9_mostOwed_62 2 rfl rfl (by decide) (bh_c1r (bh_c1o (bh_c1i bh_c1n))) rfl ?_
  refine bj_goto (tgt := 4) dX9_mostOwed_65 (by decide) ?_
  refine bj_sub (lv' := [(0, .ref this), (1, va_rf x1), (2, .int (x2 + 1))]) [1, 2, 0] rfl ?_
  exact hk4 this x1 (x2 + 1) σ
def f_X9_mostOwed_b57 (N : Nat) (k4 : Nat → Option Nat → Int32 → bh_S → Option (Option Nat × bh_S)) (this : Nat) (x2 : Int32) (x3 : Nat) (σ : bh_S) : Option (Option Nat × bh_S) :=
  (bh_rdR σ 7 x3 1).bind fun v1 =>
  f_X9_mostOwed_b62 N k4 this v1 x2 σ
set_option maxHeartbeats 4000000 in
set_option maxRecDepth 100000 in
theorem j_X9_mostOwed_b57 (X : bh_X) (N : Nat) (k4 : Nat → Option Nat → Int32 → bh_S → Option (Option Nat × bh_S)) (hk4 : ∀ (this : Nat) (x1 : Option Nat) (x2 : Int32) (σ : bh_S), bh_J eR yX9_mostOwed cX9_mostOwed wsX9_mostOwed (some (.object "BeetHouse$Farmer")) 4 4 88 X σ 4 [(0, .ref this), (1, va_rf x1), (2, .int x2)] [] (k4 this x1 x2 σ)) (this : Nat) (x2 : Int32) (x3 : Nat) (σ : bh_S) : bh_J eR yX9_mostOwed cX9_mostOwed wsX9_mostOwed (some (.object "BeetHouse$Farmer")) 4 4 88 X σ 57 [(0, .ref this), (2, .int x2), (3, .ref x3)] [] (f_X9_mostOwed_b57 N k4 this x2 x3 σ) := by
  unfold f_X9_mostOwed_b57
  refine bj_aload_nS dX9_mostOwed_57 rfl 2 rfl ?_
  refine bj_getR (ci := 7) (k := 1) (C := RX6) (T := TX6) (N := 14) rfl hi_X9_mostOwed_X6 (by decide) rfl fl_X9_mostOwed_223 (Or.inl rfl) dX9_mostOwed_58 (fun v1 h2 => ?_)
  refine bj_astore_n (lv' := [(1, va_rf v1), (0, .ref this), (2, .int x2), (3, .ref x3)]) (o := v1) dX9_mostOwed_61 rfl (by decide) rfl ?_
  refine bj_sub (lv' := [(0, .ref this), (1, va_rf v1), (2, .int x2)]) [1, 0, 2] rfl ?_
  exact j_X9_mostOwed_b62 X N k4 hk4 this v1 x2 σ
def f_X9_mostOwed_b4 (N : Nat) : Nat → Nat → Option Nat → Int32 → bh_S → Option (Option Nat × bh_S)
  | 0, _, _, _, _ => none
  | n + 1, this, x1, x2, σ =>
    (bh_rdR σ 10 this 1).bind fun v1 =>
    (v1).bind fun a3 =>
    (bh_ck σ a3 0).bind fun _ =>
    bh_bnd (f_Jx4a65c_size_8abf5 a3 σ) fun v6 σ7 =>
    if v6 ≤ x2 then
      some (x1, σ7)
    else
      (bh_rdR σ7 10 this 1).bind fun v10 =>
      (v10).bind fun a12 =>
      (bh_ck σ7 a12 0).bind fun _ =>
      bh_bnd (f_Jx4a65c_get_915e3 a12 x2 σ7) fun v15 σ16 =>
      (bh_cst σ16 7 v15).bind fun _ =>
      (v15).bind fun a18 =>
      (bh_ck σ16 this 10).bind fun _ =>
      bh_bnd (f_X9_hasRootsToSpare N this a18 σ16) fun v21 σ22 =>
      if v21 = 0 then
        f_X9_mostOwed_b62 N (f_X9_mostOwed_b4 N n) this x1 x2 σ22
      else
        bh_cs x1 (
          f_X9_mostOwed_b57 N (f_X9_mostOwed_b4 N n) this x2 a18 σ22
        ) (fun a25 =>
          (bh_rdR σ22 7 a18 1).bind fun v27 =>
          (bh_rdR σ22 10 this 5).bind fun v29 =>
          (v29).bind fun a31 =>
          (bh_rdI σ22 9 a31 3).bind fun v33 =>
          (v27).bind fun a35 =>
          (bh_ck σ22 a35 1).bind fun _ =>
          bh_bnd (f_X0_comesBefore a35 a25 v33 σ22) fun v38 σ39 =>
          if v38 = 0 then
            f_X9_mostOwed_b62 N (f_X9_mostOwed_b4 N n) this (some a25) x2 σ39
          else
            f_X9_mostOwed_b57 N (f_X9_mostOwed_b4 N n) this x2 a18 σ39
        )
set_option maxHeartbeats 4000000 in
set_option maxRecDepth 100000 in
theorem j_X9_mostOwed_b4 (X : bh_X) (N : Nat) : ∀ (n : Nat) (this : Nat) (x1 : Option Nat) (x2 : Int32) (σ : bh_S), bh_J eR yX9_mostOwed cX9_mostOwed wsX9_mostOwed (some (.object "BeetHouse$Farmer")) 4 4 88 X σ 4 [(0, .ref this), (1, va_rf x1), (2, .int x2)] [] (f_X9_mostOwed_b4 N n this x1 x2 σ) := by
  intro n
  induction n with
  | zero => intro this x1 x2 σ; exact bj_none
  | succ n ih =>
    intro this x1 x2 σ
    unfold f_X9_mostOwed_b4
    refine bj_iload_n dX9_mostOwed_4 rfl 2 rfl ?_
    refine bj_aload_nS dX9_mostOwed_5 rfl 0 rfl ?_
    refine bj_getR (ci := 10) (k := 1) (C := RX9) (T := TX9) (N := 12) rfl hi_X9_mostOwed_X9 (by decide) rfl fl_X9_mostOwed_18 (Or.inl rfl) dX9_mostOwed_6 (fun v1 h2 => ?_)
    refine bj_nn (fun a3 h4 => ?_)
    subst h4
    refine bj_op (fun _ h5 => ?_)
    refine bj_callI (br_V (As := []) (rest := [.int x2]) (q := (RJx4a65c, TJx4a65c, 3)) (c_Jx4a65c_size_8abf5 X a3 σ) rfl g_X9_mostOwed_Jx4a65c_size_8abf5_93 rfl (bh_ck_spec h5) ⟨rfl, hd_Jx4a65c_size_8abf5⟩ rfl ⟨by decide, by decide⟩ rfl (Nat.le_of_ble_eq_true rfl) dX9_mostOwed_9) (fun v6 σ7 h8 => ?_)
    refine bj_icmp_ge (tgt := 68) dX9_mostOwed_12 (by decide) (fun h9 => ?_) (fun h9 => ?_)
    · refine bj_aload_n dX9_mostOwed_68 rfl 1 rfl ?_
      exact bj_aret (o := x1) dX9_mostOwed_69 (Or.inl ⟨_, rfl⟩)
    · refine bj_aload_nS dX9_mostOwed_15 rfl 0 rfl ?_
      refine bj_getR (ci := 10) (k := 1) (C := RX9) (T := TX9) (N := 12) rfl hi_X9_mostOwed_X9 (by decide) rfl fl_X9_mostOwed_18 (Or.inl rfl) dX9_mostOwed_16 (fun v10 h11 => ?_)
      refine bj_iload_n dX9_mostOwed_19 rfl 2 rfl ?_
      refine bj_nn (fun a12 h13 => ?_)
      subst h13
      refine bj_op (fun _ h14 => ?_)
      refine bj_callR (br_V (As := [.int x2]) (rest := []) (q := (RJx4a65c, TJx4a65c, 3)) (c_Jx4a65c_get_915e3 X a12 x2 σ7) rfl g_X9_mostOwed_Jx4a65c_get_915e3_172 rfl (bh_ck_spec h14) ⟨rfl, hd_Jx4a65c_get_915e3⟩ rfl ⟨by decide, by decide⟩ rfl (Nat.le_of_ble_eq_true rfl) dX9_mostOwed_20) (fun v15 σ16 h17 => ?_)
      refine bj_cast (ci := 7) (C := RX6) (T := TX6) (N := 14) (o := v15) rfl (List.mem_of_getElem? (i := 2) rfl) dX9_mostOwed_23 ?_
      refine bj_astore_n (lv' := [(3, va_rf v15), (0, .ref this), (1, va_rf x1), (2, .int x2)]) (o := v15) dX9_mostOwed_26 rfl (by decide) rfl ?_
      refine bj_aload_nS dX9_mostOwed_27 rfl 1 rfl ?_
      refine bj_aload_n dX9_mostOwed_28 rfl 0 rfl ?_
      refine bj_nn (fun a18 h19 => ?_)
      subst h19
      refine bj_op (fun _ h20 => ?_)
      refine bj_callI (br_V (As := [.ref a18]) (rest := []) (q := (RX9, TX9, 12)) (c_X9_hasRootsToSpare X N this a18 σ16) rfl g_X9_mostOwed_X9_hasRootsToSpare_274 rfl (bh_ck_spec h20) ⟨rfl, hd_X9_hasRootsToSpare⟩ rfl ⟨by decide, by decide⟩ rfl (Nat.le_of_ble_eq_true rfl) dX9_mostOwed_29) (fun v21 σ22 h23 => ?_)
      refine bj_if_eq (tgt := 62) dX9_mostOwed_32 (by decide) (fun h24 => ?_) (fun h24 => ?_)
      · refine bj_sub (lv' := [(0, .ref this), (1, va_rf x1), (2, .int x2)]) [1, 2, 3] rfl ?_
        exact j_X9_mostOwed_b62 X N (f_X9_mostOwed_b4 N n) ih this x1 x2 σ22
      · refine bj_aload_n dX9_mostOwed_35 rfl 2 rfl ?_
        refine bj_ifnull (o := x1) (tgt := 57) dX9_mostOwed_36 (by decide) (fun h26 => ?_) (fun a25 h26 => ?_)
        · subst h26
          refine bj_sub (lv' := [(0, .ref this), (2, .int x2), (3, .ref a18)]) [1, 3, 0] rfl ?_
          exact j_X9_mostOwed_b57 X N (f_X9_mostOwed_b4 N n) ih this x2 a18 σ22
        · subst h26
          refine bj_aload_nS dX9_mostOwed_39 rfl 0 rfl ?_
          refine bj_getR (ci := 7) (k := 1) (C := RX6) (T := TX6) (N := 14) rfl hi_X9_mostOwed_X6 (by decide) rfl fl_X9_mostOwed_223 (Or.inl rfl) dX9_mostOwed_40 (fun v27 h28 => ?_)
          refine bj_aload_nS dX9_mostOwed_43 rfl 2 rfl ?_
          refine bj_aload_nS dX9_mostOwed_44 rfl 1 rfl ?_
          refine bj_getR (ci := 10) (k := 5) (C := RX9) (T := TX9) (N := 12) rfl hi_X9_mostOwed_X9 (by decide) rfl fl_X9_mostOwed_41 (Or.inl rfl) dX9_mostOwed_45 (fun v29 h30 => ?_)
          refine bj_nn (fun a31 h32 => ?_)
          subst h32
          refine bj_getI (ci := 9) (k := 3) (C := RX8) (T := TX8) (N := 4) rfl hi_X9_mostOwed_X8 (by decide) rfl fl_X9_mostOwed_191 (Or.inl rfl) dX9_mostOwed_48 (fun v33 h34 => ?_)
          refine bj_nn (fun a35 h36 => ?_)
          subst h36
          refine bj_op (fun _ h37 => ?_)
          refine bj_callI (br_VN (As := [.ref a25, .int v33]) (rest := []) (host := "BeetHouse") (q := (RX0, TX0, 4)) (c_X0_comesBefore X a35 a25 v33 σ22) rfl g_X9_mostOwed_X0_comesBefore (List.mem_of_getElem? (i := 63) rfl) (List.mem_of_getElem? (i := 41) rfl) (List.mem_of_getElem? (i := 40) rfl) (List.mem_of_getElem? (i := 42) rfl) rfl (bh_ck_spec h37) hd_X0_comesBefore rfl ⟨by decide, by decide⟩ rfl (Nat.le_of_ble_eq_true rfl) dX9_mostOwed_51) (fun v38 σ39 h40 => ?_)
          refine bj_if_eq (tgt := 62) dX9_mostOwed_54 (by decide) (fun h41 => ?_) (fun h41 => ?_)
          · refine bj_sub (lv' := [(0, .ref this), (1, .ref a25), (2, .int x2)]) [1, 2, 3] rfl ?_
            exact j_X9_mostOwed_b62 X N (f_X9_mostOwed_b4 N n) ih this (some a25) x2 σ39
          · refine bj_sub (lv' := [(0, .ref this), (2, .int x2), (3, .ref a18)]) [1, 3, 0] rfl ?_
            exact j_X9_mostOwed_b57 X N (f_X9_mostOwed_b4 N n) ih this x2 a18 σ39
def f_X9_mostOwed (N : Nat) (this : Nat) (σ : bh_S) : Option (Option Nat × bh_S) :=
  f_X9_mostOwed_b4 N N this none 0 σ
set_option maxHeartbeats 4000000 in
set_option maxRecDepth 100000 in
theorem c_X9_mostOwed (X : bh_X) (N : Nat) (this : Nat) (σ : bh_S) : bh_MX eR X yX9_mostOwed wsX9_mostOwed 4 88 [.ref this] σ (f_X9_mostOwed N this σ) := by
  refine bh_enter (cc := cX9_mostOwed) (NL := 4) (ret := (some (.object "BeetHouse$Farmer"))) (by decide) rfl (Nat.le_of_ble_eq_true rfl) (fun X => ?_)
  show bh_J eR yX9_mostOwed cX9_mostOwed wsX9_mostOwed (some (.object "BeetHouse$Farmer")) 4 4 88 X σ 0 [(0, .ref this)] [] _
  unfold f_X9_mostOwed
  refine bj_null dX9_mostOwed_0 ?_
  refine bj_astore_n (lv' := [(1, va_rf none), (0, .ref this)]) (o := none) dX9_mostOwed_1 rfl (by decide) rfl ?_
  refine bj_iconst (v := 0) dX9_mostOwed_2 (by decide) ?_
  refine bj_istore_nU (lv' := [(2, .int 0), (1, va_rf none), (0, .ref this)]) dX9_mostOwed_3 rfl (by decide) (bh_c1o (bh_c1r bh_c1n)) rfl ?_
  refine bj_sub (lv' := [(0, .ref this), (1, va_rf none), (2, .int 0)]) [2, 1, 0] rfl ?_
  exact j_X9_mostOwed_b4 X N N this none 0 σ
/-! BeetHouse.sweetestOf(LBeetHouse$Farmer;)LBeetHouse$Plot; -/
theorem hi_X9_sweetestOf_X9 : ∀ w ∈ u_ws RX9 TX9 12, w ∈ wsX9_sweetestOf := fun _ h => (List.mem_cons_of_mem _ (List.mem_append_left _ (List.mem_append_left _ (List.mem_append_left _ (List.mem_append_right _ h)))))
set_option maxRecDepth 100000 in
theorem fl_X9_sweetestOf_18 : bh_fl wsX9_sweetestOf yX9_sweetestOf.cls 18 "BeetHouse" "plots" "Ljava/util/ArrayList;" := Or.inl (List.mem_of_getElem? (i := 1) rfl)
set_option maxRecDepth 100000 in
theorem g_X9_sweetestOf_Jx4a65c_size_8abf5_93 : GoodIn wsX9_sweetestOf (wsV yX9_sweetestOf.cls 93 RJx4a65c yJx4a65c_size_8abf5 wsJx4a65c_size_8abf5) := goodIn_r _ [3, 4, 5, 6, 7, 8, 65, 66, 67] rfl (by decide +kernel)
set_option maxRecDepth 100000 in
theorem g_X9_sweetestOf_Jx4a65c_get_915e3_172 : GoodIn wsX9_sweetestOf (wsV yX9_sweetestOf.cls 172 RJx4a65c yJx4a65c_get_915e3 wsJx4a65c_get_915e3) := goodIn_r _ [9, 10, 11, 6, 12, 8, 13, 14, 15, 16, 17, 18, 19, 20, 21, 22, 23, 6, 24, 25, 65, 66, 67] rfl (by decide +kernel)
theorem hi_X9_sweetestOf_X6 : ∀ w ∈ u_ws RX6 TX6 14, w ∈ wsX9_sweetestOf := fun _ h => (List.mem_cons_of_mem _ (List.mem_append_left _ (List.mem_append_left _ (List.mem_append_right _ h))))
set_option maxRecDepth 100000 in
theorem fl_X9_sweetestOf_223 : bh_fl wsX9_sweetestOf yX9_sweetestOf.cls 223 "BeetHouse$Plot" "farmer" "LBeetHouse$Farmer;" := Or.inr ⟨"BeetHouse", List.mem_of_getElem? (i := 22) rfl⟩
set_option maxRecDepth 100000 in
theorem g_X9_sweetestOf_X9_hasRootsToSpare_274 : GoodIn wsX9_sweetestOf (wsV yX9_sweetestOf.cls 274 RX9 yX9_hasRootsToSpare wsX9_hasRootsToSpare) := goodIn_r _ [26, 27, 28, 29, 30, 31, 32, 3, 4, 5, 6, 7, 8, 9, 10, 11, 12, 13, 14, 15, 16, 17, 18, 19, 20, 21, 22, 23, 24, 25, 33, 34, 35, 36, 37, 38, 39, 40, 41, 42, 43, 44, 45, 46, 47, 48, 49, 50, 68, 69, 70, 71, 72, 73, 74, 75, 51, 52, 53, 54, 55, 56, 57, 58, 59, 60, 61, 62, 63, 64, 65, 66, 67] rfl (by decide +kernel)
set_option maxRecDepth 100000 in
theorem fl_X9_sweetestOf_210 : bh_fl wsX9_sweetestOf yX9_sweetestOf.cls 210 "BeetHouse$Plot" "sugar" "I" := Or.inr ⟨"BeetHouse", List.mem_of_getElem? (i := 29) rfl⟩
def f_X9_sweetestOf_b65 (N : Nat) (k4 : Nat → Option Nat → Option Nat → Int32 → bh_S → Option (Option Nat × bh_S)) (this : Nat) (x1 : Option Nat) (x2 : Option Nat) (x3 : Int32) (σ : bh_S) : Option (Option Nat × bh_S) :=
  k4 this x1 x2 (x3 + 1) σ
set_option maxHeartbeats 4000000 in
set_option maxRecDepth 100000 in
theorem j_X9_sweetestOf_b65 (X : bh_X) (N : Nat) (k4 : Nat → Option Nat → Option Nat → Int32 → bh_S → Option (Option Nat × bh_S)) (hk4 : ∀ (this : Nat) (x1 : Option Nat) (x2 : Option Nat) (x3 : Int32) (σ : bh_S), bh_J eR yX9_sweetestOf cX9_sweetestOf wsX9_sweetestOf (some (.object "BeetHouse$Plot")) 5 4 88 X σ 4 [(0, .ref this), (1, va_rf x1), (2, va_rf x2), (3, .int x3)] [] (k4 this x1 x2 x3 σ)) (this : Nat) (x1 : Option Nat) (x2 : Option Nat) (x3 : Int32) (σ : bh_S) : bh_J eR yX9_sweetestOf cX9_sweetestOf wsX9_sweetestOf (some (.object "BeetHouse$Plot")) 5 4 88 X σ 65 [(0, .ref this), (1, va_rf x1), (2, va_rf x2), (3, .int x3)] [] (f_X9_sweetestOf_b65 N k4 this x1 x2 x3 σ) := by
  unfold f_X9_sweetestOf_b65
  refine bj_iincU (v := x3 + 1) (lv' := [(3, .int (x3 + 1)), (0, .ref this), (1, va_rf x1), (2, va_rf x2)]) dX9_sweetestOf_65 3 rfl rfl (by decide) (bh_c1r (bh_c1o (bh_c1o (bh_c1i bh_c1n)))) rfl ?_
  refine bj_goto (tgt := 4) dX9_sweetestOf_68 (by decide) ?_
  refine bj_sub (lv' := [(0, .ref this), (1, va_rf x1), (2, va_rf x2), (3, .int (x3 + 1))]) [1, 2, 3, 0] rfl ?_
  exact hk4 this x1 x2 (x3 + 1) σ
def f_X9_sweetestOf_b62 (N : Nat) (k4 : Nat → Option Nat → Option Nat → Int32 → bh_S → Option (Option Nat × bh_S)) (this : Nat) (x1 : Option Nat) (x3 : Int32) (x4 : Nat) (σ : bh_S) : Option (Option Nat × bh_S) :=
  f_X9_sweetestOf_b65 N k4 this x1 (some x4) x3 σ
set_option maxHeartbeats 4000000 in
set_option maxRecDepth 100000 in
theorem j_X9_sweetestOf_b62 (X : bh_X) (N : Nat) (k4 : Nat → Option Nat → Option Nat → Int32 → bh_S → Option (Option Nat × bh_S)) (hk4 : ∀ (this : Nat) (x1 : Option Nat) (x2 : Option Nat) (x3 : Int32) (σ : bh_S), bh_J eR yX9_sweetestOf cX9_sweetestOf wsX9_sweetestOf (some (.object "BeetHouse$Plot")) 5 4 88 X σ 4 [(0, .ref this), (1, va_rf x1), (2, va_rf x2), (3, .int x3)] [] (k4 this x1 x2 x3 σ)) (this : Nat) (x1 : Option Nat) (x3 : Int32) (x4 : Nat) (σ : bh_S) : bh_J eR yX9_sweetestOf cX9_sweetestOf wsX9_sweetestOf (some (.object "BeetHouse$Plot")) 5 4 88 X σ 62 [(0, .ref this), (1, va_rf x1), (3, .int x3), (4, .ref x4)] [] (f_X9_sweetestOf_b62 N k4 this x1 x3 x4 σ) := by
  unfold f_X9_sweetestOf_b62
  refine bj_aloadS dX9_sweetestOf_62 3 rfl ?_
  refine bj_astore_nU (lv' := [(2, .ref x4), (0, .ref this), (1, va_rf x1), (3, .int x3), (4, .ref x4)]) (o := (some x4)) dX9_sweetestOf_64 rfl (by decide) (bh_c1r (bh_c1o (bh_c1i (bh_c1r bh_c1n)))) rfl ?_
  refine bj_sub (lv' := [(0, .ref this), (1, va_rf x1), (2, .ref x4), (3, .int x3)]) [1, 2, 0, 3] rfl ?_
  exact j_X9_sweetestOf_b65 X N k4 hk4 this x1 (some x4) x3 σ
def f_X9_sweetestOf_b4 (N : Nat) : Nat → Nat → Option Nat → Option Nat → Int32 → bh_S → Option (Option Nat × bh_S)
  | 0, _, _, _, _, _ => none
  | n + 1, this, x1, x2, x3, σ =>
    (bh_rdR σ 10 this 1).bind fun v1 =>
    (v1).bind fun a3 =>
    (bh_ck σ a3 0).bind fun _ =>
    bh_bnd (f_Jx4a65c_size_8abf5 a3 σ) fun v6 σ7 =>
    if v6 ≤ x3 then
      some (x2, σ7)
    else
      (bh_rdR σ7 10 this 1).bind fun v10 =>
      (v10).bind fun a12 =>
      (bh_ck σ7 a12 0).bind fun _ =>
      bh_bnd (f_Jx4a65c_get_915e3 a12 x3 σ7) fun v15 σ16 =>
      (bh_cst σ16 7 v15).bind fun _ =>
      (v15).bind fun a18 =>
      (bh_rdR σ16 7 a18 1).bind fun v20 =>
      if v20 = x1 then
        (bh_ck σ16 this 10).bind fun _ =>
        bh_bnd (f_X9_hasRootsToSpare N this a18 σ16) fun v24 σ25 =>
        if v24 = 0 then
          f_X9_sweetestOf_b65 N (f_X9_sweetestOf_b4 N n) this x1 x2 x3 σ25
        else
          bh_cs x2 (
            f_X9_sweetestOf_b62 N (f_X9_sweetestOf_b4 N n) this x1 x3 a18 σ25
          ) (fun a28 =>
            (bh_rdI σ25 7 a18 7).bind fun v30 =>
            (bh_rdI σ25 7 a28 7).bind fun v32 =>
            if v30 ≤ v32 then
              f_X9_sweetestOf_b65 N (f_X9_sweetestOf_b4 N n) this x1 (some a28) x3 σ25
            else
              f_X9_sweetestOf_b62 N (f_X9_sweetestOf_b4 N n) this x1 x3 a18 σ25
          )
      else
        f_X9_sweetestOf_b65 N (f_X9_sweetestOf_b4 N n) this x1 x2 x3 σ16
set_option maxHeartbeats 4000000 in
set_option maxRecDepth 100000 in
theorem j_X9_sweetestOf_b4 (X : bh_X) (N : Nat) : ∀ (n : Nat) (this : Nat) (x1 : Option Nat) (x2 : Option Nat) (x3 : Int32) (σ : bh_S), bh_J eR yX9_sweetestOf cX9_sweetestOf wsX9_sweetestOf (some (.object "BeetHouse$Plot")) 5 4 88 X σ 4 [(0, .ref this), (1, va_rf x1), (2, va_rf x2), (3, .int x3)] [] (f_X9_sweetestOf_b4 N n this x1 x2 x3 σ) := by
  intro n
  induction n with
  | zero => intro this x1 x2 x3 σ; exact bj_none
  | succ n ih =>
    intro this x1 x2 x3 σ
    unfold f_X9_sweetestOf_b4
    refine bj_iload_n dX9_sweetestOf_4 rfl 3 rfl ?_
    refine bj_aload_nS dX9_sweetestOf_5 rfl 0 rfl ?_
    refine bj_getR (ci := 10) (k := 1) (C := RX9) (T := TX9) (N := 12) rfl hi_X9_sweetestOf_X9 (by decide) rfl fl_X9_sweetestOf_18 (Or.inl rfl) dX9_sweetestOf_6 (fun v1 h2 => ?_)
    refine bj_nn (fun a3 h4 => ?_)
    subst h4
    refine bj_op (fun _ h5 => ?_)
    refine bj_callI (br_V (As := []) (rest := [.int x3]) (q := (RJx4a65c, TJx4a65c, 3)) (c_Jx4a65c_size_8abf5 X a3 σ) rfl g_X9_sweetestOf_Jx4a65c_size_8abf5_93 rfl (bh_ck_spec h5) ⟨rfl, hd_Jx4a65c_size_8abf5⟩ rfl ⟨by decide, by decide⟩ rfl (Nat.le_of_ble_eq_true rfl) dX9_sweetestOf_9) (fun v6 σ7 h8 => ?_)
    refine bj_icmp_ge (tgt := 71) dX9_sweetestOf_12 (by decide) (fun h9 => ?_) (fun h9 => ?_)
    · refine bj_aload_n dX9_sweetestOf_71 rfl 2 rfl ?_
      exact bj_aret (o := x2) dX9_sweetestOf_72 (Or.inl ⟨_, rfl⟩)
    · refine bj_aload_nS dX9_sweetestOf_15 rfl 0 rfl ?_
      refine bj_getR (ci := 10) (k := 1) (C := RX9) (T := TX9) (N := 12) rfl hi_X9_sweetestOf_X9 (by decide) rfl fl_X9_sweetestOf_18 (Or.inl rfl) dX9_sweetestOf_16 (fun v10 h11 => ?_)
      refine bj_iload_n dX9_sweetestOf_19 rfl 3 rfl ?_
      refine bj_nn (fun a12 h13 => ?_)
      subst h13
      refine bj_op (fun _ h14 => ?_)
      refine bj_callR (br_V (As := [.int x3]) (rest := []) (q := (RJx4a65c, TJx4a65c, 3)) (c_Jx4a65c_get_915e3 X a12 x3 σ7) rfl g_X9_sweetestOf_Jx4a65c_get_915e3_172 rfl (bh_ck_spec h14) ⟨rfl, hd_Jx4a65c_get_915e3⟩ rfl ⟨by decide, by decide⟩ rfl (Nat.le_of_ble_eq_true rfl) dX9_sweetestOf_20) (fun v15 σ16 h17 => ?_)
      refine bj_cast (ci := 7) (C := RX6) (T := TX6) (N := 14) (o := v15) rfl (List.mem_of_getElem? (i := 2) rfl) dX9_sweetestOf_23 ?_
      refine bj_astore (lv' := [(4, va_rf v15), (0, .ref this), (1, va_rf x1), (2, va_rf x2), (3, .int x3)]) (o := v15) dX9_sweetestOf_26 (by decide) rfl ?_
      refine bj_aload dX9_sweetestOf_28 0 rfl ?_
      refine bj_nn (fun a18 h19 => ?_)
      subst h19
      refine bj_getR (ci := 7) (k := 1) (C := RX6) (T := TX6) (N := 14) rfl hi_X9_sweetestOf_X6 (by decide) rfl fl_X9_sweetestOf_223 (Or.inl rfl) dX9_sweetestOf_30 (fun v20 h21 => ?_)
      refine bj_aload_n dX9_sweetestOf_33 rfl 2 rfl ?_
      refine bj_acmp_ne (rx := v20) (ry := x1) (tgt := 65) dX9_sweetestOf_34 (by decide) (fun h22 => ?_) (fun h22 => ?_)
      · refine bj_sub (lv' := [(0, .ref this), (1, va_rf x1), (2, va_rf x2), (3, .int x3)]) [1, 2, 3, 4] rfl ?_
        exact j_X9_sweetestOf_b65 X N (f_X9_sweetestOf_b4 N n) ih this x1 x2 x3 σ16
      · refine bj_aload_nS dX9_sweetestOf_37 rfl 1 rfl ?_
        refine bj_aloadS dX9_sweetestOf_38 0 rfl ?_
        refine bj_op (fun _ h23 => ?_)
        refine bj_callI (br_V (As := [.ref a18]) (rest := []) (q := (RX9, TX9, 12)) (c_X9_hasRootsToSpare X N this a18 σ16) rfl g_X9_sweetestOf_X9_hasRootsToSpare_274 rfl (bh_ck_spec h23) ⟨rfl, hd_X9_hasRootsToSpare⟩ rfl ⟨by decide, by decide⟩ rfl (Nat.le_of_ble_eq_true rfl) dX9_sweetestOf_40) (fun v24 σ25 h26 => ?_)
        refine bj_if_eq (tgt := 65) dX9_sweetestOf_43 (by decide) (fun h27 => ?_) (fun h27 => ?_)
        · refine bj_sub (lv' := [(0, .ref this), (1, va_rf x1), (2, va_rf x2), (3, .int x3)]) [1, 2, 3, 4] rfl ?_
          exact j_X9_sweetestOf_b65 X N (f_X9_sweetestOf_b4 N n) ih this x1 x2 x3 σ25
        · refine bj_aload_n dX9_sweetestOf_46 rfl 3 rfl ?_
          refine bj_ifnull (o := x2) (tgt := 62) dX9_sweetestOf_47 (by decide) (fun h29 => ?_) (fun a28 h29 => ?_)
          · subst h29
            refine bj_sub (lv' := [(0, .ref this), (1, va_rf x1), (3, .int x3), (4, .ref a18)]) [1, 2, 4, 0] rfl ?_
            exact j_X9_sweetestOf_b62 X N (f_X9_sweetestOf_b4 N n) ih this x1 x3 a18 σ25
          · subst h29
            refine bj_aloadS dX9_sweetestOf_50 0 rfl ?_
            refine bj_getI (ci := 7) (k := 7) (C := RX6) (T := TX6) (N := 14) rfl hi_X9_sweetestOf_X6 (by decide) rfl fl_X9_sweetestOf_210 (Or.inl rfl) dX9_sweetestOf_52 (fun v30 h31 => ?_)
            refine bj_aload_nS dX9_sweetestOf_55 rfl 3 rfl ?_
            refine bj_getI (ci := 7) (k := 7) (C := RX6) (T := TX6) (N := 14) rfl hi_X9_sweetestOf_X6 (by decide) rfl fl_X9_sweetestOf_210 (Or.inl rfl) dX9_sweetestOf_56 (fun v32 h33 => ?_)
            refine bj_icmp_le (tgt := 65) dX9_sweetestOf_59 (by decide) (fun h34 => ?_) (fun h34 => ?_)
            · refine bj_sub (lv' := [(0, .ref this), (1, va_rf x1), (2, .ref a28), (3, .int x3)]) [1, 2, 3, 4] rfl ?_
              exact j_X9_sweetestOf_b65 X N (f_X9_sweetestOf_b4 N n) ih this x1 (some a28) x3 σ25
            · refine bj_sub (lv' := [(0, .ref this), (1, va_rf x1), (3, .int x3), (4, .ref a18)]) [1, 2, 4, 0] rfl ?_
              exact j_X9_sweetestOf_b62 X N (f_X9_sweetestOf_b4 N n) ih this x1 x3 a18 σ25
def f_X9_sweetestOf (N : Nat) (this : Nat) (p1 : Option Nat) (σ : bh_S) : Option (Option Nat × bh_S) :=
  f_X9_sweetestOf_b4 N N this p1 none 0 σ
set_option maxHeartbeats 4000000 in
set_option maxRecDepth 100000 in
theorem c_X9_sweetestOf (X : bh_X) (N : Nat) (this : Nat) (p1 : Option Nat) (σ : bh_S) : bh_MX eR X yX9_sweetestOf wsX9_sweetestOf 4 88 [.ref this, va_rf p1] σ (f_X9_sweetestOf N this p1 σ) := by
  refine bh_enter (cc := cX9_sweetestOf) (NL := 5) (ret := (some (.object "BeetHouse$Plot"))) (by decide) rfl (by cases p1 <;> exact Nat.le_of_ble_eq_true rfl) (fun X => ?_)
  show bh_J eR yX9_sweetestOf cX9_sweetestOf wsX9_sweetestOf (some (.object "BeetHouse$Plot")) 5 4 88 X σ 0 [(0, .ref this), (1, va_rf p1)] [] _
  unfold f_X9_sweetestOf
  refine bj_null dX9_sweetestOf_0 ?_
  refine bj_astore_nU (lv' := [(2, va_rf none), (0, .ref this), (1, va_rf p1)]) (o := none) dX9_sweetestOf_1 rfl (by decide) (bh_c1r (bh_c1o bh_c1n)) rfl ?_
  refine bj_iconst (v := 0) dX9_sweetestOf_2 (by decide) ?_
  refine bj_istore_nU (lv' := [(3, .int 0), (2, va_rf none), (0, .ref this), (1, va_rf p1)]) dX9_sweetestOf_3 rfl (by decide) (bh_c1o (bh_c1r (bh_c1o bh_c1n))) rfl ?_
  refine bj_sub (lv' := [(0, .ref this), (1, va_rf p1), (2, va_rf none), (3, .int 0)]) [2, 3, 1, 0] rfl ?_
  exact j_X9_sweetestOf_b4 X N N this p1 none 0 σ
/-! BeetHouse.turn()I -/
set_option maxRecDepth 100000 in
theorem g_X9_turn_X9_firstHome_134 : GoodIn wsX9_turn (wsV yX9_turn.cls 134 RX9 yX9_firstHome wsX9_firstHome) := goodIn_r _ [2, 3, 4, 5, 6, 7, 8, 9, 10, 11, 12, 13, 14, 15, 16, 17, 18, 19, 20, 21, 22, 23, 24, 25, 26, 27, 28, 29, 30, 31, 73, 74, 75, 76, 77, 78, 79, 80, 81, 82, 83, 84, 99, 100, 101, 102, 103, 104, 105, 106, 107, 108, 109] rfl (by decide +kernel)
set_option maxRecDepth 100000 in
theorem g_X9_turn_X9_refuse_82 : GoodIn wsX9_turn (wsV yX9_turn.cls 82 RX9 yX9_refuse wsX9_refuse) := goodIn_r _ [32, 33, 34, 5, 35, 36, 73, 74, 75, 76, 77, 78, 79, 80, 81, 82, 83, 84] rfl (by decide +kernel)
set_option maxRecDepth 100000 in
theorem g_X9_turn_X9_mostOwed_138 : GoodIn wsX9_turn (wsV yX9_turn.cls 138 RX9 yX9_mostOwed wsX9_mostOwed) := goodIn_r _ [37, 38, 39, 5, 40, 41, 42, 43, 9, 10, 11, 12, 13, 14, 15, 16, 17, 18, 19, 20, 21, 22, 23, 24, 25, 26, 27, 28, 29, 30, 31, 44, 45, 46, 5, 47, 7, 8, 48, 49, 50, 51, 52, 53, 54, 55, 56, 57, 58, 59, 60, 61, 62, 63, 64, 73, 74, 75, 76, 77, 78, 79, 80, 81, 82, 83, 84, 85, 86, 87, 88, 89, 90, 91, 92, 93, 94, 95, 96, 97, 98, 110, 111, 112, 113, 107, 108, 109, 99, 100, 101, 102, 103, 104, 105, 106, 114, 115, 116, 117] rfl (by decide +kernel)
set_option maxRecDepth 100000 in
theorem g_X9_turn_X9_sweetestOf_142 : GoodIn wsX9_turn (wsV yX9_turn.cls 142 RX9 yX9_sweetestOf wsX9_sweetestOf) := goodIn_r _ [65, 66, 67, 5, 68, 41, 42, 9, 10, 11, 12, 13, 14, 15, 16, 17, 18, 19, 20, 21, 22, 23, 24, 25, 26, 27, 28, 29, 30, 31, 44, 45, 46, 5, 47, 7, 8, 48, 49, 50, 51, 52, 53, 73, 74, 75, 76, 77, 78, 79, 80, 81, 82, 83, 84, 85, 86, 87, 88, 89, 90, 91, 92, 93, 94, 95, 96, 97, 98, 107, 108, 109, 99, 100, 101, 102, 103, 104, 105, 106] rfl (by decide +kernel)
theorem hi_X9_turn_X9 : ∀ w ∈ u_ws RX9 TX9 12, w ∈ wsX9_turn := fun _ h => (List.mem_cons_of_mem _ (List.mem_append_left _ (List.mem_append_left _ (List.mem_append_left _ (List.mem_append_left _ (List.mem_append_left _ (List.mem_append_right _ h)))))))
set_option maxRecDepth 100000 in
theorem fl_X9_turn_70 : bh_fl wsX9_turn yX9_turn.cls 70 "BeetHouse" "hour" "I" := Or.inl (List.mem_of_getElem? (i := 1) rfl)
set_option maxRecDepth 100000 in
theorem g_X9_turn_X3_setOut : GoodIn wsX9_turn wsX3_setOut := goodIn_r _ [71, 52, 53, 72, 99, 100, 101, 102, 103, 104, 105, 106, 85, 86, 87, 88, 89, 90, 91, 92, 93, 94, 95, 96, 97, 98] rfl (by decide +kernel)
theorem hi_X9_turn_X6 : ∀ w ∈ u_ws RX6 TX6 14, w ∈ wsX9_turn := fun _ h => (List.mem_cons_of_mem _ (List.mem_append_left _ (List.mem_append_left _ (List.mem_append_left _ (List.mem_append_left _ (List.mem_append_right _ h))))))
set_option maxRecDepth 100000 in
theorem fl_X9_turn_146 : bh_fl wsX9_turn yX9_turn.cls 146 "BeetHouse$Plot" "number" "I" := Or.inr ⟨"BeetHouse", List.mem_of_getElem? (i := 20) rfl⟩
def f_X9_turn (N : Nat) (this : Nat) (σ : bh_S) : Option (Int32 × bh_S) :=
  (bh_ck σ this 10).bind fun _ =>
  bh_bnd (f_X9_firstHome N this σ) fun v2 σ3 =>
  bh_cs v2 (
    (bh_ck σ3 this 10).bind fun _ =>
    bh_bnd (f_X9_refuse this (-3) σ3) fun v8 σ9 =>
    some (v8, σ9)
  ) (fun a5 =>
    (bh_ck σ3 this 10).bind fun _ =>
    bh_bnd (f_X9_mostOwed N this σ3) fun v12 σ13 =>
    (bh_ck σ13 this 10).bind fun _ =>
    bh_bnd (f_X9_sweetestOf N this v12 σ13) fun v16 σ17 =>
    bh_cs v16 (
      some ((-9), σ17)
    ) (fun a19 =>
      (bh_rdI σ17 10 this 11).bind fun v21 =>
      (bh_ck σ17 a5 4).bind fun _ =>
      bh_bnd (f_X3_setOut a5 a19 v21 σ17) fun v24 σ25 =>
      (bh_rdI σ25 7 a19 0).bind fun v27 =>
      some (v27, σ25)
    )
  )
set_option maxHeartbeats 4000000 in
set_option maxRecDepth 100000 in
theorem c_X9_turn (X : bh_X) (N : Nat) (this : Nat) (σ : bh_S) : bh_MX eI X yX9_turn wsX9_turn 5 112 [.ref this] σ (f_X9_turn N this σ) := by
  refine bh_enter (cc := cX9_turn) (NL := 3) (ret := (some .int)) (by decide) rfl (Nat.le_of_ble_eq_true rfl) (fun X => ?_)
  show bh_J eI yX9_turn cX9_turn wsX9_turn (some .int) 3 5 112 X σ 0 [(0, .ref this)] [] _
  unfold f_X9_turn
  refine bj_aload_nS dX9_turn_0 rfl 0 rfl ?_
  refine bj_op (fun _ h1 => ?_)
  refine bj_callR (br_V (As := []) (rest := []) (q := (RX9, TX9, 12)) (c_X9_firstHome X N this σ) rfl g_X9_turn_X9_firstHome_134 rfl (bh_ck_spec h1) ⟨rfl, hd_X9_firstHome⟩ rfl ⟨by decide, by decide⟩ rfl (Nat.le_of_ble_eq_true rfl) dX9_turn_1) (fun v2 σ3 h4 => ?_)
  refine bj_astore_n (lv' := [(1, va_rf v2), (0, .ref this)]) (o := v2) dX9_turn_4 rfl (by decide) rfl ?_
  refine bj_aload_n dX9_turn_5 rfl 0 rfl ?_
  refine bj_ifnonnull (o := v2) (tgt := 16) dX9_turn_6 (by decide) (fun h6 => ?_) (fun a5 h6 => ?_)
  · subst h6
    refine bj_aload_nS dX9_turn_9 rfl 1 rfl ?_
    refine bj_bipush (v := (-3)) dX9_turn_10 (by decide) ?_
    refine bj_op (fun _ h7 => ?_)
    refine bj_callI (br_V (As := [.int (-3)]) (rest := []) (q := (RX9, TX9, 12)) (c_X9_refuse X this (-3) σ3) rfl g_X9_turn_X9_refuse_82 rfl (bh_ck_spec h7) ⟨rfl, hd_X9_refuse⟩ rfl ⟨by decide, by decide⟩ rfl (Nat.le_of_ble_eq_true rfl) dX9_turn_12) (fun v8 σ9 h10 => ?_)
    exact bj_iret dX9_turn_15
  · subst h6
    refine bj_aload_nS dX9_turn_16 rfl 1 rfl ?_
    refine bj_aload_nS dX9_turn_17 rfl 1 rfl ?_
    refine bj_op (fun _ h11 => ?_)
    refine bj_callR (br_V (As := []) (rest := [.ref this]) (q := (RX9, TX9, 12)) (c_X9_mostOwed X N this σ3) rfl g_X9_turn_X9_mostOwed_138 rfl (bh_ck_spec h11) ⟨rfl, hd_X9_mostOwed⟩ rfl ⟨by decide, by decide⟩ rfl (Nat.le_of_ble_eq_true rfl) dX9_turn_18) (fun v12 σ13 h14 => ?_)
    refine bj_op (fun _ h15 => ?_)
    refine bj_callR (br_V (As := [va_rf v12]) (rest := []) (q := (RX9, TX9, 12)) (c_X9_sweetestOf X N this v12 σ13) rfl g_X9_turn_X9_sweetestOf_142 rfl (bh_ck_spec h15) ⟨rfl, hd_X9_sweetestOf⟩ rfl ⟨by decide, by decide⟩ rfl (Nat.le_of_ble_eq_true rfl) dX9_turn_21) (fun v16 σ17 h18 => ?_)
    refine bj_astore_n (lv' := [(2, va_rf v16), (1, .ref a5), (0, .ref this)]) (o := v16) dX9_turn_24 rfl (by decide) rfl ?_
    refine bj_aload_n dX9_turn_25 rfl 0 rfl ?_
    refine bj_ifnonnull (o := v16) (tgt := 32) dX9_turn_26 (by decide) (fun h20 => ?_) (fun a19 h20 => ?_)
    · subst h20
      refine bj_bipush (v := (-9)) dX9_turn_29 (by decide) ?_
      exact bj_iret dX9_turn_31
    · subst h20
      refine bj_aload_nS dX9_turn_32 rfl 1 rfl ?_
      refine bj_aload_nS dX9_turn_33 rfl 0 rfl ?_
      refine bj_aload_nS dX9_turn_34 rfl 2 rfl ?_
      refine bj_getI (ci := 10) (k := 11) (C := RX9) (T := TX9) (N := 12) rfl hi_X9_turn_X9 (by decide) rfl fl_X9_turn_70 (Or.inl rfl) dX9_turn_35 (fun v21 h22 => ?_)
      refine bj_op (fun _ h23 => ?_)
      refine bj_callU (br_VN (As := [.ref a19, .int v21]) (rest := []) (host := "BeetHouse") (q := (RX3, TX3, 8)) (c_X3_setOut X a5 a19 v21 σ17) rfl g_X9_turn_X3_setOut (List.mem_of_getElem? (i := 61) rfl) (List.mem_of_getElem? (i := 49) rfl) (List.mem_of_getElem? (i := 69) rfl) (List.mem_of_getElem? (i := 70) rfl) rfl (bh_ck_spec h23) hd_X3_setOut rfl ⟨by decide, by decide⟩ rfl (Nat.le_of_ble_eq_true rfl) dX9_turn_38) (fun v24 σ25 h26 => ?_)
      refine bj_aload_nS dX9_turn_41 rfl 0 rfl ?_
      refine bj_getI (ci := 7) (k := 0) (C := RX6) (T := TX6) (N := 14) rfl hi_X9_turn_X6 (by decide) rfl fl_X9_turn_146 (Or.inl rfl) dX9_turn_42 (fun v27 h28 => ?_)
      exact bj_iret dX9_turn_45
/-! BeetHouse.works(II)I -/
set_option maxRecDepth 100000 in
theorem g_X9_works_X9_refuse_82 : GoodIn wsX9_works (wsV yX9_works.cls 82 RX9 yX9_refuse wsX9_refuse) := goodIn_r _ [3, 4, 5, 6, 7, 8, 12, 13, 14, 15, 16, 17, 18, 19, 20, 21, 22, 23] rfl (by decide +kernel)
set_option maxRecDepth 100000 in
theorem g_X9_works_X9_outside_86 : GoodIn wsX9_works (va_wsS yX9_works.cls 86 yX9_outside wsX9_outside) := goodIn_r _ [9, 10, 6, 11] rfl (by decide +kernel)
theorem hi_X9_works_X9 : ∀ w ∈ u_ws RX9 TX9 12, w ∈ wsX9_works := fun _ h => (List.mem_cons_of_mem _ (List.mem_append_left _ (List.mem_append_left _ (List.mem_append_right _ h))))
set_option maxRecDepth 100000 in
theorem fl_X9_works_48 : bh_fl wsX9_works yX9_works.cls 48 "BeetHouse" "mill" "LBeetHouse$Mill;" := Or.inl (List.mem_of_getElem? (i := 2) rfl)
theorem hi_X9_works_X4 : ∀ w ∈ u_ws RX4 TX4 5, w ∈ wsX9_works := fun _ h => (List.mem_cons_of_mem _ (List.mem_append_right _ h))
set_option maxRecDepth 100000 in
theorem fl_X9_works_152 : bh_fl wsX9_works yX9_works.cls 152 "BeetHouse$Mill" "rate" "I" := Or.inr ⟨"BeetHouse", List.mem_of_getElem? (i := 8) rfl⟩
set_option maxRecDepth 100000 in
theorem fl_X9_works_41 : bh_fl wsX9_works yX9_works.cls 41 "BeetHouse" "yard" "LBeetHouse$Yard;" := Or.inl (List.mem_of_getElem? (i := 1) rfl)
theorem hi_X9_works_X8 : ∀ w ∈ u_ws RX8 TX8 4, w ∈ wsX9_works := fun _ h => (List.mem_cons_of_mem _ (List.mem_append_left _ (List.mem_append_right _ h)))
set_option maxRecDepth 100000 in
theorem fl_X9_works_149 : bh_fl wsX9_works yX9_works.cls 149 "BeetHouse$Yard" "room" "I" := Or.inr ⟨"BeetHouse", List.mem_of_getElem? (i := 4) rfl⟩
def f_X9_works_b31 (this : Nat) (x1 : Int32) (x2 : Int32) (t0 : Int32) (t1 : Int32) (t2 : Int32) (σ : bh_S) : Option (Int32 × bh_S) :=
  bh_bnd (f_X9_outside t2 t1 t0 σ) fun v1 σ2 =>
  if v1 = 0 then
    if x1 = 0 then
      (bh_rdR σ2 10 this 5).bind fun v18 =>
      (v18).bind fun a20 =>
      (bh_rdI σ2 9 a20 1).bind fun v22 =>
      (bh_rdR σ2 10 this 5).bind fun v24 =>
      (v24).bind fun a26 =>
      (bh_wrI σ2 9 a26 1 x2).bind fun σ28 =>
      some (v22, σ28)
    else
      (bh_rdR σ2 10 this 6).bind fun v6 =>
      (v6).bind fun a8 =>
      (bh_rdI σ2 5 a8 0).bind fun v10 =>
      (bh_rdR σ2 10 this 6).bind fun v12 =>
      (v12).bind fun a14 =>
      (bh_wrI σ2 5 a14 0 x2).bind fun σ16 =>
      some (v10, σ16)
  else
    (bh_ck σ2 this 10).bind fun _ =>
    bh_bnd (f_X9_refuse this v1 σ2) fun v31 σ32 =>
    some (v31, σ32)
set_option maxHeartbeats 4000000 in
set_option maxRecDepth 100000 in
theorem j_X9_works_b31 (X : bh_X) (this : Nat) (x1 : Int32) (x2 : Int32) (t0 : Int32) (t1 : Int32) (t2 : Int32) (σ : bh_S) : bh_J eI yX9_works cX9_works wsX9_works (some .int) 5 1 22 X σ 31 [(0, .ref this), (1, .int x1), (2, .int x2)] [.int t0, .int t1, .int t2] (f_X9_works_b31 this x1 x2 t0 t1 t2 σ) := by
  unfold f_X9_works_b31
  refine bj_callI (br_S (As := [.int t2, .int t1, .int t0]) (rest := []) (c_X9_outside X t2 t1 t0 σ) rfl g_X9_works_X9_outside_86 hd_X9_outside rfl ⟨by decide, by decide⟩ rfl (Nat.le_of_ble_eq_true rfl) dX9_works_31) (fun v1 σ2 h3 => ?_)
  refine bj_istore_n (lv' := [(3, .int v1), (0, .ref this), (1, .int x1), (2, .int x2)]) dX9_works_34 rfl (by decide) rfl ?_
  refine bj_iload_n dX9_works_35 rfl 0 rfl ?_
  refine bj_if_eq (tgt := 45) dX9_works_36 (by decide) (fun h4 => ?_) (fun h4 => ?_)
  · refine bj_iload_n dX9_works_45 rfl 2 rfl ?_
    refine bj_if_ne (tgt := 69) dX9_works_46 (by decide) (fun h5 => ?_) (fun h5 => ?_)
    · refine bj_aload_nS dX9_works_69 rfl 1 rfl ?_
      refine bj_getR (ci := 10) (k := 6) (C := RX9) (T := TX9) (N := 12) rfl hi_X9_works_X9 (by decide) rfl fl_X9_works_48 (Or.inl rfl) dX9_works_70 (fun v6 h7 => ?_)
      refine bj_nn (fun a8 h9 => ?_)
      subst h9
      refine bj_getI (ci := 5) (k := 0) (C := RX4) (T := TX4) (N := 5) rfl hi_X9_works_X4 (by decide) rfl fl_X9_works_152 (Or.inl rfl) dX9_works_73 (fun v10 h11 => ?_)
      refine bj_istore (lv' := [(4, .int v10), (3, .int v1), (0, .ref this), (1, .int x1), (2, .int x2)]) dX9_works_76 (by decide) rfl ?_
      refine bj_aload_nS dX9_works_78 rfl 2 rfl ?_
      refine bj_getR (ci := 10) (k := 6) (C := RX9) (T := TX9) (N := 12) rfl hi_X9_works_X9 (by decide) rfl fl_X9_works_48 (Or.inl rfl) dX9_works_79 (fun v12 h13 => ?_)
      refine bj_iload_n dX9_works_82 rfl 4 rfl ?_
      refine bj_nn (fun a14 h15 => ?_)
      subst h15
      refine bj_putI (ci := 5) (k := 0) (C := RX4) (T := TX4) (N := 5) rfl hi_X9_works_X4 (by decide) rfl fl_X9_works_152 (Or.inl rfl) tyX4 tyX4_ok nmX4 rfl (Or.inl rfl) dX9_works_83 (fun σ16 h17 => ?_)
      refine bj_iload dX9_works_86 0 rfl ?_
      exact bj_iret dX9_works_88
    · refine bj_aload_nS dX9_works_49 rfl 1 rfl ?_
      refine bj_getR (ci := 10) (k := 5) (C := RX9) (T := TX9) (N := 12) rfl hi_X9_works_X9 (by decide) rfl fl_X9_works_41 (Or.inl rfl) dX9_works_50 (fun v18 h19 => ?_)
      refine bj_nn (fun a20 h21 => ?_)
      subst h21
      refine bj_getI (ci := 9) (k := 1) (C := RX8) (T := TX8) (N := 4) rfl hi_X9_works_X8 (by decide) rfl fl_X9_works_149 (Or.inl rfl) dX9_works_53 (fun v22 h23 => ?_)
      refine bj_istore (lv' := [(4, .int v22), (3, .int v1), (0, .ref this), (1, .int x1), (2, .int x2)]) dX9_works_56 (by decide) rfl ?_
      refine bj_aload_nS dX9_works_58 rfl 2 rfl ?_
      refine bj_getR (ci := 10) (k := 5) (C := RX9) (T := TX9) (N := 12) rfl hi_X9_works_X9 (by decide) rfl fl_X9_works_41 (Or.inl rfl) dX9_works_59 (fun v24 h25 => ?_)
      refine bj_iload_n dX9_works_62 rfl 4 rfl ?_
      refine bj_nn (fun a26 h27 => ?_)
      subst h27
      refine bj_putI (ci := 9) (k := 1) (C := RX8) (T := TX8) (N := 4) rfl hi_X9_works_X8 (by decide) rfl fl_X9_works_149 (Or.inl rfl) tyX8 tyX8_ok nmX8 rfl (Or.inl rfl) dX9_works_63 (fun σ28 h29 => ?_)
      refine bj_goto (tgt := 86) dX9_works_66 (by decide) ?_
      refine bj_iload dX9_works_86 0 rfl ?_
      exact bj_iret dX9_works_88
  · refine bj_aload_nS dX9_works_39 rfl 1 rfl ?_
    refine bj_iload_n dX9_works_40 rfl 0 rfl ?_
    refine bj_op (fun _ h30 => ?_)
    refine bj_callI (br_V (As := [.int v1]) (rest := []) (q := (RX9, TX9, 12)) (c_X9_refuse X this v1 σ2) rfl g_X9_works_X9_refuse_82 rfl (bh_ck_spec h30) ⟨rfl, hd_X9_refuse⟩ rfl ⟨by decide, by decide⟩ rfl (Nat.le_of_ble_eq_true rfl) dX9_works_41) (fun v31 σ32 h33 => ?_)
    exact bj_iret dX9_works_44
def f_X9_works_b16 (this : Nat) (x1 : Int32) (x2 : Int32) (σ : bh_S) : Option (Int32 × bh_S) :=
  if x1 = 0 then
    f_X9_works_b31 this x1 x2 3000 0 x2 σ
  else
    f_X9_works_b31 this x1 x2 300 0 x2 σ
set_option maxHeartbeats 4000000 in
set_option maxRecDepth 100000 in
theorem j_X9_works_b16 (X : bh_X) (this : Nat) (x1 : Int32) (x2 : Int32) (σ : bh_S) : bh_J eI yX9_works cX9_works wsX9_works (some .int) 5 1 22 X σ 16 [(0, .ref this), (1, .int x1), (2, .int x2)] [] (f_X9_works_b16 this x1 x2 σ) := by
  unfold f_X9_works_b16
  refine bj_iload_n dX9_works_16 rfl 2 rfl ?_
  refine bj_iconst (v := 0) dX9_works_17 (by decide) ?_
  refine bj_iload_n dX9_works_18 rfl 1 rfl ?_
  refine bj_if_ne (tgt := 28) dX9_works_19 (by decide) (fun h1 => ?_) (fun h1 => ?_)
  · refine bj_sipush (v := 300) dX9_works_28 (by decide) ?_
    refine bj_sub (lv' := [(0, .ref this), (1, .int x1), (2, .int x2)]) [0, 1, 2] rfl ?_
    exact j_X9_works_b31 X this x1 x2 300 0 x2 σ
  · refine bj_sipush (v := 3000) dX9_works_22 (by decide) ?_
    refine bj_goto (tgt := 31) dX9_works_25 (by decide) ?_
    refine bj_sub (lv' := [(0, .ref this), (1, .int x1), (2, .int x2)]) [0, 1, 2] rfl ?_
    exact j_X9_works_b31 X this x1 x2 3000 0 x2 σ
def f_X9_works (this : Nat) (p1 : Int32) (p2 : Int32) (σ : bh_S) : Option (Int32 × bh_S) :=
  if p1 = 0 then
    f_X9_works_b16 this p1 p2 σ
  else
    if p1 = 1 then
      f_X9_works_b16 this p1 p2 σ
    else
      (bh_ck σ this 10).bind fun _ =>
      bh_bnd (f_X9_refuse this (-2) σ) fun v4 σ5 =>
      some (v4, σ5)
set_option maxHeartbeats 4000000 in
set_option maxRecDepth 100000 in
theorem c_X9_works (X : bh_X) (this : Nat) (p1 : Int32) (p2 : Int32) (σ : bh_S) : bh_MX eI X yX9_works wsX9_works 1 22 [.ref this, .int p1, .int p2] σ (f_X9_works this p1 p2 σ) := by
  refine bh_enter (cc := cX9_works) (NL := 5) (ret := (some .int)) (by decide) rfl (Nat.le_of_ble_eq_true rfl) (fun X => ?_)
  show bh_J eI yX9_works cX9_works wsX9_works (some .int) 5 1 22 X σ 0 [(0, .ref this), (1, .int p1), (2, .int p2)] [] _
  unfold f_X9_works
  refine bj_iload_n dX9_works_0 rfl 1 rfl ?_
  refine bj_if_eq (tgt := 16) dX9_works_1 (by decide) (fun h1 => ?_) (fun h1 => ?_)
  · refine bj_sub (lv' := [(0, .ref this), (1, .int p1), (2, .int p2)]) [0, 1, 2] rfl ?_
    exact j_X9_works_b16 X this p1 p2 σ
  · refine bj_iload_n dX9_works_4 rfl 1 rfl ?_
    refine bj_iconst (v := 1) dX9_works_5 (by decide) ?_
    refine bj_icmp_eq (tgt := 16) dX9_works_6 (by decide) (fun h2 => ?_) (fun h2 => ?_)
    · refine bj_sub (lv' := [(0, .ref this), (1, .int p1), (2, .int p2)]) [0, 1, 2] rfl ?_
      exact j_X9_works_b16 X this p1 p2 σ
    · refine bj_aload_nS dX9_works_9 rfl 0 rfl ?_
      refine bj_bipush (v := (-2)) dX9_works_10 (by decide) ?_
      refine bj_op (fun _ h3 => ?_)
      refine bj_callI (br_V (As := [.int (-2)]) (rest := []) (q := (RX9, TX9, 12)) (c_X9_refuse X this (-2) σ) rfl g_X9_works_X9_refuse_82 rfl (bh_ck_spec h3) ⟨rfl, hd_X9_refuse⟩ rfl ⟨by decide, by decide⟩ rfl (Nat.le_of_ble_eq_true rfl) dX9_works_12) (fun v4 σ5 h6 => ?_)
      exact bj_iret dX9_works_15
/-! BeetHouse.put([IIIII)I -/
set_option maxRecDepth 100000 in
theorem g_X9_put_X9_outside_86 : GoodIn wsX9_put (va_wsS yX9_put.cls 86 yX9_outside wsX9_outside) := goodIn_r _ [7, 8, 4, 9] rfl (by decide +kernel)
set_option maxRecDepth 100000 in
theorem g_X9_put_X9_refuse_82 : GoodIn wsX9_put (wsV yX9_put.cls 82 RX9 yX9_refuse wsX9_refuse) := goodIn_r _ [1, 2, 3, 4, 5, 6, 10, 11, 12, 13, 14, 15, 16, 17, 18, 19, 20, 21] rfl (by decide +kernel)
def f_X9_put_b10 (this : Nat) (x3 : Int32) (σ : bh_S) : Option (Int32 × bh_S) :=
  (bh_ck σ this 10).bind fun _ =>
  bh_bnd (f_X9_refuse this x3 σ) fun v2 σ3 =>
  some (v2, σ3)
set_option maxHeartbeats 4000000 in
set_option maxRecDepth 100000 in
theorem j_X9_put_b10 (X : bh_X) (this : Nat) (x3 : Int32) (σ : bh_S) : bh_J eI yX9_put cX9_put wsX9_put (some .int) 8 1 22 X σ 10 [(0, .ref this), (3, .int x3)] [] (f_X9_put_b10 this x3 σ) := by
  unfold f_X9_put_b10
  refine bj_aload_nS dX9_put_10 rfl 0 rfl ?_
  refine bj_iload_n dX9_put_11 rfl 1 rfl ?_
  refine bj_op (fun _ h1 => ?_)
  refine bj_callI (br_V (As := [.int x3]) (rest := []) (q := (RX9, TX9, 12)) (c_X9_refuse X this x3 σ) rfl g_X9_put_X9_refuse_82 rfl (bh_ck_spec h1) ⟨rfl, hd_X9_refuse⟩ rfl ⟨by decide, by decide⟩ rfl (Nat.le_of_ble_eq_true rfl) dX9_put_12) (fun v2 σ3 h4 => ?_)
  exact bj_iret dX9_put_15
def f_X9_put (this : Nat) (p1 : Nat) (p2 : Int32) (p3 : Int32) (p4 : Int32) (p5 : Int32) (σ : bh_S) : Option (Int32 × bh_S) :=
  if p2 < 0 then
    f_X9_put_b10 this p3 σ
  else
    (bh_len σ 12 p1).bind fun v2 =>
    if p2 < v2 then
      bh_bnd (f_X9_outside p4 0 p5 σ) fun v5 σ6 =>
      if v5 = 0 then
        (bh_ldI σ6 12 p1 p2).bind fun v9 =>
        (bh_stI σ6 12 p1 p2 p4).bind fun σ11 =>
        some (v9, σ11)
      else
        (bh_ck σ6 this 10).bind fun _ =>
        bh_bnd (f_X9_refuse this v5 σ6) fun v14 σ15 =>
        some (v14, σ15)
    else
      f_X9_put_b10 this p3 σ
set_option maxHeartbeats 4000000 in
set_option maxRecDepth 100000 in
theorem c_X9_put (X : bh_X) (this : Nat) (p1 : Nat) (p2 : Int32) (p3 : Int32) (p4 : Int32) (p5 : Int32) (σ : bh_S) : bh_MX eI X yX9_put wsX9_put 1 22 [.ref this, .ref p1, .int p2, .int p3, .int p4, .int p5] σ (f_X9_put this p1 p2 p3 p4 p5 σ) := by
  refine bh_enter (cc := cX9_put) (NL := 8) (ret := (some .int)) (by decide) rfl (Nat.le_of_ble_eq_true rfl) (fun X => ?_)
  show bh_J eI yX9_put cX9_put wsX9_put (some .int) 8 1 22 X σ 0 [(0, .ref this), (1, .ref p1), (2, .int p2), (3, .int p3), (4, .int p4), (5, .int p5)] [] _
  unfold f_X9_put
  refine bj_iload_n dX9_put_0 rfl 2 rfl ?_
  refine bj_if_lt (tgt := 10) dX9_put_1 (by decide) (fun h1 => ?_) (fun h1 => ?_)
  · refine bj_sub (lv' := [(0, .ref this), (3, .int p3)]) [0, 3] rfl ?_
    exact j_X9_put_b10 X this p3 σ
  · refine bj_iload_n dX9_put_4 rfl 2 rfl ?_
    refine bj_aload_nS dX9_put_5 rfl 1 rfl ?_
    refine bj_alen (ci := 12) (by decide) dX9_put_6 (fun v2 h3 => ?_)
    refine bj_icmp_lt (tgt := 16) dX9_put_7 (by decide) (fun h4 => ?_) (fun h4 => ?_)
    · refine bj_iload dX9_put_16 4 rfl ?_
      refine bj_iconst (v := 0) dX9_put_18 (by decide) ?_
      refine bj_iload dX9_put_19 5 rfl ?_
      refine bj_callI (br_S (As := [.int p4, .int 0, .int p5]) (rest := []) (c_X9_outside X p4 0 p5 σ) rfl g_X9_put_X9_outside_86 hd_X9_outside rfl ⟨by decide, by decide⟩ rfl (Nat.le_of_ble_eq_true rfl) dX9_put_21) (fun v5 σ6 h7 => ?_)
      refine bj_istore (lv' := [(6, .int v5), (0, .ref this), (1, .ref p1), (2, .int p2), (3, .int p3), (4, .int p4), (5, .int p5)]) dX9_put_24 (by decide) rfl ?_
      refine bj_iload dX9_put_26 0 rfl ?_
      refine bj_if_eq (tgt := 38) dX9_put_28 (by decide) (fun h8 => ?_) (fun h8 => ?_)
      · refine bj_aload_nS dX9_put_38 rfl 2 rfl ?_
        refine bj_iload_n dX9_put_39 rfl 3 rfl ?_
        refine bj_iald dX9_put_40 (fun v9 h10 => ?_)
        refine bj_istore (lv' := [(7, .int v9), (6, .int v5), (0, .ref this), (1, .ref p1), (2, .int p2), (3, .int p3), (4, .int p4), (5, .int p5)]) dX9_put_41 (by decide) rfl ?_
        refine bj_aload_nS dX9_put_43 rfl 3 rfl ?_
        refine bj_iload_n dX9_put_44 rfl 4 rfl ?_
        refine bj_iload dX9_put_45 6 rfl ?_
        refine bj_iast dX9_put_47 (fun σ11 h12 => ?_)
        refine bj_iload dX9_put_48 0 rfl ?_
        exact bj_iret dX9_put_50
      · refine bj_aload_nS dX9_put_31 rfl 1 rfl ?_
        refine bj_iload dX9_put_32 0 rfl ?_
        refine bj_op (fun _ h13 => ?_)
        refine bj_callI (br_V (As := [.int v5]) (rest := []) (q := (RX9, TX9, 12)) (c_X9_refuse X this v5 σ6) rfl g_X9_put_X9_refuse_82 rfl (bh_ck_spec h13) ⟨rfl, hd_X9_refuse⟩ rfl ⟨by decide, by decide⟩ rfl (Nat.le_of_ble_eq_true rfl) dX9_put_34) (fun v14 σ15 h16 => ?_)
        exact bj_iret dX9_put_37
    · refine bj_sub (lv' := [(0, .ref this), (3, .int p3)]) [0, 3] rfl ?_
      exact j_X9_put_b10 X this p3 σ
/-! BeetHouse.table(II)I -/
theorem hi_X9_table_X9 : ∀ w ∈ u_ws RX9 TX9 12, w ∈ wsX9_table := fun _ h => (List.mem_cons_of_mem _ (List.mem_append_left _ (List.mem_append_right _ h)))
set_option maxRecDepth 100000 in
theorem fl_X9_table_34 : bh_fl wsX9_table yX9_table.cls 34 "BeetHouse" "weather" "LBeetHouse$Weather;" := Or.inl (List.mem_of_getElem? (i := 1) rfl)
theorem hi_X9_table_X7 : ∀ w ∈ u_ws RX7 TX7 2, w ∈ wsX9_table := fun _ h => (List.mem_cons_of_mem _ (List.mem_append_right _ h))
set_option maxRecDepth 100000 in
theorem fl_X9_table_153 : bh_fl wsX9_table yX9_table.cls 153 "BeetHouse$Weather" "numbers" "[I" := Or.inr ⟨"BeetHouse", List.mem_of_getElem? (i := 1) rfl⟩
set_option maxRecDepth 100000 in
theorem g_X9_table_X9_put_156 : GoodIn wsX9_table (wsV yX9_table.cls 156 RX9 yX9_put wsX9_put) := goodIn_r _ [2, 3, 4, 5, 6, 7, 8, 9, 5, 10, 11, 12, 13, 14, 15, 16, 17, 18, 19, 20, 21, 22, 23, 24, 25, 26] rfl (by decide +kernel)
def f_X9_table (this : Nat) (p1 : Int32) (p2 : Int32) (σ : bh_S) : Option (Int32 × bh_S) :=
  (bh_rdR σ 10 this 4).bind fun v1 =>
  (v1).bind fun a3 =>
  (bh_rdR σ 8 a3 1).bind fun v5 =>
  (v5).bind fun a7 =>
  (bh_ck σ this 10).bind fun _ =>
  bh_bnd (f_X9_put this a7 p1 (-2) p2 100 σ) fun v10 σ11 =>
  some (v10, σ11)
set_option maxHeartbeats 4000000 in
set_option maxRecDepth 100000 in
theorem c_X9_table (X : bh_X) (this : Nat) (p1 : Int32) (p2 : Int32) (σ : bh_S) : bh_MX eI X yX9_table wsX9_table 2 49 [.ref this, .int p1, .int p2] σ (f_X9_table this p1 p2 σ) := by
  refine bh_enter (cc := cX9_table) (NL := 3) (ret := (some .int)) (by decide) rfl (Nat.le_of_ble_eq_true rfl) (fun X => ?_)
  show bh_J eI yX9_table cX9_table wsX9_table (some .int) 3 2 49 X σ 0 [(0, .ref this), (1, .int p1), (2, .int p2)] [] _
  unfold f_X9_table
  refine bj_aload_nS dX9_table_0 rfl 0 rfl ?_
  refine bj_aload_nS dX9_table_1 rfl 0 rfl ?_
  refine bj_getR (ci := 10) (k := 4) (C := RX9) (T := TX9) (N := 12) rfl hi_X9_table_X9 (by decide) rfl fl_X9_table_34 (Or.inl rfl) dX9_table_2 (fun v1 h2 => ?_)
  refine bj_nn (fun a3 h4 => ?_)
  subst h4
  refine bj_getR (ci := 8) (k := 1) (C := RX7) (T := TX7) (N := 2) rfl hi_X9_table_X7 (by decide) rfl fl_X9_table_153 (Or.inl rfl) dX9_table_5 (fun v5 h6 => ?_)
  refine bj_iload_n dX9_table_8 rfl 1 rfl ?_
  refine bj_bipush (v := (-2)) dX9_table_9 (by decide) ?_
  refine bj_iload_n dX9_table_11 rfl 2 rfl ?_
  refine bj_bipush (v := 100) dX9_table_12 (by decide) ?_
  refine bj_nn (fun a7 h8 => ?_)
  subst h8
  refine bj_op (fun _ h9 => ?_)
  refine bj_callI (br_V (As := [.ref a7, .int p1, .int (-2), .int p2, .int 100]) (rest := []) (q := (RX9, TX9, 12)) (c_X9_put X this a7 p1 (-2) p2 100 σ) rfl g_X9_table_X9_put_156 rfl (bh_ck_spec h9) ⟨rfl, hd_X9_put⟩ rfl ⟨by decide, by decide⟩ rfl (Nat.le_of_ble_eq_true rfl) dX9_table_14) (fun v10 σ11 h12 => ?_)
  exact bj_iret dX9_table_17
/-! BeetHouse.warmth(II)I -/
theorem hi_X9_warmth_X9 : ∀ w ∈ u_ws RX9 TX9 12, w ∈ wsX9_warmth := fun _ h => (List.mem_cons_of_mem _ (List.mem_append_left _ (List.mem_append_right _ h)))
set_option maxRecDepth 100000 in
theorem fl_X9_warmth_34 : bh_fl wsX9_warmth yX9_warmth.cls 34 "BeetHouse" "weather" "LBeetHouse$Weather;" := Or.inl (List.mem_of_getElem? (i := 1) rfl)
theorem hi_X9_warmth_X7 : ∀ w ∈ u_ws RX7 TX7 2, w ∈ wsX9_warmth := fun _ h => (List.mem_cons_of_mem _ (List.mem_append_right _ h))
set_option maxRecDepth 100000 in
theorem fl_X9_warmth_160 : bh_fl wsX9_warmth yX9_warmth.cls 160 "BeetHouse$Weather" "warmths" "[I" := Or.inr ⟨"BeetHouse", List.mem_of_getElem? (i := 0) rfl⟩
set_option maxRecDepth 100000 in
theorem g_X9_warmth_X9_put_156 : GoodIn wsX9_warmth (wsV yX9_warmth.cls 156 RX9 yX9_put wsX9_put) := goodIn_r _ [2, 3, 4, 5, 6, 7, 8, 9, 5, 10, 11, 12, 13, 14, 15, 16, 17, 18, 19, 20, 21, 22, 23, 24, 25, 26] rfl (by decide +kernel)
def f_X9_warmth (this : Nat) (p1 : Int32) (p2 : Int32) (σ : bh_S) : Option (Int32 × bh_S) :=
  (bh_rdR σ 10 this 4).bind fun v1 =>
  (v1).bind fun a3 =>
  (bh_rdR σ 8 a3 0).bind fun v5 =>
  (v5).bind fun a7 =>
  (bh_ck σ this 10).bind fun _ =>
  bh_bnd (f_X9_put this a7 p1 (-1) p2 9 σ) fun v10 σ11 =>
  some (v10, σ11)
set_option maxHeartbeats 4000000 in
set_option maxRecDepth 100000 in
theorem c_X9_warmth (X : bh_X) (this : Nat) (p1 : Int32) (p2 : Int32) (σ : bh_S) : bh_MX eI X yX9_warmth wsX9_warmth 2 49 [.ref this, .int p1, .int p2] σ (f_X9_warmth this p1 p2 σ) := by
  refine bh_enter (cc := cX9_warmth) (NL := 3) (ret := (some .int)) (by decide) rfl (Nat.le_of_ble_eq_true rfl) (fun X => ?_)
  show bh_J eI yX9_warmth cX9_warmth wsX9_warmth (some .int) 3 2 49 X σ 0 [(0, .ref this), (1, .int p1), (2, .int p2)] [] _
  unfold f_X9_warmth
  refine bj_aload_nS dX9_warmth_0 rfl 0 rfl ?_
  refine bj_aload_nS dX9_warmth_1 rfl 0 rfl ?_
  refine bj_getR (ci := 10) (k := 4) (C := RX9) (T := TX9) (N := 12) rfl hi_X9_warmth_X9 (by decide) rfl fl_X9_warmth_34 (Or.inl rfl) dX9_warmth_2 (fun v1 h2 => ?_)
  refine bj_nn (fun a3 h4 => ?_)
  subst h4
  refine bj_getR (ci := 8) (k := 0) (C := RX7) (T := TX7) (N := 2) rfl hi_X9_warmth_X7 (by decide) rfl fl_X9_warmth_160 (Or.inl rfl) dX9_warmth_5 (fun v5 h6 => ?_)
  refine bj_iload_n dX9_warmth_8 rfl 1 rfl ?_
  refine bj_iconst (v := (-1)) dX9_warmth_9 (by decide) ?_
  refine bj_iload_n dX9_warmth_10 rfl 2 rfl ?_
  refine bj_bipush (v := 9) dX9_warmth_11 (by decide) ?_
  refine bj_nn (fun a7 h8 => ?_)
  subst h8
  refine bj_op (fun _ h9 => ?_)
  refine bj_callI (br_V (As := [.ref a7, .int p1, .int (-1), .int p2, .int 9]) (rest := []) (q := (RX9, TX9, 12)) (c_X9_put X this a7 p1 (-1) p2 9 σ) rfl g_X9_warmth_X9_put_156 rfl (bh_ck_spec h9) ⟨rfl, hd_X9_put⟩ rfl ⟨by decide, by decide⟩ rfl (Nat.le_of_ble_eq_true rfl) dX9_warmth_13) (fun v10 σ11 h12 => ?_)
  exact bj_iret dX9_warmth_16
/-! BeetHouse.price(II)I -/
theorem hi_X9_price_X9 : ∀ w ∈ u_ws RX9 TX9 12, w ∈ wsX9_price := fun _ h => (List.mem_cons_of_mem _ (List.mem_append_right _ h))
set_option maxRecDepth 100000 in
theorem fl_X9_price_59 : bh_fl wsX9_price yX9_price.cls 59 "BeetHouse" "prices" "[I" := Or.inl (List.mem_of_getElem? (i := 1) rfl)
set_option maxRecDepth 100000 in
theorem g_X9_price_X9_put_156 : GoodIn wsX9_price (wsV yX9_price.cls 156 RX9 yX9_put wsX9_put) := goodIn_r _ [2, 3, 4, 5, 6, 7, 8, 9, 5, 10, 11, 12, 13, 14, 15, 16, 17, 18, 19, 20, 21, 22, 23, 24, 25, 26] rfl (by decide +kernel)
def f_X9_price (this : Nat) (p1 : Int32) (p2 : Int32) (σ : bh_S) : Option (Int32 × bh_S) :=
  (bh_rdR σ 10 this 8).bind fun v1 =>
  (v1).bind fun a3 =>
  (bh_ck σ this 10).bind fun _ =>
  bh_bnd (f_X9_put this a3 p1 (-2) p2 1000 σ) fun v6 σ7 =>
  some (v6, σ7)
set_option maxHeartbeats 4000000 in
set_option maxRecDepth 100000 in
theorem c_X9_price (X : bh_X) (this : Nat) (p1 : Int32) (p2 : Int32) (σ : bh_S) : bh_MX eI X yX9_price wsX9_price 2 49 [.ref this, .int p1, .int p2] σ (f_X9_price this p1 p2 σ) := by
  refine bh_enter (cc := cX9_price) (NL := 3) (ret := (some .int)) (by decide) rfl (Nat.le_of_ble_eq_true rfl) (fun X => ?_)
  show bh_J eI yX9_price cX9_price wsX9_price (some .int) 3 2 49 X σ 0 [(0, .ref this), (1, .int p1), (2, .int p2)] [] _
  unfold f_X9_price
  refine bj_aload_nS dX9_price_0 rfl 0 rfl ?_
  refine bj_aload_nS dX9_price_1 rfl 0 rfl ?_
  refine bj_getR (ci := 10) (k := 8) (C := RX9) (T := TX9) (N := 12) rfl hi_X9_price_X9 (by decide) rfl fl_X9_price_59 (Or.inl rfl) dX9_price_2 (fun v1 h2 => ?_)
  refine bj_iload_n dX9_price_5 rfl 1 rfl ?_
  refine bj_bipush (v := (-2)) dX9_price_6 (by decide) ?_
  refine bj_iload_n dX9_price_8 rfl 2 rfl ?_
  refine bj_sipush (v := 1000) dX9_price_9 (by decide) ?_
  refine bj_nn (fun a3 h4 => ?_)
  subst h4
  refine bj_op (fun _ h5 => ?_)
  refine bj_callI (br_V (As := [.ref a3, .int p1, .int (-2), .int p2, .int 1000]) (rest := []) (q := (RX9, TX9, 12)) (c_X9_put X this a3 p1 (-2) p2 1000 σ) rfl g_X9_price_X9_put_156 rfl (bh_ck_spec h5) ⟨rfl, hd_X9_put⟩ rfl ⟨by decide, by decide⟩ rfl (Nat.le_of_ble_eq_true rfl) dX9_price_12) (fun v6 σ7 h8 => ?_)
  exact bj_iret dX9_price_15
