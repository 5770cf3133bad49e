/-! BeetHouse$Orders.<init>()V -/
theorem hi_X5_init_X5 : ∀ w ∈ u_ws RX5 TX5 7, w ∈ wsX5_init := fun _ h => (List.mem_cons_of_mem _ (List.mem_append_right _ h))
set_option maxRecDepth 100000 in
theorem fl_X5_init_9 : bh_fl wsX5_init yX5_init.cls 9 "BeetHouse$Orders" "numbers" "[I" := Or.inl (List.mem_of_getElem? (i := 5) rfl)
set_option maxRecDepth 100000 in
theorem fl_X5_init_17 : bh_fl wsX5_init yX5_init.cls 17 "BeetHouse$Orders" "wasteByEnds" "[[I" := Or.inl (List.mem_of_getElem? (i := 7) rfl)
set_option maxRecDepth 100000 in
theorem fl_X5_init_20 : bh_fl wsX5_init yX5_init.cls 20 "BeetHouse$Orders" "begins" "[I" := Or.inl (List.mem_of_getElem? (i := 8) rfl)
set_option maxRecDepth 100000 in
theorem fl_X5_init_23 : bh_fl wsX5_init yX5_init.cls 23 "BeetHouse$Orders" "leastAfter" "[I" := Or.inl (List.mem_of_getElem? (i := 9) rfl)
set_option maxRecDepth 100000 in
theorem fl_X5_init_26 : bh_fl wsX5_init yX5_init.cls 26 "BeetHouse$Orders" "chosenAfter" "[I" := Or.inl (List.mem_of_getElem? (i := 10) rfl)
set_option maxRecDepth 100000 in
theorem fl_X5_init_29 : bh_fl wsX5_init yX5_init.cls 29 "BeetHouse$Orders" "size" "I" := Or.inl (List.mem_of_getElem? (i := 11) rfl)
set_option maxRecDepth 100000 in
theorem fl_X5_init_33 : bh_fl wsX5_init yX5_init.cls 33 "BeetHouse$Orders" "now" "I" := Or.inl (List.mem_of_getElem? (i := 12) rfl)
def f_X5_init (this : Nat) (σ : bh_S) : Option (Unit × bh_S) :=
  bh_bnd (bh_newA σ 12 8) fun a1 σ2 =>
  (bh_wrR σ2 6 this 0 (some a1)).bind fun σ4 =>
  bh_bnd (bh_newM σ4 8 101) fun a6 σ7 =>
  (bh_wrR σ7 6 this 1 (some a6)).bind fun σ9 =>
  bh_bnd (bh_newA σ9 12 256) fun a11 σ12 =>
  (bh_wrR σ12 6 this 2 (some a11)).bind fun σ14 =>
  bh_bnd (bh_newA σ14 12 256) fun a16 σ17 =>
  (bh_wrR σ17 6 this 3 (some a16)).bind fun σ19 =>
  bh_bnd (bh_newA σ19 12 256) fun a21 σ22 =>
  (bh_wrR σ22 6 this 4 (some a21)).bind fun σ24 =>
  (bh_wrI σ24 6 this 5 0).bind fun σ26 =>
  (bh_wrI σ26 6 this 6 0).bind fun σ28 =>
  some ((), σ28)
set_option maxHeartbeats 4000000 in
set_option maxRecDepth 100000 in
theorem c_X5_init (X : bh_X) (this : Nat) (σ : bh_S) : bh_MX eU X yX5_init wsX5_init 1 12 [.ref this] σ (f_X5_init this σ) := by
  refine bh_enter (cc := cX5_init) (NL := 1) (ret := none) (by decide) rfl (Nat.le_of_ble_eq_true rfl) (fun X => ?_)
  show bh_J eU yX5_init cX5_init wsX5_init none 1 1 12 X σ 0 [(0, .ref this)] [] _
  unfold f_X5_init
  refine bj_aload_nS dX5_init_0 rfl 0 rfl ?_
  refine bj_objInit (List.mem_of_getElem? (i := 1) rfl) (List.mem_of_getElem? (i := 2) rfl) (List.mem_of_getElem? (i := 3) rfl) (by decide) (Nat.le_of_ble_eq_true rfl) dX5_init_1 ?_
  refine bj_aload_nS dX5_init_4 rfl 0 rfl ?_
  refine bj_bipush (v := 8) dX5_init_5 (by decide) ?_
  refine bj_newi (List.mem_of_getElem? (i := 4) rfl) dX5_init_7 (fun a1 σ2 h3 => ?_)
  refine bj_putR (ci := 6) (k := 0) (C := RX5) (T := TX5) (N := 7) (v := (some a1)) rfl hi_X5_init_X5 (by decide) rfl fl_X5_init_9 (Or.inl rfl) tyX5 tyX5_ok nmX5 (Or.inr ⟨_, rfl⟩) (Or.inr ⟨rfl, rfl, rfl, List.mem_of_getElem? (i := 5) rfl⟩) dX5_init_9 (fun σ4 h5 => ?_)
  refine bj_aload_nS dX5_init_12 rfl 0 rfl ?_
  refine bj_bipush (v := 8) dX5_init_13 (by decide) ?_
  refine bj_bipush (v := 101) dX5_init_15 (by decide) ?_
  refine bj_mna (List.mem_of_getElem? (i := 6) rfl) (List.mem_of_getElem? (i := 4) rfl) dX5_init_17 (fun a6 σ7 h8 => ?_)
  refine bj_putR (ci := 6) (k := 1) (C := RX5) (T := TX5) (N := 7) (v := (some a6)) rfl hi_X5_init_X5 (by decide) rfl fl_X5_init_17 (Or.inl rfl) tyX5 tyX5_ok nmX5 (Or.inr ⟨_, rfl⟩) (Or.inr ⟨rfl, rfl, rfl, List.mem_of_getElem? (i := 7) rfl⟩) dX5_init_21 (fun σ9 h10 => ?_)
  refine bj_aload_nS dX5_init_24 rfl 0 rfl ?_
  refine bj_sipush (v := 256) dX5_init_25 (by decide) ?_
  refine bj_newi (List.mem_of_getElem? (i := 4) rfl) dX5_init_28 (fun a11 σ12 h13 => ?_)
  refine bj_putR (ci := 6) (k := 2) (C := RX5) (T := TX5) (N := 7) (v := (some a11)) rfl hi_X5_init_X5 (by decide) rfl fl_X5_init_20 (Or.inl rfl) tyX5 tyX5_ok nmX5 (Or.inr ⟨_, rfl⟩) (Or.inr ⟨rfl, rfl, rfl, List.mem_of_getElem? (i := 8) rfl⟩) dX5_init_30 (fun σ14 h15 => ?_)
  refine bj_aload_nS dX5_init_33 rfl 0 rfl ?_
  refine bj_sipush (v := 256) dX5_init_34 (by decide) ?_
  refine bj_newi (List.mem_of_getElem? (i := 4) rfl) dX5_init_37 (fun a16 σ17 h18 => ?_)
  refine bj_putR (ci := 6) (k := 3) (C := RX5) (T := TX5) (N := 7) (v := (some a16)) rfl hi_X5_init_X5 (by decide) rfl fl_X5_init_23 (Or.inl rfl) tyX5 tyX5_ok nmX5 (Or.inr ⟨_, rfl⟩) (Or.inr ⟨rfl, rfl, rfl, List.mem_of_getElem? (i := 9) rfl⟩) dX5_init_39 (fun σ19 h20 => ?_)
  refine bj_aload_nS dX5_init_42 rfl 0 rfl ?_
  refine bj_sipush (v := 256) dX5_init_43 (by decide) ?_
  refine bj_newi (List.mem_of_getElem? (i := 4) rfl) dX5_init_46 (fun a21 σ22 h23 => ?_)
  refine bj_putR (ci := 6) (k := 4) (C := RX5) (T := TX5) (N := 7) (v := (some a21)) rfl hi_X5_init_X5 (by decide) rfl fl_X5_init_26 (Or.inl rfl) tyX5 tyX5_ok nmX5 (Or.inr ⟨_, rfl⟩) (Or.inr ⟨rfl, rfl, rfl, List.mem_of_getElem? (i := 10) rfl⟩) dX5_init_48 (fun σ24 h25 => ?_)
  refine bj_aload_nS dX5_init_51 rfl 0 rfl ?_
  refine bj_iconst (v := 0) dX5_init_52 (by decide) ?_
  refine bj_putI (ci := 6) (k := 5) (C := RX5) (T := TX5) (N := 7) rfl hi_X5_init_X5 (by decide) rfl fl_X5_init_29 (Or.inl rfl) tyX5 tyX5_ok nmX5 rfl (Or.inl rfl) dX5_init_53 (fun σ26 h27 => ?_)
  refine bj_aload_nS dX5_init_56 rfl 0 rfl ?_
  refine bj_iconst (v := 0) dX5_init_57 (by decide) ?_
  refine bj_putI (ci := 6) (k := 6) (C := RX5) (T := TX5) (N := 7) rfl hi_X5_init_X5 (by decide) rfl fl_X5_init_33 (Or.inl rfl) tyX5 tyX5_ok nmX5 rfl (Or.inl rfl) dX5_init_58 (fun σ28 h29 => ?_)
  exact bj_vret dX5_init_61
/-! BeetHouse$Orders.clear(I)V -/
theorem hi_X5_clear_X5 : ∀ w ∈ u_ws RX5 TX5 7, w ∈ wsX5_clear := fun _ h => (List.mem_cons_of_mem _ (List.mem_append_right _ h))
set_option maxRecDepth 100000 in
theorem fl_X5_clear_29 : bh_fl wsX5_clear yX5_clear.cls 29 "BeetHouse$Orders" "size" "I" := Or.inl (List.mem_of_getElem? (i := 1) rfl)
set_option maxRecDepth 100000 in
theorem fl_X5_clear_33 : bh_fl wsX5_clear yX5_clear.cls 33 "BeetHouse$Orders" "now" "I" := Or.inl (List.mem_of_getElem? (i := 2) rfl)
set_option maxRecDepth 100000 in
theorem fl_X5_clear_20 : bh_fl wsX5_clear yX5_clear.cls 20 "BeetHouse$Orders" "begins" "[I" := Or.inl (List.mem_of_getElem? (i := 3) rfl)
def f_X5_clear (this : Nat) (p1 : Int32) (σ : bh_S) : Option (Unit × bh_S) :=
  (bh_wrI σ 6 this 5 0).bind fun σ1 =>
  (bh_wrI σ1 6 this 6 p1).bind fun σ3 =>
  (bh_rdR σ3 6 this 2).bind fun v5 =>
  (v5).bind fun a7 =>
  (bh_stI σ3 12 a7 0 p1).bind fun σ9 =>
  some ((), σ9)
set_option maxHeartbeats 4000000 in
set_option maxRecDepth 100000 in
theorem c_X5_clear (X : bh_X) (this : Nat) (p1 : Int32) (σ : bh_S) : bh_MX eU X yX5_clear wsX5_clear 0 0 [.ref this, .int p1] σ (f_X5_clear this p1 σ) := by
  refine bh_enter (cc := cX5_clear) (NL := 2) (ret := none) (by decide) rfl (Nat.le_of_ble_eq_true rfl) (fun X => ?_)
  show bh_J eU yX5_clear cX5_clear wsX5_clear none 2 0 0 X σ 0 [(0, .ref this), (1, .int p1)] [] _
  unfold f_X5_clear
  refine bj_aload_nS dX5_clear_0 rfl 0 rfl ?_
  refine bj_iconst (v := 0) dX5_clear_1 (by decide) ?_
  refine bj_putI (ci := 6) (k := 5) (C := RX5) (T := TX5) (N := 7) rfl hi_X5_clear_X5 (by decide) rfl fl_X5_clear_29 (Or.inl rfl) tyX5 tyX5_ok nmX5 rfl (Or.inl rfl) dX5_clear_2 (fun σ1 h2 => ?_)
  refine bj_aload_nS dX5_clear_5 rfl 0 rfl ?_
  refine bj_iload_n dX5_clear_6 rfl 1 rfl ?_
  refine bj_putI (ci := 6) (k := 6) (C := RX5) (T := TX5) (N := 7) rfl hi_X5_clear_X5 (by decide) rfl fl_X5_clear_33 (Or.inl rfl) tyX5 tyX5_ok nmX5 rfl (Or.inl rfl) dX5_clear_7 (fun σ3 h4 => ?_)
  refine bj_aload_nS dX5_clear_10 rfl 0 rfl ?_
  refine bj_getR (ci := 6) (k := 2) (C := RX5) (T := TX5) (N := 7) rfl hi_X5_clear_X5 (by decide) rfl fl_X5_clear_20 (Or.inl rfl) dX5_clear_11 (fun v5 h6 => ?_)
  refine bj_iconst (v := 0) dX5_clear_14 (by decide) ?_
  refine bj_iload_n dX5_clear_15 rfl 1 rfl ?_
  refine bj_nn (fun a7 h8 => ?_)
  subst h8
  refine bj_iast dX5_clear_16 (fun σ9 h10 => ?_)
  exact bj_vret dX5_clear_17
/-! BeetHouse$Orders.foresee([ILBeetHouse$Plot;LBeetHouse$Weather;)V -/
theorem hi_X5_foresee_X5 : ∀ w ∈ u_ws RX5 TX5 7, w ∈ wsX5_foresee := fun _ h => (List.mem_cons_of_mem _ (List.mem_append_left _ (List.mem_append_left _ (List.mem_append_right _ h))))
set_option maxRecDepth 100000 in
theorem fl_X5_foresee_33 : bh_fl wsX5_foresee yX5_foresee.cls 33 "BeetHouse$Orders" "now" "I" := Or.inl (List.mem_of_getElem? (i := 1) rfl)
theorem hi_X5_foresee_X6 : ∀ w ∈ u_ws RX6 TX6 14, w ∈ wsX5_foresee := fun _ h => (List.mem_cons_of_mem _ (List.mem_append_left _ (List.mem_append_right _ h)))
set_option maxRecDepth 100000 in
theorem fl_X5_foresee_52 : bh_fl wsX5_foresee yX5_foresee.cls 52 "BeetHouse$Plot" "sugar" "I" := Or.inr ⟨"BeetHouse", List.mem_of_getElem? (i := 28) rfl⟩
set_option maxRecDepth 100000 in
theorem g_X5_foresee_X7_numberOf : GoodIn wsX5_foresee wsX7_numberOf := goodIn_r _ [5, 6, 7, 41, 42] rfl (by decide +kernel)
set_option maxRecDepth 100000 in
theorem g_X5_foresee_X6_wasteOf : GoodIn wsX5_foresee wsX6_wasteOf := goodIn_r _ [11, 12, 13, 14, 15, 16, 17, 18, 19, 27, 28, 29, 30, 31, 32, 33, 34, 35, 36, 37, 38, 39, 40] rfl (by decide +kernel)
def f_X5_foresee_b19 (N : Nat) : Nat → Nat → Nat → Nat → Nat → Int32 → Int32 → Int32 → bh_S → Option (Unit × bh_S)
  | 0, _, _, _, _, _, _, _, _ => none
  | n + 1, this, x1, x2, x3, x4, x5, x6, σ =>
    if 100 < (x4 + x6) then
      some ((), σ)
    else
      (bh_len σ 12 x1).bind fun v2 =>
      if v2 ≤ x6 then
        some ((), σ)
      else
        (bh_rdI σ 7 x2 7).bind fun v5 =>
        (bh_ck σ x3 8).bind fun _ =>
        bh_bnd (f_X7_numberOf x3 ((x4 + x6) - 1) σ) fun v8 σ9 =>
        (bh_ck σ9 x2 7).bind fun _ =>
        bh_bnd (f_X6_wasteOf x2 (v5 - x5) v8 σ9) fun v12 σ13 =>
        (bh_stI σ13 12 x1 x6 (x5 + v12)).bind fun σ15 =>
        f_X5_foresee_b19 N n this x1 x2 x3 x4 (x5 + v12) (x6 + 1) σ15
set_option maxHeartbeats 4000000 in
set_option maxRecDepth 100000 in
theorem j_X5_foresee_b19 (X : bh_X) (N : Nat) : ∀ (n : Nat) (this : Nat) (x1 : Nat) (x2 : Nat) (x3 : Nat) (x4 : Int32) (x5 : Int32) (x6 : Int32) (σ : bh_S), bh_J eU yX5_foresee cX5_foresee wsX5_foresee none 7 2 36 X σ 19 [(0, .ref this), (1, .ref x1), (2, .ref x2), (3, .ref x3), (4, .int x4), (5, .int x5), (6, .int x6)] [] (f_X5_foresee_b19 N n this x1 x2 x3 x4 x5 x6 σ) := by
  intro n
  induction n with
  | zero => intro this x1 x2 x3 x4 x5 x6 σ; exact bj_none
  | succ n ih =>
    intro this x1 x2 x3 x4 x5 x6 σ
    unfold f_X5_foresee_b19
    refine bj_iload dX5_foresee_19 4 rfl ?_
    refine bj_iload dX5_foresee_21 6 rfl ?_
    refine bj_iadd dX5_foresee_23 ?_
    refine bj_bipush (v := 100) dX5_foresee_24 (by decide) ?_
    refine bj_icmp_gt (tgt := 75) dX5_foresee_26 (by decide) (fun h1 => ?_) (fun h1 => ?_)
    · exact bj_vret dX5_foresee_75
    · refine bj_iload dX5_foresee_29 6 rfl ?_
      refine bj_aload_nS dX5_foresee_31 rfl 1 rfl ?_
      refine bj_alen (ci := 12) (by decide) dX5_foresee_32 (fun v2 h3 => ?_)
      refine bj_icmp_ge (tgt := 75) dX5_foresee_33 (by decide) (fun h4 => ?_) (fun h4 => ?_)
      · exact bj_vret dX5_foresee_75
      · refine bj_iload dX5_foresee_36 5 rfl ?_
        refine bj_aload_nS dX5_foresee_38 rfl 2 rfl ?_
        refine bj_aload_nS dX5_foresee_39 rfl 2 rfl ?_
        refine bj_getI (ci := 7) (k := 7) (C := RX6) (T := TX6) (N := 14) rfl hi_X5_foresee_X6 (by decide) rfl fl_X5_foresee_52 (Or.inl rfl) dX5_foresee_40 (fun v5 h6 => ?_)
        refine bj_iload dX5_foresee_43 5 rfl ?_
        refine bj_isub dX5_foresee_45 ?_
        refine bj_aload_nS dX5_foresee_46 rfl 3 rfl ?_
        refine bj_iload dX5_foresee_47 4 rfl ?_
        refine bj_iload dX5_foresee_49 6 rfl ?_
        refine bj_iadd dX5_foresee_51 ?_
        refine bj_iconst (v := 1) dX5_foresee_52 (by decide) ?_
        refine bj_isub dX5_foresee_53 ?_
        refine bj_op (fun _ h7 => ?_)
        refine bj_callI (br_VN (As := [.int ((x4 + x6) - 1)]) (rest := [.int (v5 - x5), .ref x2, .int x5]) (host := "BeetHouse") (q := (RX7, TX7, 2)) (c_X7_numberOf X x3 ((x4 + x6) - 1) σ) rfl g_X5_foresee_X7_numberOf (List.mem_of_getElem? (i := 84) rfl) (List.mem_of_getElem? (i := 3) rfl) (List.mem_of_getElem? (i := 2) rfl) (List.mem_of_getElem? (i := 4) rfl) rfl (bh_ck_spec h7) hd_X7_numberOf rfl ⟨by decide, by decide⟩ rfl (Nat.le_of_ble_eq_true rfl) dX5_foresee_54) (fun v8 σ9 h10 => ?_)
        refine bj_op (fun _ h11 => ?_)
        refine bj_callI (br_VN (As := [.int (v5 - x5), .int v8]) (rest := [.int x5]) (host := "BeetHouse") (q := (RX6, TX6, 14)) (c_X6_wasteOf X x2 (v5 - x5) v8 σ9) rfl g_X5_foresee_X6_wasteOf (List.mem_of_getElem? (i := 85) rfl) (List.mem_of_getElem? (i := 9) rfl) (List.mem_of_getElem? (i := 8) rfl) (List.mem_of_getElem? (i := 10) rfl) rfl (bh_ck_spec h11) hd_X6_wasteOf rfl ⟨by decide, by decide⟩ rfl (Nat.le_of_ble_eq_true rfl) dX5_foresee_57) (fun v12 σ13 h14 => ?_)
        refine bj_iadd dX5_foresee_60 ?_
        refine bj_istore (lv' := [(5, .int (x5 + v12)), (0, .ref this), (1, .ref x1), (2, .ref x2), (3, .ref x3), (4, .int x4), (6, .int x6)]) dX5_foresee_61 (by decide) rfl ?_
        refine bj_aload_nS dX5_foresee_63 rfl 2 rfl ?_
        refine bj_iload dX5_foresee_64 6 rfl ?_
        refine bj_iload dX5_foresee_66 0 rfl ?_
        refine bj_iast dX5_foresee_68 (fun σ15 h16 => ?_)
        refine bj_iinc (v := x6 + 1) (lv' := [(6, .int (x6 + 1)), (5, .int (x5 + v12)), (0, .ref this), (1, .ref x1), (2, .ref x2), (3, .ref x3), (4, .int x4)]) dX5_foresee_69 6 rfl rfl (by decide) rfl ?_
        refine bj_goto (tgt := 19) dX5_foresee_72 (by decide) ?_
        refine bj_sub (lv' := [(0, .ref this), (1, .ref x1), (2, .ref x2), (3, .ref x3), (4, .int x4), (5, .int (x5 + v12)), (6, .int (x6 + 1))]) [2, 3, 4, 5, 6, 1, 0] rfl ?_
        exact ih this x1 x2 x3 x4 (x5 + v12) (x6 + 1) σ15
def f_X5_foresee (N : Nat) (this : Nat) (p1 : Nat) (p2 : Nat) (p3 : Nat) (σ : bh_S) : Option (Unit × bh_S) :=
  (bh_rdI σ 6 this 6).bind fun v1 =>
  (bh_stI σ 12 p1 0 0).bind fun σ3 =>
  f_X5_foresee_b19 N N this p1 p2 p3 (v1 / 24) 0 1 σ3
set_option maxHeartbeats 4000000 in
set_option maxRecDepth 100000 in
theorem c_X5_foresee (X : bh_X) (N : Nat) (this : Nat) (p1 : Nat) (p2 : Nat) (p3 : Nat) (σ : bh_S) : bh_MX eU X yX5_foresee wsX5_foresee 2 36 [.ref this, .ref p1, .ref p2, .ref p3] σ (f_X5_foresee N this p1 p2 p3 σ) := by
  refine bh_enter (cc := cX5_foresee) (NL := 7) (ret := none) (by decide) rfl (Nat.le_of_ble_eq_true rfl) (fun X => ?_)
  show bh_J eU yX5_foresee cX5_foresee wsX5_foresee none 7 2 36 X σ 0 [(0, .ref this), (1, .ref p1), (2, .ref p2), (3, .ref p3)] [] _
  unfold f_X5_foresee
  refine bj_aload_nS dX5_foresee_0 rfl 0 rfl ?_
  refine bj_getI (ci := 6) (k := 6) (C := RX5) (T := TX5) (N := 7) rfl hi_X5_foresee_X5 (by decide) rfl fl_X5_foresee_33 (Or.inl rfl) dX5_foresee_1 (fun v1 h2 => ?_)
  refine bj_bipush (v := 24) dX5_foresee_4 (by decide) ?_
  refine bj_idivC dX5_foresee_6 (by decide) ?_
  refine bj_istore (lv' := [(4, .int (v1 / 24)), (0, .ref this), (1, .ref p1), (2, .ref p2), (3, .ref p3)]) dX5_foresee_7 (by decide) rfl ?_
  refine bj_iconst (v := 0) dX5_foresee_9 (by decide) ?_
  refine bj_istore (lv' := [(5, .int 0), (4, .int (v1 / 24)), (0, .ref this), (1, .ref p1), (2, .ref p2), (3, .ref p3)]) dX5_foresee_10 (by decide) rfl ?_
  refine bj_aload_nS dX5_foresee_12 rfl 3 rfl ?_
  refine bj_iconst (v := 0) dX5_foresee_13 (by decide) ?_
  refine bj_iconst (v := 0) dX5_foresee_14 (by decide) ?_
  refine bj_iast dX5_foresee_15 (fun σ3 h4 => ?_)
  refine bj_iconst (v := 1) dX5_foresee_16 (by decide) ?_
  refine bj_istore (lv' := [(6, .int 1), (5, .int 0), (4, .int (v1 / 24)), (0, .ref this), (1, .ref p1), (2, .ref p2), (3, .ref p3)]) dX5_foresee_17 (by decide) rfl ?_
  refine bj_sub (lv' := [(0, .ref this), (1, .ref p1), (2, .ref p2), (3, .ref p3), (4, .int (v1 / 24)), (5, .int 0), (6, .int 1)]) [3, 4, 5, 6, 2, 1, 0] rfl ?_
  exact j_X5_foresee_b19 X N N this p1 p2 p3 (v1 / 24) 0 1 σ3
/-! BeetHouse$Orders.add(LBeetHouse$Plot;ILBeetHouse$Weather;)Z -/
theorem hi_X5_add_X5 : ∀ w ∈ u_ws RX5 TX5 7, w ∈ wsX5_add := fun _ h => (List.mem_cons_of_mem _ (List.mem_append_left _ (List.mem_append_left _ (List.mem_append_right _ h))))
set_option maxRecDepth 100000 in
theorem fl_X5_add_29 : bh_fl wsX5_add yX5_add.cls 29 "BeetHouse$Orders" "size" "I" := Or.inl (List.mem_of_getElem? (i := 1) rfl)
set_option maxRecDepth 100000 in
theorem fl_X5_add_9 : bh_fl wsX5_add yX5_add.cls 9 "BeetHouse$Orders" "numbers" "[I" := Or.inl (List.mem_of_getElem? (i := 2) rfl)
theorem hi_X5_add_X6 : ∀ w ∈ u_ws RX6 TX6 14, w ∈ wsX5_add := fun _ h => (List.mem_cons_of_mem _ (List.mem_append_left _ (List.mem_append_right _ h)))
set_option maxRecDepth 100000 in
theorem fl_X5_add_36 : bh_fl wsX5_add yX5_add.cls 36 "BeetHouse$Plot" "number" "I" := Or.inr ⟨"BeetHouse", List.mem_of_getElem? (i := 19) rfl⟩
set_option maxRecDepth 100000 in
theorem fl_X5_add_17 : bh_fl wsX5_add yX5_add.cls 17 "BeetHouse$Orders" "wasteByEnds" "[[I" := Or.inl (List.mem_of_getElem? (i := 3) rfl)
set_option maxRecDepth 100000 in
theorem g_X5_add_X5_foresee_41 : GoodIn wsX5_add (wsV yX5_add.cls 41 RX5 yX5_foresee wsX5_foresee) := goodIn_r _ [5, 6, 7, 8, 9, 10, 11, 12, 13, 14, 15, 16, 17, 18, 19, 20, 21, 22, 23, 24, 25, 26, 27, 28, 33, 34, 35, 36, 37, 38, 39, 40, 41, 42, 43, 44, 45, 46, 47, 48, 49, 50, 51, 52, 53, 54, 55] rfl (by decide +kernel)
set_option maxRecDepth 100000 in
theorem fl_X5_add_45 : bh_fl wsX5_add yX5_add.cls 45 "BeetHouse$Plot" "roots" "I" := Or.inr ⟨"BeetHouse", List.mem_of_getElem? (i := 25) rfl⟩
set_option maxRecDepth 100000 in
theorem g_X5_add_X6_unitsFor : GoodIn wsX5_add wsX6_unitsFor := goodIn_r _ [31, 32, 40, 41, 42, 43, 44, 45, 46, 47, 48, 49, 50, 51, 52, 53] rfl (by decide +kernel)
set_option maxRecDepth 100000 in
theorem fl_X5_add_20 : bh_fl wsX5_add yX5_add.cls 20 "BeetHouse$Orders" "begins" "[I" := Or.inl (List.mem_of_getElem? (i := 4) rfl)
def f_X5_add_b71 (N : Nat) : Nat → Nat → Int32 → Int32 → Int32 → bh_S → Option (Int32 × bh_S)
  | 0, _, _, _, _, _ => none
  | n + 1, this, x4, x5, x6, σ =>
    if x5 ≤ x6 then
      (bh_rdI σ 6 this 5).bind fun v2 =>
      (bh_wrI σ 6 this 5 (v2 + 1)).bind fun σ4 =>
      bh_retZ σ4 1
    else
      (bh_rdR σ 6 this 2).bind fun v6 =>
      (bh_rdR σ 6 this 2).bind fun v8 =>
      (v8).bind fun a10 =>
      (bh_ldI σ 12 a10 x6).bind fun v12 =>
      (v6).bind fun a14 =>
      (bh_stI σ 12 a14 (x6 + x5) (v12 + x4)).bind fun σ16 =>
      f_X5_add_b71 N n this x4 x5 (x6 + 1) σ16
set_option maxHeartbeats 4000000 in
set_option maxRecDepth 100000 in
theorem j_X5_add_b71 (X : bh_X) (N : Nat) : ∀ (n : Nat) (this : Nat) (x4 : Int32) (x5 : Int32) (x6 : Int32) (σ : bh_S), bh_J eI yX5_add cX5_add wsX5_add (some .boolean) 7 3 62 X σ 71 [(0, .ref this), (4, .int x4), (5, .int x5), (6, .int x6)] [] (f_X5_add_b71 N n this x4 x5 x6 σ) := by
  intro n
  induction n with
  | zero => intro this x4 x5 x6 σ; exact bj_none
  | succ n ih =>
    intro this x4 x5 x6 σ
    unfold f_X5_add_b71
    refine bj_iload dX5_add_71 3 rfl ?_
    refine bj_iload dX5_add_73 2 rfl ?_
    refine bj_icmp_ge (tgt := 104) dX5_add_75 (by decide) (fun h1 => ?_) (fun h1 => ?_)
    · refine bj_aload_nS dX5_add_104 rfl 0 rfl ?_
      refine bj_dup dX5_add_105 rfl ?_
      refine bj_getI (ci := 6) (k := 5) (C := RX5) (T := TX5) (N := 7) rfl hi_X5_add_X5 (by decide) rfl fl_X5_add_29 (Or.inl rfl) dX5_add_106 (fun v2 h3 => ?_)
      refine bj_iconst (v := 1) dX5_add_109 (by decide) ?_
      refine bj_iadd dX5_add_110 ?_
      refine bj_putI (ci := 6) (k := 5) (C := RX5) (T := TX5) (N := 7) rfl hi_X5_add_X5 (by decide) rfl fl_X5_add_29 (Or.inl rfl) tyX5 tyX5_ok nmX5 rfl (Or.inl rfl) dX5_add_111 (fun σ4 h5 => ?_)
      refine bj_iconst (v := 1) dX5_add_114 (by decide) ?_
      exact bj_zret dX5_add_115
    · refine bj_aload_nS dX5_add_78 rfl 0 rfl ?_
      refine bj_getR (ci := 6) (k := 2) (C := RX5) (T := TX5) (N := 7) rfl hi_X5_add_X5 (by decide) rfl fl_X5_add_20 (Or.inl rfl) dX5_add_79 (fun v6 h7 => ?_)
      refine bj_iload dX5_add_82 3 rfl ?_
      refine bj_iload dX5_add_84 2 rfl ?_
      refine bj_iadd dX5_add_86 ?_
      refine bj_aload_nS dX5_add_87 rfl 0 rfl ?_
      refine bj_getR (ci := 6) (k := 2) (C := RX5) (T := TX5) (N := 7) rfl hi_X5_add_X5 (by decide) rfl fl_X5_add_20 (Or.inl rfl) dX5_add_88 (fun v8 h9 => ?_)
      refine bj_iload dX5_add_91 3 rfl ?_
      refine bj_nn (fun a10 h11 => ?_)
      subst h11
      refine bj_iald dX5_add_93 (fun v12 h13 => ?_)
      refine bj_iload dX5_add_94 1 rfl ?_
      refine bj_iadd dX5_add_96 ?_
      refine bj_nn (fun a14 h15 => ?_)
      subst h15
      refine bj_iast dX5_add_97 (fun σ16 h17 => ?_)
      refine bj_iinc (v := x6 + 1) (lv' := [(6, .int (x6 + 1)), (0, .ref this), (4, .int x4), (5, .int x5)]) dX5_add_98 3 rfl rfl (by decide) rfl ?_
      refine bj_goto (tgt := 71) dX5_add_101 (by decide) ?_
      refine bj_sub (lv' := [(0, .ref this), (4, .int x4), (5, .int x5), (6, .int (x6 + 1))]) [1, 2, 3, 0] rfl ?_
      exact ih this x4 x5 (x6 + 1) σ16
def f_X5_add (N : Nat) (this : Nat) (p1 : Nat) (p2 : Int32) (p3 : Nat) (σ : bh_S) : Option (Int32 × bh_S) :=
  (bh_rdI σ 6 this 5).bind fun v1 =>
  if 8 ≤ v1 then
    bh_retZ σ 0
  else
    if 1 ≤ p2 then
      (bh_rdR σ 6 this 0).bind fun v5 =>
      (bh_rdI σ 6 this 5).bind fun v7 =>
      (bh_rdI σ 7 p1 0).bind fun v9 =>
      (v5).bind fun a11 =>
      (bh_stI σ 12 a11 v7 v9).bind fun σ13 =>
      (bh_rdR σ13 6 this 1).bind fun v15 =>
      (bh_rdI σ13 6 this 5).bind fun v17 =>
      (v15).bind fun a19 =>
      (bh_ldR σ13 17 a19 v17).bind fun v21 =>
      (v21).bind fun a23 =>
      (bh_ck σ13 this 6).bind fun _ =>
      bh_bnd (f_X5_foresee N this a23 p1 p3 σ13) fun v26 σ27 =>
      (bh_rdI σ27 7 p1 6).bind fun v29 =>
      (bh_ck σ27 p1 7).bind fun _ =>
      bh_bnd (f_X6_unitsFor p1 v29 σ27) fun v32 σ33 =>
      (bh_nz p2).bind fun _ =>
      (bh_rdI σ33 6 this 5).bind fun v36 =>
      f_X5_add_b71 N N this (((v32 + p2) - 1) / p2) (1 <<< (v36 &&& 31)) 0 σ33
    else
      bh_retZ σ 0
set_option maxHeartbeats 4000000 in
set_option maxRecDepth 100000 in
theorem c_X5_add (X : bh_X) (N : Nat) (this : Nat) (p1 : Nat) (p2 : Int32) (p3 : Nat) (σ : bh_S) : bh_MX eI X yX5_add wsX5_add 3 62 [.ref this, .ref p1, .int p2, .ref p3] σ (f_X5_add N this p1 p2 p3 σ) := by
  refine bh_enter (cc := cX5_add) (NL := 7) (ret := (some .boolean)) (by decide) rfl (Nat.le_of_ble_eq_true rfl) (fun X => ?_)
  show bh_J eI yX5_add cX5_add wsX5_add (some .boolean) 7 3 62 X σ 0 [(0, .ref this), (1, .ref p1), (2, .int p2), (3, .ref p3)] [] _
  unfold f_X5_add
  refine bj_aload_nS dX5_add_0 rfl 0 rfl ?_
  refine bj_getI (ci := 6) (k := 5) (C := RX5) (T := TX5) (N := 7) rfl hi_X5_add_X5 (by decide) rfl fl_X5_add_29 (Or.inl rfl) dX5_add_1 (fun v1 h2 => ?_)
  refine bj_bipush (v := 8) dX5_add_4 (by decide) ?_
  refine bj_icmp_ge (tgt := 14) dX5_add_6 (by decide) (fun h3 => ?_) (fun h3 => ?_)
  · refine bj_iconst (v := 0) dX5_add_14 (by decide) ?_
    exact bj_zret dX5_add_15
  · refine bj_iload_n dX5_add_9 rfl 2 rfl ?_
    refine bj_iconst (v := 1) dX5_add_10 (by decide) ?_
    refine bj_icmp_ge (tgt := 16) dX5_add_11 (by decide) (fun h4 => ?_) (fun h4 => ?_)
    · refine bj_aload_nS dX5_add_16 rfl 0 rfl ?_
      refine bj_getR (ci := 6) (k := 0) (C := RX5) (T := TX5) (N := 7) rfl hi_X5_add_X5 (by decide) rfl fl_X5_add_9 (Or.inl rfl) dX5_add_17 (fun v5 h6 => ?_)
      refine bj_aload_nS dX5_add_20 rfl 0 rfl ?_
      refine bj_getI (ci := 6) (k := 5) (C := RX5) (T := TX5) (N := 7) rfl hi_X5_add_X5 (by decide) rfl fl_X5_add_29 (Or.inl rfl) dX5_add_21 (fun v7 h8 => ?_)
      refine bj_aload_nS dX5_add_24 rfl 1 rfl ?_
      refine bj_getI (ci := 7) (k := 0) (C := RX6) (T := TX6) (N := 14) rfl hi_X5_add_X6 (by decide) rfl fl_X5_add_36 (Or.inl rfl) dX5_add_25 (fun v9 h10 => ?_)
      refine bj_nn (fun a11 h12 => ?_)
      subst h12
      refine bj_iast dX5_add_28 (fun σ13 h14 => ?_)
      refine bj_aload_nS dX5_add_29 rfl 0 rfl ?_
      refine bj_aload_nS dX5_add_30 rfl 0 rfl ?_
      refine bj_getR (ci := 6) (k := 1) (C := RX5) (T := TX5) (N := 7) rfl hi_X5_add_X5 (by decide) rfl fl_X5_add_17 (Or.inl rfl) dX5_add_31 (fun v15 h16 => ?_)
      refine bj_aload_nS dX5_add_34 rfl 0 rfl ?_
      refine bj_getI (ci := 6) (k := 5) (C := RX5) (T := TX5) (N := 7) rfl hi_X5_add_X5 (by decide) rfl fl_X5_add_29 (Or.inl rfl) dX5_add_35 (fun v17 h18 => ?_)
      refine bj_nn (fun a19 h20 => ?_)
      subst h20
      refine bj_aald (ci := 17) (by decide) dX5_add_38 (fun v21 h22 => ?_)
      refine bj_aload_nS dX5_add_39 rfl 1 rfl ?_
      refine bj_aload_nS dX5_add_40 rfl 3 rfl ?_
      refine bj_nn (fun a23 h24 => ?_)
      subst h24
      refine bj_op (fun _ h25 => ?_)
      refine bj_callU (br_V (As := [.ref a23, .ref p1, .ref p3]) (rest := []) (q := (RX5, TX5, 7)) (c_X5_foresee X N this a23 p1 p3 σ13) rfl g_X5_add_X5_foresee_41 rfl (bh_ck_spec h25) ⟨rfl, hd_X5_foresee⟩ rfl ⟨by decide, by decide⟩ rfl (Nat.le_of_ble_eq_true rfl) dX5_add_41) (fun v26 σ27 h28 => ?_)
      refine bj_aload_nS dX5_add_44 rfl 1 rfl ?_
      refine bj_aload_nS dX5_add_45 rfl 1 rfl ?_
      refine bj_getI (ci := 7) (k := 6) (C := RX6) (T := TX6) (N := 14) rfl hi_X5_add_X6 (by decide) rfl fl_X5_add_45 (Or.inl rfl) dX5_add_46 (fun v29 h30 => ?_)
      refine bj_op (fun _ h31 => ?_)
      refine bj_callI (br_VN (As := [.int v29]) (rest := []) (host := "BeetHouse") (q := (RX6, TX6, 14)) (c_X6_unitsFor X p1 v29 σ27) rfl g_X5_add_X6_unitsFor (List.mem_of_getElem? (i := 86) rfl) (List.mem_of_getElem? (i := 18) rfl) (List.mem_of_getElem? (i := 29) rfl) (List.mem_of_getElem? (i := 30) rfl) rfl (bh_ck_spec h31) hd_X6_unitsFor rfl ⟨by decide, by decide⟩ rfl (Nat.le_of_ble_eq_true rfl) dX5_add_49) (fun v32 σ33 h34 => ?_)
      refine bj_iload_n dX5_add_52 rfl 2 rfl ?_
      refine bj_iadd dX5_add_53 ?_
      refine bj_iconst (v := 1) dX5_add_54 (by decide) ?_
      refine bj_isub dX5_add_55 ?_
      refine bj_iload_n dX5_add_56 rfl 2 rfl ?_
      refine bj_op (fun _ h35 => ?_)
      refine bj_idivC dX5_add_57 (bh_nz_spec h35) ?_
      refine bj_istore (lv' := [(4, .int (((v32 + p2) - 1) / p2)), (0, .ref this), (1, .ref p1), (2, .int p2), (3, .ref p3)]) dX5_add_58 (by decide) rfl ?_
      refine bj_iconst (v := 1) dX5_add_60 (by decide) ?_
      refine bj_aload_nS dX5_add_61 rfl 1 rfl ?_
      refine bj_getI (ci := 6) (k := 5) (C := RX5) (T := TX5) (N := 7) rfl hi_X5_add_X5 (by decide) rfl fl_X5_add_29 (Or.inl rfl) dX5_add_62 (fun v36 h37 => ?_)
      refine bj_ishl dX5_add_65 ?_
      refine bj_istore (lv' := [(5, .int (1 <<< (v36 &&& 31))), (4, .int (((v32 + p2) - 1) / p2)), (0, .ref this), (1, .ref p1), (2, .int p2), (3, .ref p3)]) dX5_add_66 (by decide) rfl ?_
      refine bj_iconst (v := 0) dX5_add_68 (by decide) ?_
      refine bj_istore (lv' := [(6, .int 0), (5, .int (1 <<< (v36 &&& 31))), (4, .int (((v32 + p2) - 1) / p2)), (0, .ref this), (1, .ref p1), (2, .int p2), (3, .ref p3)]) dX5_add_69 (by decide) rfl ?_
      refine bj_sub (lv' := [(0, .ref this), (4, .int (((v32 + p2) - 1) / p2)), (5, .int (1 <<< (v36 &&& 31))), (6, .int 0)]) [3, 2, 1, 0] rfl ?_
      exact j_X5_add_b71 X N N this (((v32 + p2) - 1) / p2) (1 <<< (v36 &&& 31)) 0 σ33
    · refine bj_iconst (v := 0) dX5_add_14 (by decide) ?_
      exact bj_zret dX5_add_15
/-! BeetHouse$Orders.wasteOfWaiting(II)I -/
theorem hi_X5_wasteOfWaiting_X5 : ∀ w ∈ u_ws RX5 TX5 7, w ∈ wsX5_wasteOfWaiting := fun _ h => (List.mem_cons_of_mem _ (List.mem_append_right _ h))
set_option maxRecDepth 100000 in
theorem fl_X5_wasteOfWaiting_20 : bh_fl wsX5_wasteOfWaiting yX5_wasteOfWaiting.cls 20 "BeetHouse$Orders" "begins" "[I" := Or.inl (List.mem_of_getElem? (i := 1) rfl)
set_option maxRecDepth 100000 in
theorem fl_X5_wasteOfWaiting_33 : bh_fl wsX5_wasteOfWaiting yX5_wasteOfWaiting.cls 33 "BeetHouse$Orders" "now" "I" := Or.inl (List.mem_of_getElem? (i := 6) rfl)
set_option maxRecDepth 100000 in
theorem fl_X5_wasteOfWaiting_17 : bh_fl wsX5_wasteOfWaiting yX5_wasteOfWaiting.cls 17 "BeetHouse$Orders" "wasteByEnds" "[[I" := Or.inl (List.mem_of_getElem? (i := 7) rfl)
def f_X5_wasteOfWaiting (this : Nat) (p1 : Int32) (p2 : Int32) (σ : bh_S) : Option (Int32 × bh_S) :=
  (bh_rdR σ 6 this 2).bind fun v1 =>
  (v1).bind fun a3 =>
  (bh_ldI σ 12 a3 p2).bind fun v5 =>
  (bh_rdI σ 6 this 6).bind fun v7 =>
  (bh_rdR σ 6 this 1).bind fun v9 =>
  (v9).bind fun a11 =>
  (bh_ldR σ 17 a11 p1).bind fun v13 =>
  if (((bh_min v5 2400) / 24) - (v7 / 24)) < 0 then
    some (0, σ)
  else
    (v13).bind fun a16 =>
    (bh_len σ 12 a16).bind fun v18 =>
    if v18 ≤ (((bh_min v5 2400) / 24) - (v7 / 24)) then
      some (0, σ)
    else
      (bh_ldI σ 12 a16 (((bh_min v5 2400) / 24) - (v7 / 24))).bind fun v21 =>
      some (v21, σ)
set_option maxHeartbeats 4000000 in
set_option maxRecDepth 100000 in
theorem c_X5_wasteOfWaiting (X : bh_X) (this : Nat) (p1 : Int32) (p2 : Int32) (σ : bh_S) : bh_MX eI X yX5_wasteOfWaiting wsX5_wasteOfWaiting 1 13 [.ref this, .int p1, .int p2] σ (f_X5_wasteOfWaiting this p1 p2 σ) := by
  refine bh_enter (cc := cX5_wasteOfWaiting) (NL := 5) (ret := (some .int)) (by decide) rfl (Nat.le_of_ble_eq_true rfl) (fun X => ?_)
  show bh_J eI yX5_wasteOfWaiting cX5_wasteOfWaiting wsX5_wasteOfWaiting (some .int) 5 1 13 X σ 0 [(0, .ref this), (1, .int p1), (2, .int p2)] [] _
  unfold f_X5_wasteOfWaiting
  refine bj_aload_nS dX5_wasteOfWaiting_0 rfl 0 rfl ?_
  refine bj_getR (ci := 6) (k := 2) (C := RX5) (T := TX5) (N := 7) rfl hi_X5_wasteOfWaiting_X5 (by decide) rfl fl_X5_wasteOfWaiting_20 (Or.inl rfl) dX5_wasteOfWaiting_1 (fun v1 h2 => ?_)
  refine bj_iload_n dX5_wasteOfWaiting_4 rfl 2 rfl ?_
  refine bj_nn (fun a3 h4 => ?_)
  subst h4
  refine bj_iald dX5_wasteOfWaiting_5 (fun v5 h6 => ?_)
  refine bj_sipush (v := 2400) dX5_wasteOfWaiting_6 (by decide) ?_
  refine bj_min (List.mem_of_getElem? (i := 2) rfl) (List.mem_of_getElem? (i := 3) rfl) (List.mem_of_getElem? (i := 4) rfl) (List.mem_of_getElem? (i := 5) rfl) (by decide) (Nat.le_of_ble_eq_true rfl) dX5_wasteOfWaiting_9 ?_
  refine bj_bipush (v := 24) dX5_wasteOfWaiting_12 (by decide) ?_
  refine bj_idivC dX5_wasteOfWaiting_14 (by decide) ?_
  refine bj_aload_nS dX5_wasteOfWaiting_15 rfl 0 rfl ?_
  refine bj_getI (ci := 6) (k := 6) (C := RX5) (T := TX5) (N := 7) rfl hi_X5_wasteOfWaiting_X5 (by decide) rfl fl_X5_wasteOfWaiting_33 (Or.inl rfl) dX5_wasteOfWaiting_16 (fun v7 h8 => ?_)
  refine bj_bipush (v := 24) dX5_wasteOfWaiting_19 (by decide) ?_
  refine bj_idivC dX5_wasteOfWaiting_21 (by decide) ?_
  refine bj_isub dX5_wasteOfWaiting_22 ?_
  refine bj_istore_n (lv' := [(3, .int (((bh_min v5 2400) / 24) - (v7 / 24))), (0, .ref this), (1, .int p1), (2, .int p2)]) dX5_wasteOfWaiting_23 rfl (by decide) rfl ?_
  refine bj_aload_nS dX5_wasteOfWaiting_24 rfl 1 rfl ?_
  refine bj_getR (ci := 6) (k := 1) (C := RX5) (T := TX5) (N := 7) rfl hi_X5_wasteOfWaiting_X5 (by decide) rfl fl_X5_wasteOfWaiting_17 (Or.inl rfl) dX5_wasteOfWaiting_25 (fun v9 h10 => ?_)
  refine bj_iload_n dX5_wasteOfWaiting_28 rfl 2 rfl ?_
  refine bj_nn (fun a11 h12 => ?_)
  subst h12
  refine bj_aald (ci := 17) (by decide) dX5_wasteOfWaiting_29 (fun v13 h14 => ?_)
  refine bj_astore (lv' := [(4, va_rf v13), (3, .int (((bh_min v5 2400) / 24) - (v7 / 24))), (0, .ref this), (1, .int p1), (2, .int p2)]) (o := v13) dX5_wasteOfWaiting_30 (by decide) rfl ?_
  refine bj_iload_n dX5_wasteOfWaiting_32 rfl 1 rfl ?_
  refine bj_if_lt (tgt := 50) dX5_wasteOfWaiting_33 (by decide) (fun h15 => ?_) (fun h15 => ?_)
  · refine bj_iconst (v := 0) dX5_wasteOfWaiting_50 (by decide) ?_
    exact bj_iret dX5_wasteOfWaiting_51
  · refine bj_iload_n dX5_wasteOfWaiting_36 rfl 1 rfl ?_
    refine bj_aload dX5_wasteOfWaiting_37 0 rfl ?_
    refine bj_nn (fun a16 h17 => ?_)
    subst h17
    refine bj_alen (ci := 12) (by decide) dX5_wasteOfWaiting_39 (fun v18 h19 => ?_)
    refine bj_icmp_ge (tgt := 50) dX5_wasteOfWaiting_40 (by decide) (fun h20 => ?_) (fun h20 => ?_)
    · refine bj_iconst (v := 0) dX5_wasteOfWaiting_50 (by decide) ?_
      exact bj_iret dX5_wasteOfWaiting_51
    · refine bj_aloadS dX5_wasteOfWaiting_43 0 rfl ?_
      refine bj_iload_n dX5_wasteOfWaiting_45 rfl 1 rfl ?_
      refine bj_iald dX5_wasteOfWaiting_46 (fun v21 h22 => ?_)
      refine bj_goto (tgt := 51) dX5_wasteOfWaiting_47 (by decide) ?_
      exact bj_iret dX5_wasteOfWaiting_51
/-! BeetHouse$Orders.choose(I)V -/
theorem hi_X5_choose_X5 : ∀ w ∈ u_ws RX5 TX5 7, w ∈ wsX5_choose := fun _ h => (List.mem_cons_of_mem _ (List.mem_append_right _ h))
set_option maxRecDepth 100000 in
theorem fl_X5_choose_29 : bh_fl wsX5_choose yX5_choose.cls 29 "BeetHouse$Orders" "size" "I" := Or.inl (List.mem_of_getElem? (i := 2) rfl)
set_option maxRecDepth 100000 in
theorem fl_X5_choose_26 : bh_fl wsX5_choose yX5_choose.cls 26 "BeetHouse$Orders" "chosenAfter" "[I" := Or.inl (List.mem_of_getElem? (i := 4) rfl)
set_option maxRecDepth 100000 in
theorem fl_X5_choose_23 : bh_fl wsX5_choose yX5_choose.cls 23 "BeetHouse$Orders" "leastAfter" "[I" := Or.inl (List.mem_of_getElem? (i := 3) rfl)
set_option maxRecDepth 100000 in
theorem g_X5_choose_X5_wasteOfWaiting_76 : GoodIn wsX5_choose (wsV yX5_choose.cls 76 RX5 yX5_wasteOfWaiting wsX5_wasteOfWaiting) := goodIn_r _ [5, 6, 7, 8, 9, 10, 11, 12, 13, 14, 15, 16, 17, 18, 19, 20, 21, 22, 23] rfl (by decide +kernel)
def f_X5_choose_b64 (N : Nat) (k8 : Nat → Int32 → Int32 → Int32 → Int32 → bh_S → Option (Unit × bh_S)) (this : Nat) (x1 : Int32) (x2 : Int32) (x3 : Int32) (x4 : Int32) (σ : bh_S) : Option (Unit × bh_S) :=
  k8 this x1 x2 x3 (x4 + 1) σ
set_option maxHeartbeats 4000000 in
set_option maxRecDepth 100000 in
theorem j_X5_choose_b64 (X : bh_X) (N : Nat) (k8 : Nat → Int32 → Int32 → Int32 → Int32 → bh_S → Option (Unit × bh_S)) (hk8 : ∀ (this : Nat) (x1 : Int32) (x2 : Int32) (x3 : Int32) (x4 : Int32) (σ : bh_S), bh_J eU yX5_choose cX5_choose wsX5_choose none 7 2 37 X σ 8 [(0, .ref this), (1, .int x1), (2, .int x2), (3, .int x3), (4, .int x4)] [] (k8 this x1 x2 x3 x4 σ)) (this : Nat) (x1 : Int32) (x2 : Int32) (x3 : Int32) (x4 : Int32) (σ : bh_S) : bh_J eU yX5_choose cX5_choose wsX5_choose none 7 2 37 X σ 64 [(0, .ref this), (1, .int x1), (2, .int x2), (3, .int x3), (4, .int x4)] [] (f_X5_choose_b64 N k8 this x1 x2 x3 x4 σ) := by
  unfold f_X5_choose_b64
  refine bj_iinc (v := x4 + 1) (lv' := [(4, .int (x4 + 1)), (0, .ref this), (1, .int x1), (2, .int x2), (3, .int x3)]) dX5_choose_64 4 rfl rfl (by decide) rfl ?_
  refine bj_goto (tgt := 8) dX5_choose_67 (by decide) ?_
  refine bj_sub (lv' := [(0, .ref this), (1, .int x1), (2, .int x2), (3, .int x3), (4, .int (x4 + 1))]) [1, 2, 3, 4, 0] rfl ?_
  exact hk8 this x1 x2 x3 (x4 + 1) σ
def f_X5_choose_b8 (N : Nat) : Nat → Nat → Int32 → Int32 → Int32 → Int32 → bh_S → Option (Unit × bh_S)
  | 0, _, _, _, _, _, _ => none
  | n + 1, this, x1, x2, x3, x4, σ =>
    (bh_rdI σ 6 this 5).bind fun v1 =>
    if v1 ≤ x4 then
      (bh_rdR σ 6 this 4).bind fun v4 =>
      (v4).bind fun a6 =>
      (bh_stI σ 12 a6 x1 x2).bind fun σ8 =>
      (bh_rdR σ8 6 this 3).bind fun v10 =>
      (v10).bind fun a12 =>
      (bh_stI σ8 12 a12 x1 x3).bind fun σ14 =>
      some ((), σ14)
    else
      if (x1 &&& (1 <<< (x4 &&& 31))) = 0 then
        (bh_ck σ this 6).bind fun _ =>
        bh_bnd (f_X5_wasteOfWaiting this x4 x1 σ) fun v18 σ19 =>
        (bh_rdR σ19 6 this 3).bind fun v21 =>
        (v21).bind fun a23 =>
        (bh_ldI σ19 12 a23 (x1 + (1 <<< (x4 &&& 31)))).bind fun v25 =>
        if x3 ≤ (v18 + v25) then
          f_X5_choose_b64 N (f_X5_choose_b8 N n) this x1 x2 x3 x4 σ19
        else
          f_X5_choose_b64 N (f_X5_choose_b8 N n) this x1 x4 (v18 + v25) x4 σ19
      else
        f_X5_choose_b64 N (f_X5_choose_b8 N n) this x1 x2 x3 x4 σ
set_option maxHeartbeats 4000000 in
set_option maxRecDepth 100000 in
theorem j_X5_choose_b8 (X : bh_X) (N : Nat) : ∀ (n : Nat) (this : Nat) (x1 : Int32) (x2 : Int32) (x3 : Int32) (x4 : Int32) (σ : bh_S), bh_J eU yX5_choose cX5_choose wsX5_choose none 7 2 37 X σ 8 [(0, .ref this), (1, .int x1), (2, .int x2), (3, .int x3), (4, .int x4)] [] (f_X5_choose_b8 N n this x1 x2 x3 x4 σ) := by
  intro n
  induction n with
  | zero => intro this x1 x2 x3 x4 σ; exact bj_none
  | succ n ih =>
    intro this x1 x2 x3 x4 σ
    unfold f_X5_choose_b8
    refine bj_iload dX5_choose_8 4 rfl ?_
    refine bj_aload_nS dX5_choose_10 rfl 0 rfl ?_
    refine bj_getI (ci := 6) (k := 5) (C := RX5) (T := TX5) (N := 7) rfl hi_X5_choose_X5 (by decide) rfl fl_X5_choose_29 (Or.inl rfl) dX5_choose_11 (fun v1 h2 => ?_)
    refine bj_icmp_ge (tgt := 70) dX5_choose_14 (by decide) (fun h3 => ?_) (fun h3 => ?_)
    · refine bj_aload_nS dX5_choose_70 rfl 0 rfl ?_
      refine bj_getR (ci := 6) (k := 4) (C := RX5) (T := TX5) (N := 7) rfl hi_X5_choose_X5 (by decide) rfl fl_X5_choose_26 (Or.inl rfl) dX5_choose_71 (fun v4 h5 => ?_)
      refine bj_iload_n dX5_choose_74 rfl 1 rfl ?_
      refine bj_iload_n dX5_choose_75 rfl 2 rfl ?_
      refine bj_nn (fun a6 h7 => ?_)
      subst h7
      refine bj_iast dX5_choose_76 (fun σ8 h9 => ?_)
      refine bj_aload_nS dX5_choose_77 rfl 0 rfl ?_
      refine bj_getR (ci := 6) (k := 3) (C := RX5) (T := TX5) (N := 7) rfl hi_X5_choose_X5 (by decide) rfl fl_X5_choose_23 (Or.inl rfl) dX5_choose_78 (fun v10 h11 => ?_)
      refine bj_iload_n dX5_choose_81 rfl 1 rfl ?_
      refine bj_iload_n dX5_choose_82 rfl 3 rfl ?_
      refine bj_nn (fun a12 h13 => ?_)
      subst h13
      refine bj_iast dX5_choose_83 (fun σ14 h15 => ?_)
      exact bj_vret dX5_choose_84
    · refine bj_iconst (v := 1) dX5_choose_17 (by decide) ?_
      refine bj_iload dX5_choose_18 4 rfl ?_
      refine bj_ishl dX5_choose_20 ?_
      refine bj_istore (lv' := [(5, .int (1 <<< (x4 &&& 31))), (0, .ref this), (1, .int x1), (2, .int x2), (3, .int x3), (4, .int x4)]) dX5_choose_21 (by decide) rfl ?_
      refine bj_iload_n dX5_choose_23 rfl 2 rfl ?_
      refine bj_iload dX5_choose_24 0 rfl ?_
      refine bj_iand dX5_choose_26 ?_
      refine bj_if_eq (tgt := 33) dX5_choose_27 (by decide) (fun h16 => ?_) (fun h16 => ?_)
      · refine bj_aload_nS dX5_choose_33 rfl 1 rfl ?_
        refine bj_iload dX5_choose_34 5 rfl ?_
        refine bj_iload_n dX5_choose_36 rfl 2 rfl ?_
        refine bj_op (fun _ h17 => ?_)
        refine bj_callI (br_V (As := [.int x4, .int x1]) (rest := []) (q := (RX5, TX5, 7)) (c_X5_wasteOfWaiting X this x4 x1 σ) rfl g_X5_choose_X5_wasteOfWaiting_76 rfl (bh_ck_spec h17) ⟨rfl, hd_X5_wasteOfWaiting⟩ rfl ⟨by decide, by decide⟩ rfl (Nat.le_of_ble_eq_true rfl) dX5_choose_37) (fun v18 σ19 h20 => ?_)
        refine bj_aload_nS dX5_choose_40 rfl 1 rfl ?_
        refine bj_getR (ci := 6) (k := 3) (C := RX5) (T := TX5) (N := 7) rfl hi_X5_choose_X5 (by decide) rfl fl_X5_choose_23 (Or.inl rfl) dX5_choose_41 (fun v21 h22 => ?_)
        refine bj_iload_n dX5_choose_44 rfl 2 rfl ?_
        refine bj_iload dX5_choose_45 0 rfl ?_
        refine bj_iadd dX5_choose_47 ?_
        refine bj_nn (fun a23 h24 => ?_)
        subst h24
        refine bj_iald dX5_choose_48 (fun v25 h26 => ?_)
        refine bj_iadd dX5_choose_49 ?_
        refine bj_istore (lv' := [(6, .int (v18 + v25)), (5, .int (1 <<< (x4 &&& 31))), (0, .ref this), (1, .int x1), (2, .int x2), (3, .int x3), (4, .int x4)]) dX5_choose_50 (by decide) rfl ?_
        refine bj_iload dX5_choose_52 0 rfl ?_
        refine bj_iload_n dX5_choose_54 rfl 5 rfl ?_
        refine bj_icmp_ge (tgt := 64) dX5_choose_55 (by decide) (fun h27 => ?_) (fun h27 => ?_)
        · refine bj_sub (lv' := [(0, .ref this), (1, .int x1), (2, .int x2), (3, .int x3), (4, .int x4)]) [2, 3, 4, 5, 6] rfl ?_
          exact j_X5_choose_b64 X N (f_X5_choose_b8 N n) ih this x1 x2 x3 x4 σ19
        · refine bj_iload dX5_choose_58 6 rfl ?_
          refine bj_istore_n (lv' := [(2, .int x4), (6, .int (v18 + v25)), (5, .int (1 <<< (x4 &&& 31))), (0, .ref this), (1, .int x1), (3, .int x3), (4, .int x4)]) dX5_choose_60 rfl (by decide) rfl ?_
          refine bj_iload dX5_choose_61 1 rfl ?_
          refine bj_istore_n (lv' := [(3, .int (v18 + v25)), (2, .int x4), (6, .int (v18 + v25)), (5, .int (1 <<< (x4 &&& 31))), (0, .ref this), (1, .int x1), (4, .int x4)]) dX5_choose_63 rfl (by decide) rfl ?_
          refine bj_sub (lv' := [(0, .ref this), (1, .int x1), (2, .int x4), (3, .int (v18 + v25)), (4, .int x4)]) [4, 5, 1, 0, 6] rfl ?_
          exact j_X5_choose_b64 X N (f_X5_choose_b8 N n) ih this x1 x4 (v18 + v25) x4 σ19
      · refine bj_goto (tgt := 64) dX5_choose_30 (by decide) ?_
        refine bj_sub (lv' := [(0, .ref this), (1, .int x1), (2, .int x2), (3, .int x3), (4, .int x4)]) [1, 2, 3, 4, 5] rfl ?_
        exact j_X5_choose_b64 X N (f_X5_choose_b8 N n) ih this x1 x2 x3 x4 σ
def f_X5_choose (N : Nat) (this : Nat) (p1 : Int32) (σ : bh_S) : Option (Unit × bh_S) :=
  f_X5_choose_b8 N N this p1 0 2147483647 0 σ
set_option maxHeartbeats 4000000 in
set_option maxRecDepth 100000 in
theorem c_X5_choose (X : bh_X) (N : Nat) (this : Nat) (p1 : Int32) (σ : bh_S) : bh_MX eU X yX5_choose wsX5_choose 2 37 [.ref this, .int p1] σ (f_X5_choose N this p1 σ) := by
  refine bh_enter (cc := cX5_choose) (NL := 7) (ret := none) (by decide) rfl (Nat.le_of_ble_eq_true rfl) (fun X => ?_)
  show bh_J eU yX5_choose cX5_choose wsX5_choose none 7 2 37 X σ 0 [(0, .ref this), (1, .int p1)] [] _
  unfold f_X5_choose
  refine bj_iconst (v := 0) dX5_choose_0 (by decide) ?_
  refine bj_istore_n (lv' := [(2, .int 0), (0, .ref this), (1, .int p1)]) dX5_choose_1 rfl (by decide) rfl ?_
  refine bj_ldc dX5_choose_2 (List.mem_of_getElem? (i := 1) rfl) ?_
  refine bj_istore_n (lv' := [(3, .int 2147483647), (2, .int 0), (0, .ref this), (1, .int p1)]) dX5_choose_4 rfl (by decide) rfl ?_
  refine bj_iconst (v := 0) dX5_choose_5 (by decide) ?_
  refine bj_istore (lv' := [(4, .int 0), (3, .int 2147483647), (2, .int 0), (0, .ref this), (1, .int p1)]) dX5_choose_6 (by decide) rfl ?_
  refine bj_sub (lv' := [(0, .ref this), (1, .int p1), (2, .int 0), (3, .int 2147483647), (4, .int 0)]) [3, 4, 2, 1, 0] rfl ?_
  exact j_X5_choose_b8 X N N this p1 0 2147483647 0 σ
/-! BeetHouse$Orders.search()V -/
theorem hi_X5_search_X5 : ∀ w ∈ u_ws RX5 TX5 7, w ∈ wsX5_search := fun _ h => (List.mem_cons_of_mem _ (List.mem_append_right _ h))
set_option maxRecDepth 100000 in
theorem fl_X5_search_29 : bh_fl wsX5_search yX5_search.cls 29 "BeetHouse$Orders" "size" "I" := Or.inl (List.mem_of_getElem? (i := 1) rfl)
set_option maxRecDepth 100000 in
theorem fl_X5_search_23 : bh_fl wsX5_search yX5_search.cls 23 "BeetHouse$Orders" "leastAfter" "[I" := Or.inl (List.mem_of_getElem? (i := 2) rfl)
set_option maxRecDepth 100000 in
theorem g_X5_search_X5_choose_64 : GoodIn wsX5_search (wsV yX5_search.cls 64 RX5 yX5_choose wsX5_choose) := goodIn_r _ [3, 4, 5, 6, 7, 8, 1, 2, 9, 10, 11, 12, 6, 13, 14, 15, 16, 17, 18, 19, 20, 21, 22, 23, 24, 25, 26, 27] rfl (by decide +kernel)
def f_X5_search_b20 (N : Nat) : Nat → Nat → Int32 → bh_S → Option (Unit × bh_S)
  | 0, _, _, _ => none
  | n + 1, this, x2, σ =>
    if x2 < 0 then
      some ((), σ)
    else
      (bh_ck σ this 6).bind fun _ =>
      bh_bnd (f_X5_choose N this x2 σ) fun v3 σ4 =>
      f_X5_search_b20 N n this (x2 + (-1)) σ4
set_option maxHeartbeats 4000000 in
set_option maxRecDepth 100000 in
theorem j_X5_search_b20 (X : bh_X) (N : Nat) : ∀ (n : Nat) (this : Nat) (x2 : Int32) (σ : bh_S), bh_J eU yX5_search cX5_search wsX5_search none 3 3 63 X σ 20 [(0, .ref this), (2, .int x2)] [] (f_X5_search_b20 N n this x2 σ) := by
  intro n
  induction n with
  | zero => intro this x2 σ; exact bj_none
  | succ n ih =>
    intro this x2 σ
    unfold f_X5_search_b20
    refine bj_iload_n dX5_search_20 rfl 1 rfl ?_
    refine bj_if_lt (tgt := 35) dX5_search_21 (by decide) (fun h1 => ?_) (fun h1 => ?_)
    · exact bj_vret dX5_search_35
    · refine bj_aload_nS dX5_search_24 rfl 0 rfl ?_
      refine bj_iload_n dX5_search_25 rfl 1 rfl ?_
      refine bj_op (fun _ h2 => ?_)
      refine bj_callU (br_V (As := [.int x2]) (rest := []) (q := (RX5, TX5, 7)) (c_X5_choose X N this x2 σ) rfl g_X5_search_X5_choose_64 rfl (bh_ck_spec h2) ⟨rfl, hd_X5_choose⟩ rfl ⟨by decide, by decide⟩ rfl (Nat.le_of_ble_eq_true rfl) dX5_search_26) (fun v3 σ4 h5 => ?_)
      refine bj_iinc (v := x2 + (-1)) (lv' := [(2, .int (x2 + (-1))), (0, .ref this)]) dX5_search_29 1 rfl rfl (by decide) rfl ?_
      refine bj_goto (tgt := 20) dX5_search_32 (by decide) ?_
      refine bj_sub (lv' := [(0, .ref this), (2, .int (x2 + (-1)))]) [1, 0] rfl ?_
      exact ih this (x2 + (-1)) σ4
def f_X5_search (N : Nat) (this : Nat) (σ : bh_S) : Option (Unit × bh_S) :=
  (bh_rdI σ 6 this 5).bind fun v1 =>
  (bh_rdR σ 6 this 3).bind fun v3 =>
  (v3).bind fun a5 =>
  (bh_stI σ 12 a5 ((1 <<< (v1 &&& 31)) - 1) 0).bind fun σ7 =>
  f_X5_search_b20 N N this (((1 <<< (v1 &&& 31)) - 1) - 1) σ7
set_option maxHeartbeats 4000000 in
set_option maxRecDepth 100000 in
theorem c_X5_search (X : bh_X) (N : Nat) (this : Nat) (σ : bh_S) : bh_MX eU X yX5_search wsX5_search 3 63 [.ref this] σ (f_X5_search N this σ) := by
  refine bh_enter (cc := cX5_search) (NL := 3) (ret := none) (by decide) rfl (Nat.le_of_ble_eq_true rfl) (fun X => ?_)
  show bh_J eU yX5_search cX5_search wsX5_search none 3 3 63 X σ 0 [(0, .ref this)] [] _
  unfold f_X5_search
  refine bj_iconst (v := 1) dX5_search_0 (by decide) ?_
  refine bj_aload_nS dX5_search_1 rfl 0 rfl ?_
  refine bj_getI (ci := 6) (k := 5) (C := RX5) (T := TX5) (N := 7) rfl hi_X5_search_X5 (by decide) rfl fl_X5_search_29 (Or.inl rfl) dX5_search_2 (fun v1 h2 => ?_)
  refine bj_ishl dX5_search_5 ?_
  refine bj_iconst (v := 1) dX5_search_6 (by decide) ?_
  refine bj_isub dX5_search_7 ?_
  refine bj_istore_n (lv' := [(1, .int ((1 <<< (v1 &&& 31)) - 1)), (0, .ref this)]) dX5_search_8 rfl (by decide) rfl ?_
  refine bj_aload_nS dX5_search_9 rfl 1 rfl ?_
  refine bj_getR (ci := 6) (k := 3) (C := RX5) (T := TX5) (N := 7) rfl hi_X5_search_X5 (by decide) rfl fl_X5_search_23 (Or.inl rfl) dX5_search_10 (fun v3 h4 => ?_)
  refine bj_iload_n dX5_search_13 rfl 0 rfl ?_
  refine bj_iconst (v := 0) dX5_search_14 (by decide) ?_
  refine bj_nn (fun a5 h6 => ?_)
  subst h6
  refine bj_iast dX5_search_15 (fun σ7 h8 => ?_)
  refine bj_iload_n dX5_search_16 rfl 0 rfl ?_
  refine bj_iconst (v := 1) dX5_search_17 (by decide) ?_
  refine bj_isub dX5_search_18 ?_
  refine bj_istore_n (lv' := [(2, .int (((1 <<< (v1 &&& 31)) - 1) - 1)), (1, .int ((1 <<< (v1 &&& 31)) - 1)), (0, .ref this)]) dX5_search_19 rfl (by decide) rfl ?_
  refine bj_sub (lv' := [(0, .ref this), (2, .int (((1 <<< (v1 &&& 31)) - 1) - 1))]) [2, 0] rfl ?_
  exact j_X5_search_b20 X N N this (((1 <<< (v1 &&& 31)) - 1) - 1) σ7
/-! BeetHouse$Orders.leastWaste()I -/
theorem hi_X5_leastWaste_X5 : ∀ w ∈ u_ws RX5 TX5 7, w ∈ wsX5_leastWaste := fun _ h => (List.mem_cons_of_mem _ (List.mem_append_right _ h))
set_option maxRecDepth 100000 in
theorem fl_X5_leastWaste_23 : bh_fl wsX5_leastWaste yX5_leastWaste.cls 23 "BeetHouse$Orders" "leastAfter" "[I" := Or.inl (List.mem_of_getElem? (i := 1) rfl)
def f_X5_leastWaste (this : Nat) (σ : bh_S) : Option (Int32 × bh_S) :=
  (bh_rdR σ 6 this 3).bind fun v1 =>
  (v1).bind fun a3 =>
  (bh_ldI σ 12 a3 0).bind fun v5 =>
  some (v5, σ)
set_option maxHeartbeats 4000000 in
set_option maxRecDepth 100000 in
theorem c_X5_leastWaste (X : bh_X) (this : Nat) (σ : bh_S) : bh_MX eI X yX5_leastWaste wsX5_leastWaste 0 0 [.ref this] σ (f_X5_leastWaste this σ) := by
  refine bh_enter (cc := cX5_leastWaste) (NL := 1) (ret := (some .int)) (by decide) rfl (Nat.le_of_ble_eq_true rfl) (fun X => ?_)
  show bh_J eI yX5_leastWaste cX5_leastWaste wsX5_leastWaste (some .int) 1 0 0 X σ 0 [(0, .ref this)] [] _
  unfold f_X5_leastWaste
  refine bj_aload_nS dX5_leastWaste_0 rfl 0 rfl ?_
  refine bj_getR (ci := 6) (k := 3) (C := RX5) (T := TX5) (N := 7) rfl hi_X5_leastWaste_X5 (by decide) rfl fl_X5_leastWaste_23 (Or.inl rfl) dX5_leastWaste_1 (fun v1 h2 => ?_)
  refine bj_iconst (v := 0) dX5_leastWaste_4 (by decide) ?_
  refine bj_nn (fun a3 h4 => ?_)
  subst h4
  refine bj_iald dX5_leastWaste_5 (fun v5 h6 => ?_)
  exact bj_iret dX5_leastWaste_6
/-! BeetHouse$Orders.plotAtPlace(I)I -/
theorem hi_X5_plotAtPlace_X5 : ∀ w ∈ u_ws RX5 TX5 7, w ∈ wsX5_plotAtPlace := fun _ h => (List.mem_cons_of_mem _ (List.mem_append_right _ h))
set_option maxRecDepth 100000 in
theorem fl_X5_plotAtPlace_29 : bh_fl wsX5_plotAtPlace yX5_plotAtPlace.cls 29 "BeetHouse$Orders" "size" "I" := Or.inl (List.mem_of_getElem? (i := 1) rfl)
set_option maxRecDepth 100000 in
theorem fl_X5_plotAtPlace_26 : bh_fl wsX5_plotAtPlace yX5_plotAtPlace.cls 26 "BeetHouse$Orders" "chosenAfter" "[I" := Or.inl (List.mem_of_getElem? (i := 2) rfl)
set_option maxRecDepth 100000 in
theorem fl_X5_plotAtPlace_9 : bh_fl wsX5_plotAtPlace yX5_plotAtPlace.cls 9 "BeetHouse$Orders" "numbers" "[I" := Or.inl (List.mem_of_getElem? (i := 3) rfl)
def f_X5_plotAtPlace_b60 (N : Nat) (k27 : Nat → Int32 → Int32 → Int32 → Int32 → bh_S → Option (Int32 × bh_S)) (this : Nat) (x1 : Int32) (x2 : Int32) (x4 : Int32) (t0 : Int32) (σ : bh_S) : Option (Int32 × bh_S) :=
  k27 this x1 x2 t0 (x4 + 1) σ
set_option maxHeartbeats 4000000 in
set_option maxRecDepth 100000 in
theorem j_X5_plotAtPlace_b60 (X : bh_X) (N : Nat) (k27 : Nat → Int32 → Int32 → Int32 → Int32 → bh_S → Option (Int32 × bh_S)) (hk27 : ∀ (this : Nat) (x1 : Int32) (x2 : Int32) (x3 : Int32) (x4 : Int32) (σ : bh_S), bh_J eI yX5_plotAtPlace cX5_plotAtPlace wsX5_plotAtPlace (some .int) 5 0 0 X σ 27 [(0, .ref this), (1, .int x1), (2, .int x2), (3, .int x3), (4, .int x4)] [] (k27 this x1 x2 x3 x4 σ)) (this : Nat) (x1 : Int32) (x2 : Int32) (x4 : Int32) (t0 : Int32) (σ : bh_S) : bh_J eI yX5_plotAtPlace cX5_plotAtPlace wsX5_plotAtPlace (some .int) 5 0 0 X σ 60 [(0, .ref this), (1, .int x1), (2, .int x2), (4, .int x4)] [.int t0] (f_X5_plotAtPlace_b60 N k27 this x1 x2 x4 t0 σ) := by
  unfold f_X5_plotAtPlace_b60
  refine bj_istore_n (lv' := [(3, .int t0), (0, .ref this), (1, .int x1), (2, .int x2), (4, .int x4)]) dX5_plotAtPlace_60 rfl (by decide) rfl ?_
  refine bj_iinc (v := x4 + 1) (lv' := [(4, .int (x4 + 1)), (3, .int t0), (0, .ref this), (1, .int x1), (2, .int x2)]) dX5_plotAtPlace_61 4 rfl rfl (by decide) rfl ?_
  refine bj_goto (tgt := 27) dX5_plotAtPlace_64 (by decide) ?_
  refine bj_sub (lv' := [(0, .ref this), (1, .int x1), (2, .int x2), (3, .int t0), (4, .int (x4 + 1))]) [2, 3, 4, 1, 0] rfl ?_
  exact hk27 this x1 x2 t0 (x4 + 1) σ
def f_X5_plotAtPlace_b59 (N : Nat) (k27 : Nat → Int32 → Int32 → Int32 → Int32 → bh_S → Option (Int32 × bh_S)) (this : Nat) (x1 : Int32) (x2 : Int32) (x4 : Int32) (σ : bh_S) : Option (Int32 × bh_S) :=
  f_X5_plotAtPlace_b60 N k27 this x1 x2 x4 0 σ
set_option maxHeartbeats 4000000 in
set_option maxRecDepth 100000 in
theorem j_X5_plotAtPlace_b59 (X : bh_X) (N : Nat) (k27 : Nat → Int32 → Int32 → Int32 → Int32 → bh_S → Option (Int32 × bh_S)) (hk27 : ∀ (this : Nat) (x1 : Int32) (x2 : Int32) (x3 : Int32) (x4 : Int32) (σ : bh_S), bh_J eI yX5_plotAtPlace cX5_plotAtPlace wsX5_plotAtPlace (some .int) 5 0 0 X σ 27 [(0, .ref this), (1, .int x1), (2, .int x2), (3, .int x3), (4, .int x4)] [] (k27 this x1 x2 x3 x4 σ)) (this : Nat) (x1 : Int32) (x2 : Int32) (x4 : Int32) (σ : bh_S) : bh_J eI yX5_plotAtPlace cX5_plotAtPlace wsX5_plotAtPlace (some .int) 5 0 0 X σ 59 [(0, .ref this), (1, .int x1), (2, .int x2), (4, .int x4)] [] (f_X5_plotAtPlace_b59 N k27 this x1 x2 x4 σ) := by
  unfold f_X5_plotAtPlace_b59
  refine bj_iconst (v := 0) dX5_plotAtPlace_59 (by decide) ?_
  refine bj_sub (lv' := [(0, .ref this), (1, .int x1), (2, .int x2), (4, .int x4)]) [0, 1, 2, 3] rfl ?_
  exact j_X5_plotAtPlace_b60 X N k27 hk27 this x1 x2 x4 0 σ
def f_X5_plotAtPlace_b27 (N : Nat) : Nat → Nat → Int32 → Int32 → Int32 → Int32 → bh_S → Option (Int32 × bh_S)
  | 0, _, _, _, _, _, _ => none
  | n + 1, this, x1, x2, x3, x4, σ =>
    if x1 ≤ x4 then
      if x3 < 0 then
        some ((-9), σ)
      else
        (bh_rdI σ 6 this 5).bind fun v3 =>
        if v3 ≤ x3 then
          some ((-9), σ)
        else
          (bh_rdR σ 6 this 0).bind fun v6 =>
          (v6).bind fun a8 =>
          (bh_ldI σ 12 a8 x3).bind fun v10 =>
          some (v10, σ)
    else
      if (x2 ||| (1 <<< (x3 &&& 31))) < 0 then
        f_X5_plotAtPlace_b59 N (f_X5_plotAtPlace_b27 N n) this x1 (x2 ||| (1 <<< (x3 &&& 31))) x4 σ
      else
        if (256 : Int32) ≤ (x2 ||| (1 <<< (x3 &&& 31))) then
          f_X5_plotAtPlace_b59 N (f_X5_plotAtPlace_b27 N n) this x1 (x2 ||| (1 <<< (x3 &&& 31))) x4 σ
        else
          (bh_rdR σ 6 this 4).bind fun v14 =>
          (v14).bind fun a16 =>
          (bh_ldI σ 12 a16 (x2 ||| (1 <<< (x3 &&& 31)))).bind fun v18 =>
          f_X5_plotAtPlace_b60 N (f_X5_plotAtPlace_b27 N n) this x1 (x2 ||| (1 <<< (x3 &&& 31))) x4 v18 σ
set_option maxHeartbeats 4000000 in
set_option maxRecDepth 100000 in
theorem j_X5_plotAtPlace_b27 (X : bh_X) (N : Nat) : ∀ (n : Nat) (this : Nat) (x1 : Int32) (x2 : Int32) (x3 : Int32) (x4 : Int32) (σ : bh_S), bh_J eI yX5_plotAtPlace cX5_plotAtPlace wsX5_plotAtPlace (some .int) 5 0 0 X σ 27 [(0, .ref this), (1, .int x1), (2, .int x2), (3, .int x3), (4, .int x4)] [] (f_X5_plotAtPlace_b27 N n this x1 x2 x3 x4 σ) := by
  intro n
  induction n with
  | zero => intro this x1 x2 x3 x4 σ; exact bj_none
  | succ n ih =>
    intro this x1 x2 x3 x4 σ
    unfold f_X5_plotAtPlace_b27
    refine bj_iload dX5_plotAtPlace_27 4 rfl ?_
    refine bj_iload_n dX5_plotAtPlace_29 rfl 1 rfl ?_
    refine bj_icmp_ge (tgt := 67) dX5_plotAtPlace_30 (by decide) (fun h1 => ?_) (fun h1 => ?_)
    · refine bj_iload_n dX5_plotAtPlace_67 rfl 3 rfl ?_
      refine bj_if_lt (tgt := 88) dX5_plotAtPlace_68 (by decide) (fun h2 => ?_) (fun h2 => ?_)
      · refine bj_bipush (v := (-9)) dX5_plotAtPlace_88 (by decide) ?_
        exact bj_iret dX5_plotAtPlace_90
      · refine bj_iload_n dX5_plotAtPlace_71 rfl 3 rfl ?_
        refine bj_aload_nS dX5_plotAtPlace_72 rfl 0 rfl ?_
        refine bj_getI (ci := 6) (k := 5) (C := RX5) (T := TX5) (N := 7) rfl hi_X5_plotAtPlace_X5 (by decide) rfl fl_X5_plotAtPlace_29 (Or.inl rfl) dX5_plotAtPlace_73 (fun v3 h4 => ?_)
        refine bj_icmp_ge (tgt := 88) dX5_plotAtPlace_76 (by decide) (fun h5 => ?_) (fun h5 => ?_)
        · refine bj_bipush (v := (-9)) dX5_plotAtPlace_88 (by decide) ?_
          exact bj_iret dX5_plotAtPlace_90
        · refine bj_aload_nS dX5_plotAtPlace_79 rfl 0 rfl ?_
          refine bj_getR (ci := 6) (k := 0) (C := RX5) (T := TX5) (N := 7) rfl hi_X5_plotAtPlace_X5 (by decide) rfl fl_X5_plotAtPlace_9 (Or.inl rfl) dX5_plotAtPlace_80 (fun v6 h7 => ?_)
          refine bj_iload_n dX5_plotAtPlace_83 rfl 3 rfl ?_
          refine bj_nn (fun a8 h9 => ?_)
          subst h9
          refine bj_iald dX5_plotAtPlace_84 (fun v10 h11 => ?_)
          refine bj_goto (tgt := 90) dX5_plotAtPlace_85 (by decide) ?_
          exact bj_iret dX5_plotAtPlace_90
    · refine bj_iload_n dX5_plotAtPlace_33 rfl 2 rfl ?_
      refine bj_iconst (v := 1) dX5_plotAtPlace_34 (by decide) ?_
      refine bj_iload_n dX5_plotAtPlace_35 rfl 3 rfl ?_
      refine bj_ishl dX5_plotAtPlace_36 ?_
      refine bj_ior dX5_plotAtPlace_37 ?_
      refine bj_istore_n (lv' := [(2, .int (x2 ||| (1 <<< (x3 &&& 31)))), (0, .ref this), (1, .int x1), (3, .int x3), (4, .int x4)]) dX5_plotAtPlace_38 rfl (by decide) rfl ?_
      refine bj_iload_n dX5_plotAtPlace_39 rfl 0 rfl ?_
      refine bj_if_lt (tgt := 59) dX5_plotAtPlace_40 (by decide) (fun h12 => ?_) (fun h12 => ?_)
      · refine bj_sub (lv' := [(0, .ref this), (1, .int x1), (2, .int (x2 ||| (1 <<< (x3 &&& 31)))), (4, .int x4)]) [1, 2, 0, 4] rfl ?_
        exact j_X5_plotAtPlace_b59 X N (f_X5_plotAtPlace_b27 N n) ih this x1 (x2 ||| (1 <<< (x3 &&& 31))) x4 σ
      · refine bj_iload_n dX5_plotAtPlace_43 rfl 0 rfl ?_
        refine bj_sipush (v := 256) dX5_plotAtPlace_44 (by decide) ?_
        refine bj_icmp_ge (tgt := 59) dX5_plotAtPlace_47 (by decide) (fun h13 => ?_) (fun h13 => ?_)
        · refine bj_sub (lv' := [(0, .ref this), (1, .int x1), (2, .int (x2 ||| (1 <<< (x3 &&& 31)))), (4, .int x4)]) [1, 2, 0, 4] rfl ?_
          exact j_X5_plotAtPlace_b59 X N (f_X5_plotAtPlace_b27 N n) ih this x1 (x2 ||| (1 <<< (x3 &&& 31))) x4 σ
        · refine bj_aload_nS dX5_plotAtPlace_50 rfl 1 rfl ?_
          refine bj_getR (ci := 6) (k := 4) (C := RX5) (T := TX5) (N := 7) rfl hi_X5_plotAtPlace_X5 (by decide) rfl fl_X5_plotAtPlace_26 (Or.inl rfl) dX5_plotAtPlace_51 (fun v14 h15 => ?_)
          refine bj_iload_n dX5_plotAtPlace_54 rfl 0 rfl ?_
          refine bj_nn (fun a16 h17 => ?_)
          subst h17
          refine bj_iald dX5_plotAtPlace_55 (fun v18 h19 => ?_)
          refine bj_goto (tgt := 60) dX5_plotAtPlace_56 (by decide) ?_
          refine bj_sub (lv' := [(0, .ref this), (1, .int x1), (2, .int (x2 ||| (1 <<< (x3 &&& 31)))), (4, .int x4)]) [1, 2, 0, 4] rfl ?_
          exact j_X5_plotAtPlace_b60 X N (f_X5_plotAtPlace_b27 N n) ih this x1 (x2 ||| (1 <<< (x3 &&& 31))) x4 v18 σ
def f_X5_plotAtPlace (N : Nat) (this : Nat) (p1 : Int32) (σ : bh_S) : Option (Int32 × bh_S) :=
  if p1 < 0 then
    some ((-9), σ)
  else
    (bh_rdI σ 6 this 5).bind fun v2 =>
    if p1 < v2 then
      (bh_rdR σ 6 this 4).bind fun v5 =>
      (v5).bind fun a7 =>
      (bh_ldI σ 12 a7 0).bind fun v9 =>
      f_X5_plotAtPlace_b27 N N this p1 0 v9 0 σ
    else
      some ((-9), σ)
set_option maxHeartbeats 4000000 in
set_option maxRecDepth 100000 in
theorem c_X5_plotAtPlace (X : bh_X) (N : Nat) (this : Nat) (p1 : Int32) (σ : bh_S) : bh_MX eI X yX5_plotAtPlace wsX5_plotAtPlace 0 0 [.ref this, .int p1] σ (f_X5_plotAtPlace N this p1 σ) := by
  refine bh_enter (cc := cX5_plotAtPlace) (NL := 5) (ret := (some .int)) (by decide) rfl (Nat.le_of_ble_eq_true rfl) (fun X => ?_)
  show bh_J eI yX5_plotAtPlace cX5_plotAtPlace wsX5_plotAtPlace (some .int) 5 0 0 X σ 0 [(0, .ref this), (1, .int p1)] [] _
  unfold f_X5_plotAtPlace
  refine bj_iload_n dX5_plotAtPlace_0 rfl 1 rfl ?_
  refine bj_if_lt (tgt := 12) dX5_plotAtPlace_1 (by decide) (fun h1 => ?_) (fun h1 => ?_)
  · refine bj_bipush (v := (-9)) dX5_plotAtPlace_12 (by decide) ?_
    exact bj_iret dX5_plotAtPlace_14
  · refine bj_iload_n dX5_plotAtPlace_4 rfl 1 rfl ?_
    refine bj_aload_nS dX5_plotAtPlace_5 rfl 0 rfl ?_
    refine bj_getI (ci := 6) (k := 5) (C := RX5) (T := TX5) (N := 7) rfl hi_X5_plotAtPlace_X5 (by decide) rfl fl_X5_plotAtPlace_29 (Or.inl rfl) dX5_plotAtPlace_6 (fun v2 h3 => ?_)
    refine bj_icmp_lt (tgt := 15) dX5_plotAtPlace_9 (by decide) (fun h4 => ?_) (fun h4 => ?_)
    · refine bj_iconst (v := 0) dX5_plotAtPlace_15 (by decide) ?_
      refine bj_istore_n (lv' := [(2, .int 0), (0, .ref this), (1, .int p1)]) dX5_plotAtPlace_16 rfl (by decide) rfl ?_
      refine bj_aload_nS dX5_plotAtPlace_17 rfl 1 rfl ?_
      refine bj_getR (ci := 6) (k := 4) (C := RX5) (T := TX5) (N := 7) rfl hi_X5_plotAtPlace_X5 (by decide) rfl fl_X5_plotAtPlace_26 (Or.inl rfl) dX5_plotAtPlace_18 (fun v5 h6 => ?_)
      refine bj_iconst (v := 0) dX5_plotAtPlace_21 (by decide) ?_
      refine bj_nn (fun a7 h8 => ?_)
      subst h8
      refine bj_iald dX5_plotAtPlace_22 (fun v9 h10 => ?_)
      refine bj_istore_n (lv' := [(3, .int v9), (2, .int 0), (0, .ref this), (1, .int p1)]) dX5_plotAtPlace_23 rfl (by decide) rfl ?_
      refine bj_iconst (v := 0) dX5_plotAtPlace_24 (by decide) ?_
      refine bj_istore (lv' := [(4, .int 0), (3, .int v9), (2, .int 0), (0, .ref this), (1, .int p1)]) dX5_plotAtPlace_25 (by decide) rfl ?_
      refine bj_sub (lv' := [(0, .ref this), (1, .int p1), (2, .int 0), (3, .int v9), (4, .int 0)]) [3, 4, 2, 1, 0] rfl ?_
      exact j_X5_plotAtPlace_b27 X N N this p1 0 v9 0 σ
    · refine bj_bipush (v := (-9)) dX5_plotAtPlace_12 (by decide) ?_
      exact bj_iret dX5_plotAtPlace_14
