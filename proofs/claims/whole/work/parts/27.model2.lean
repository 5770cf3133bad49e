/-! BeetHouseModel.frost(Z)I -/
theorem hi_X10_frost_X10 : ∀ w ∈ u_ws RX10 TX10 49, w ∈ wsX10_frost := fun _ h => (List.mem_cons_of_mem _ (List.mem_append_right _ h))
set_option maxRecDepth 100000 in
theorem fl_X10_frost_161 : bh_fl wsX10_frost yX10_frost.cls 161 "BeetHouseModel" "isFrost" "Z" := Or.inl (List.mem_of_getElem? (i := 1) rfl)
set_option maxRecDepth 100000 in
theorem g_X10_frost_X10_refuse_124 : GoodIn wsX10_frost (wsV yX10_frost.cls 124 RX10 yX10_refuse wsX10_refuse) := goodIn_r _ [8, 9, 10, 11, 12, 13, 14, 15, 16, 17, 18, 19, 20, 21, 22, 23, 24, 25, 26, 27, 28, 29, 30, 31, 32, 33, 34, 35, 36, 37, 38, 39, 40, 41, 42, 43, 44, 45, 46, 47, 48, 49, 50, 51, 52, 53, 54, 55, 56, 57, 58, 59, 60, 61, 62] rfl (by decide +kernel)
set_option maxRecDepth 100000 in
theorem fl_X10_frost_128 : bh_fl wsX10_frost yX10_frost.cls 128 "BeetHouseModel" "fields" "I" := Or.inl (List.mem_of_getElem? (i := 2) rfl)
set_option maxRecDepth 100000 in
theorem fl_X10_frost_44 : bh_fl wsX10_frost yX10_frost.cls 44 "BeetHouseModel" "roots" "[I" := Or.inl (List.mem_of_getElem? (i := 3) rfl)
set_option maxRecDepth 100000 in
theorem fl_X10_frost_66 : bh_fl wsX10_frost yX10_frost.cls 66 "BeetHouseModel" "covered" "[Z" := Or.inl (List.mem_of_getElem? (i := 4) rfl)
set_option maxRecDepth 100000 in
theorem fl_X10_frost_69 : bh_fl wsX10_frost yX10_frost.cls 69 "BeetHouseModel" "frozen" "[Z" := Or.inl (List.mem_of_getElem? (i := 5) rfl)
set_option maxRecDepth 100000 in
theorem fl_X10_frost_50 : bh_fl wsX10_frost yX10_frost.cls 50 "BeetHouseModel" "thawed" "[I" := Or.inl (List.mem_of_getElem? (i := 6) rfl)
set_option maxRecDepth 100000 in
theorem fl_X10_frost_138 : bh_fl wsX10_frost yX10_frost.cls 138 "BeetHouseModel" "hour" "I" := Or.inl (List.mem_of_getElem? (i := 7) rfl)
def f_X10_frost_b117 (N : Nat) (k24 : Nat → Int32 → Int32 → Int32 → bh_S → Option (Int32 × bh_S)) (this : Nat) (x1 : Int32) (x2 : Int32) (x3 : Int32) (σ : bh_S) : Option (Int32 × bh_S) :=
  k24 this x1 x2 (x3 + 1) σ
set_option maxHeartbeats 4000000 in
set_option maxRecDepth 100000 in
theorem j_X10_frost_b117 (X : bh_X) (N : Nat) (k24 : Nat → Int32 → Int32 → Int32 → bh_S → Option (Int32 × bh_S)) (hk24 : ∀ (this : Nat) (x1 : Int32) (x2 : Int32) (x3 : Int32) (σ : bh_S), bh_J eI yX10_frost cX10_frost wsX10_frost (some .int) 4 1 21 X σ 24 [(0, .ref this), (1, .int x1), (2, .int x2), (3, .int x3)] [] (k24 this x1 x2 x3 σ)) (this : Nat) (x1 : Int32) (x2 : Int32) (x3 : Int32) (σ : bh_S) : bh_J eI yX10_frost cX10_frost wsX10_frost (some .int) 4 1 21 X σ 117 [(0, .ref this), (1, .int x1), (2, .int x2), (3, .int x3)] [] (f_X10_frost_b117 N k24 this x1 x2 x3 σ) := by
  unfold f_X10_frost_b117
  refine bj_iinc (v := x3 + 1) (lv' := [(3, .int (x3 + 1)), (0, .ref this), (1, .int x1), (2, .int x2)]) dX10_frost_117 3 rfl rfl (by decide) rfl ?_
  refine bj_goto (tgt := 24) dX10_frost_120 (by decide) ?_
  refine bj_sub (lv' := [(0, .ref this), (1, .int x1), (2, .int x2), (3, .int (x3 + 1))]) [1, 2, 3, 0] rfl ?_
  exact hk24 this x1 x2 (x3 + 1) σ
def f_X10_frost_b72 (N : Nat) (k24 : Nat → Int32 → Int32 → Int32 → bh_S → Option (Int32 × bh_S)) (this : Nat) (x1 : Int32) (x2 : Int32) (x3 : Int32) (σ : bh_S) : Option (Int32 × bh_S) :=
  if x1 = 0 then
    (bh_rdR σ 11 this 30).bind fun v2 =>
    (v2).bind fun a4 =>
    (bh_ldI σ 13 a4 x3).bind fun v6 =>
    if v6 = 0 then
      f_X10_frost_b117 N k24 this x1 x2 x3 σ
    else
      (bh_rdR σ 11 this 30).bind fun v9 =>
      (v9).bind fun a11 =>
      (bh_stZ σ 13 a11 x3 0).bind fun σ13 =>
      (bh_rdR σ13 11 this 22).bind fun v15 =>
      (v15).bind fun a17 =>
      (bh_ldI σ13 12 a17 x3).bind fun v19 =>
      if v19 = 0 then
        f_X10_frost_b117 N k24 this x1 x2 x3 σ13
      else
        (bh_rdR σ13 11 this 24).bind fun v22 =>
        (bh_rdI σ13 11 this 6).bind fun v24 =>
        (v22).bind fun a26 =>
        (bh_stI σ13 12 a26 x3 v24).bind fun σ28 =>
        f_X10_frost_b117 N k24 this x1 (x2 + 1) x3 σ28
  else
    f_X10_frost_b117 N k24 this x1 x2 x3 σ
set_option maxHeartbeats 4000000 in
set_option maxRecDepth 100000 in
theorem j_X10_frost_b72 (X : bh_X) (N : Nat) (k24 : Nat → Int32 → Int32 → Int32 → bh_S → Option (Int32 × bh_S)) (hk24 : ∀ (this : Nat) (x1 : Int32) (x2 : Int32) (x3 : Int32) (σ : bh_S), bh_J eI yX10_frost cX10_frost wsX10_frost (some .int) 4 1 21 X σ 24 [(0, .ref this), (1, .int x1), (2, .int x2), (3, .int x3)] [] (k24 this x1 x2 x3 σ)) (this : Nat) (x1 : Int32) (x2 : Int32) (x3 : Int32) (σ : bh_S) : bh_J eI yX10_frost cX10_frost wsX10_frost (some .int) 4 1 21 X σ 72 [(0, .ref this), (1, .int x1), (2, .int x2), (3, .int x3)] [] (f_X10_frost_b72 N k24 this x1 x2 x3 σ) := by
  unfold f_X10_frost_b72
  refine bj_iload_n dX10_frost_72 rfl 1 rfl ?_
  refine bj_if_ne (tgt := 117) dX10_frost_73 (by decide) (fun h1 => ?_) (fun h1 => ?_)
  · refine bj_sub (lv' := [(0, .ref this), (1, .int x1), (2, .int x2), (3, .int x3)]) [0, 1, 2, 3] rfl ?_
    exact j_X10_frost_b117 X N k24 hk24 this x1 x2 x3 σ
  · refine bj_aload_nS dX10_frost_76 rfl 0 rfl ?_
    refine bj_getR (ci := 11) (k := 30) (C := RX10) (T := TX10) (N := 49) rfl hi_X10_frost_X10 (by decide) rfl fl_X10_frost_69 (Or.inl rfl) dX10_frost_77 (fun v2 h3 => ?_)
    refine bj_iload_n dX10_frost_80 rfl 3 rfl ?_
    refine bj_nn (fun a4 h5 => ?_)
    subst h5
    refine bj_zald dX10_frost_81 (fun v6 h7 => ?_)
    refine bj_if_eq (tgt := 117) dX10_frost_82 (by decide) (fun h8 => ?_) (fun h8 => ?_)
    · refine bj_sub (lv' := [(0, .ref this), (1, .int x1), (2, .int x2), (3, .int x3)]) [0, 1, 2, 3] rfl ?_
      exact j_X10_frost_b117 X N k24 hk24 this x1 x2 x3 σ
    · refine bj_aload_nS dX10_frost_85 rfl 0 rfl ?_
      refine bj_getR (ci := 11) (k := 30) (C := RX10) (T := TX10) (N := 49) rfl hi_X10_frost_X10 (by decide) rfl fl_X10_frost_69 (Or.inl rfl) dX10_frost_86 (fun v9 h10 => ?_)
      refine bj_iload_n dX10_frost_89 rfl 3 rfl ?_
      refine bj_iconst (v := 0) dX10_frost_90 (by decide) ?_
      refine bj_nn (fun a11 h12 => ?_)
      subst h12
      refine bj_zast dX10_frost_91 (fun σ13 h14 => ?_)
      refine bj_aload_nS dX10_frost_92 rfl 0 rfl ?_
      refine bj_getR (ci := 11) (k := 22) (C := RX10) (T := TX10) (N := 49) rfl hi_X10_frost_X10 (by decide) rfl fl_X10_frost_44 (Or.inl rfl) dX10_frost_93 (fun v15 h16 => ?_)
      refine bj_iload_n dX10_frost_96 rfl 3 rfl ?_
      refine bj_nn (fun a17 h18 => ?_)
      subst h18
      refine bj_iald dX10_frost_97 (fun v19 h20 => ?_)
      refine bj_if_ne (tgt := 104) dX10_frost_98 (by decide) (fun h21 => ?_) (fun h21 => ?_)
      · refine bj_aload_nS dX10_frost_104 rfl 0 rfl ?_
        refine bj_getR (ci := 11) (k := 24) (C := RX10) (T := TX10) (N := 49) rfl hi_X10_frost_X10 (by decide) rfl fl_X10_frost_50 (Or.inl rfl) dX10_frost_105 (fun v22 h23 => ?_)
        refine bj_iload_n dX10_frost_108 rfl 3 rfl ?_
        refine bj_aload_nS dX10_frost_109 rfl 0 rfl ?_
        refine bj_getI (ci := 11) (k := 6) (C := RX10) (T := TX10) (N := 49) rfl hi_X10_frost_X10 (by decide) rfl fl_X10_frost_138 (Or.inl rfl) dX10_frost_110 (fun v24 h25 => ?_)
        refine bj_nn (fun a26 h27 => ?_)
        subst h27
        refine bj_iast dX10_frost_113 (fun σ28 h29 => ?_)
        refine bj_iinc (v := x2 + 1) (lv' := [(2, .int (x2 + 1)), (0, .ref this), (1, .int x1), (3, .int x3)]) dX10_frost_114 2 rfl rfl (by decide) rfl ?_
        refine bj_sub (lv' := [(0, .ref this), (1, .int x1), (2, .int (x2 + 1)), (3, .int x3)]) [1, 2, 0, 3] rfl ?_
        exact j_X10_frost_b117 X N k24 hk24 this x1 (x2 + 1) x3 σ28
      · refine bj_goto (tgt := 117) dX10_frost_101 (by decide) ?_
        refine bj_sub (lv' := [(0, .ref this), (1, .int x1), (2, .int x2), (3, .int x3)]) [0, 1, 2, 3] rfl ?_
        exact j_X10_frost_b117 X N k24 hk24 this x1 x2 x3 σ13
def f_X10_frost_b24 (N : Nat) : Nat → Nat → Int32 → Int32 → Int32 → bh_S → Option (Int32 × bh_S)
  | 0, _, _, _, _, _ => none
  | n + 1, this, x1, x2, x3, σ =>
    (bh_rdI σ 11 this 7).bind fun v1 =>
    if v1 ≤ x3 then
      some (x2, σ)
    else
      if x1 = 0 then
        f_X10_frost_b72 N (f_X10_frost_b24 N n) this x1 x2 x3 σ
      else
        (bh_rdR σ 11 this 22).bind fun v5 =>
        (v5).bind fun a7 =>
        (bh_ldI σ 12 a7 x3).bind fun v9 =>
        if v9 ≤ 0 then
          f_X10_frost_b72 N (f_X10_frost_b24 N n) this x1 x2 x3 σ
        else
          (bh_rdR σ 11 this 29).bind fun v12 =>
          (v12).bind fun a14 =>
          (bh_ldI σ 13 a14 x3).bind fun v16 =>
          if v16 = 0 then
            (bh_rdR σ 11 this 30).bind fun v19 =>
            (v19).bind fun a21 =>
            (bh_stZ σ 13 a21 x3 1).bind fun σ23 =>
            (bh_rdR σ23 11 this 24).bind fun v25 =>
            (v25).bind fun a27 =>
            (bh_stI σ23 12 a27 x3 (-9)).bind fun σ29 =>
            f_X10_frost_b72 N (f_X10_frost_b24 N n) this x1 (x2 + 1) x3 σ29
          else
            f_X10_frost_b72 N (f_X10_frost_b24 N n) this x1 x2 x3 σ
set_option maxHeartbeats 4000000 in
set_option maxRecDepth 100000 in
theorem j_X10_frost_b24 (X : bh_X) (N : Nat) : ∀ (n : Nat) (this : Nat) (x1 : Int32) (x2 : Int32) (x3 : Int32) (σ : bh_S), bh_J eI yX10_frost cX10_frost wsX10_frost (some .int) 4 1 21 X σ 24 [(0, .ref this), (1, .int x1), (2, .int x2), (3, .int x3)] [] (f_X10_frost_b24 N n this x1 x2 x3 σ) := by
  intro n
  induction n with
  | zero => intro this x1 x2 x3 σ; exact bj_none
  | succ n ih =>
    intro this x1 x2 x3 σ
    unfold f_X10_frost_b24
    refine bj_iload_n dX10_frost_24 rfl 3 rfl ?_
    refine bj_aload_nS dX10_frost_25 rfl 0 rfl ?_
    refine bj_getI (ci := 11) (k := 7) (C := RX10) (T := TX10) (N := 49) rfl hi_X10_frost_X10 (by decide) rfl fl_X10_frost_128 (Or.inl rfl) dX10_frost_26 (fun v1 h2 => ?_)
    refine bj_icmp_ge (tgt := 123) dX10_frost_29 (by decide) (fun h3 => ?_) (fun h3 => ?_)
    · refine bj_iload_n dX10_frost_123 rfl 2 rfl ?_
      exact bj_iret dX10_frost_124
    · refine bj_iload_n dX10_frost_32 rfl 1 rfl ?_
      refine bj_if_eq (tgt := 72) dX10_frost_33 (by decide) (fun h4 => ?_) (fun h4 => ?_)
      · refine bj_sub (lv' := [(0, .ref this), (1, .int x1), (2, .int x2), (3, .int x3)]) [0, 1, 2, 3] rfl ?_
        exact j_X10_frost_b72 X N (f_X10_frost_b24 N n) ih this x1 x2 x3 σ
      · refine bj_aload_nS dX10_frost_36 rfl 0 rfl ?_
        refine bj_getR (ci := 11) (k := 22) (C := RX10) (T := TX10) (N := 49) rfl hi_X10_frost_X10 (by decide) rfl fl_X10_frost_44 (Or.inl rfl) dX10_frost_37 (fun v5 h6 => ?_)
        refine bj_iload_n dX10_frost_40 rfl 3 rfl ?_
        refine bj_nn (fun a7 h8 => ?_)
        subst h8
        refine bj_iald dX10_frost_41 (fun v9 h10 => ?_)
        refine bj_if_le (tgt := 72) dX10_frost_42 (by decide) (fun h11 => ?_) (fun h11 => ?_)
        · refine bj_sub (lv' := [(0, .ref this), (1, .int x1), (2, .int x2), (3, .int x3)]) [0, 1, 2, 3] rfl ?_
          exact j_X10_frost_b72 X N (f_X10_frost_b24 N n) ih this x1 x2 x3 σ
        · refine bj_aload_nS dX10_frost_45 rfl 0 rfl ?_
          refine bj_getR (ci := 11) (k := 29) (C := RX10) (T := TX10) (N := 49) rfl hi_X10_frost_X10 (by decide) rfl fl_X10_frost_66 (Or.inl rfl) dX10_frost_46 (fun v12 h13 => ?_)
          refine bj_iload_n dX10_frost_49 rfl 3 rfl ?_
          refine bj_nn (fun a14 h15 => ?_)
          subst h15
          refine bj_zald dX10_frost_50 (fun v16 h17 => ?_)
          refine bj_if_ne (tgt := 72) dX10_frost_51 (by decide) (fun h18 => ?_) (fun h18 => ?_)
          · refine bj_sub (lv' := [(0, .ref this), (1, .int x1), (2, .int x2), (3, .int x3)]) [0, 1, 2, 3] rfl ?_
            exact j_X10_frost_b72 X N (f_X10_frost_b24 N n) ih this x1 x2 x3 σ
          · refine bj_aload_nS dX10_frost_54 rfl 0 rfl ?_
            refine bj_getR (ci := 11) (k := 30) (C := RX10) (T := TX10) (N := 49) rfl hi_X10_frost_X10 (by decide) rfl fl_X10_frost_69 (Or.inl rfl) dX10_frost_55 (fun v19 h20 => ?_)
            refine bj_iload_n dX10_frost_58 rfl 3 rfl ?_
            refine bj_iconst (v := 1) dX10_frost_59 (by decide) ?_
            refine bj_nn (fun a21 h22 => ?_)
            subst h22
            refine bj_zast dX10_frost_60 (fun σ23 h24 => ?_)
            refine bj_aload_nS dX10_frost_61 rfl 0 rfl ?_
            refine bj_getR (ci := 11) (k := 24) (C := RX10) (T := TX10) (N := 49) rfl hi_X10_frost_X10 (by decide) rfl fl_X10_frost_50 (Or.inl rfl) dX10_frost_62 (fun v25 h26 => ?_)
            refine bj_iload_n dX10_frost_65 rfl 3 rfl ?_
            refine bj_bipush (v := (-9)) dX10_frost_66 (by decide) ?_
            refine bj_nn (fun a27 h28 => ?_)
            subst h28
            refine bj_iast dX10_frost_68 (fun σ29 h30 => ?_)
            refine bj_iinc (v := x2 + 1) (lv' := [(2, .int (x2 + 1)), (0, .ref this), (1, .int x1), (3, .int x3)]) dX10_frost_69 2 rfl rfl (by decide) rfl ?_
            refine bj_sub (lv' := [(0, .ref this), (1, .int x1), (2, .int (x2 + 1)), (3, .int x3)]) [1, 2, 0, 3] rfl ?_
            exact j_X10_frost_b72 X N (f_X10_frost_b24 N n) ih this x1 (x2 + 1) x3 σ29
def f_X10_frost (N : Nat) (this : Nat) (p1 : Int32) (σ : bh_S) : Option (Int32 × bh_S) :=
  (bh_rdI σ 11 this 17).bind fun v1 =>
  if v1 = p1 then
    (bh_ck σ this 11).bind fun _ =>
    bh_bnd (f_X10_refuse this (-3) σ) fun v7 σ8 =>
    some (v7, σ8)
  else
    (bh_wrZ σ 11 this 17 p1).bind fun σ4 =>
    f_X10_frost_b24 N N this p1 0 0 σ4
set_option maxHeartbeats 4000000 in
set_option maxRecDepth 100000 in
theorem c_X10_frost (X : bh_X) (N : Nat) (this : Nat) (p1 : Int32) (σ : bh_S) : bh_MX eI X yX10_frost wsX10_frost 1 21 [.ref this, .int p1] σ (f_X10_frost N this p1 σ) := by
  refine bh_enter (cc := cX10_frost) (NL := 4) (ret := (some .int)) (by decide) rfl (Nat.le_of_ble_eq_true rfl) (fun X => ?_)
  show bh_J eI yX10_frost cX10_frost wsX10_frost (some .int) 4 1 21 X σ 0 [(0, .ref this), (1, .int p1)] [] _
  unfold f_X10_frost
  refine bj_aload_nS dX10_frost_0 rfl 0 rfl ?_
  refine bj_getI (ci := 11) (k := 17) (C := RX10) (T := TX10) (N := 49) rfl hi_X10_frost_X10 (by decide) rfl fl_X10_frost_161 (Or.inl rfl) dX10_frost_1 (fun v1 h2 => ?_)
  refine bj_iload_n dX10_frost_4 rfl 1 rfl ?_
  refine bj_icmp_ne (tgt := 15) dX10_frost_5 (by decide) (fun h3 => ?_) (fun h3 => ?_)
  · refine bj_aload_nS dX10_frost_15 rfl 0 rfl ?_
    refine bj_iload_n dX10_frost_16 rfl 1 rfl ?_
    refine bj_putZ (ci := 11) (k := 17) (C := RX10) (T := TX10) (N := 49) rfl hi_X10_frost_X10 (by decide) rfl fl_X10_frost_161 (Or.inl rfl) tyX10 tyX10_ok nmX10 rfl (Or.inl rfl) dX10_frost_17 (fun σ4 h5 => ?_)
    refine bj_iconst (v := 0) dX10_frost_20 (by decide) ?_
    refine bj_istore_n (lv' := [(2, .int 0), (0, .ref this), (1, .int p1)]) dX10_frost_21 rfl (by decide) rfl ?_
    refine bj_iconst (v := 0) dX10_frost_22 (by decide) ?_
    refine bj_istore_n (lv' := [(3, .int 0), (2, .int 0), (0, .ref this), (1, .int p1)]) dX10_frost_23 rfl (by decide) rfl ?_
    refine bj_sub (lv' := [(0, .ref this), (1, .int p1), (2, .int 0), (3, .int 0)]) [2, 3, 1, 0] rfl ?_
    exact j_X10_frost_b24 X N N this p1 0 0 σ4
  · refine bj_aload_nS dX10_frost_8 rfl 0 rfl ?_
    refine bj_bipush (v := (-3)) dX10_frost_9 (by decide) ?_
    refine bj_op (fun _ h6 => ?_)
    refine bj_callI (br_V (As := [.int (-3)]) (rest := []) (q := (RX10, TX10, 49)) (c_X10_refuse X this (-3) σ) rfl g_X10_frost_X10_refuse_124 rfl (bh_ck_spec h6) ⟨rfl, hd_X10_refuse⟩ rfl ⟨by decide, by decide⟩ rfl (Nat.le_of_ble_eq_true rfl) dX10_frost_11) (fun v7 σ8 h9 => ?_)
    exact bj_iret dX10_frost_14
/-! BeetHouseModel.inYard()I -/
theorem hi_X10_inYard_X10 : ∀ w ∈ u_ws RX10 TX10 49, w ∈ wsX10_inYard := fun _ h => (List.mem_cons_of_mem _ (List.mem_append_right _ h))
set_option maxRecDepth 100000 in
theorem fl_X10_inYard_165 : bh_fl wsX10_inYard yX10_inYard.cls 165 "BeetHouseModel" "loads" "I" := Or.inl (List.mem_of_getElem? (i := 1) rfl)
set_option maxRecDepth 100000 in
theorem fl_X10_inYard_105 : bh_fl wsX10_inYard yX10_inYard.cls 105 "BeetHouseModel" "loadRoots" "[I" := Or.inl (List.mem_of_getElem? (i := 2) rfl)
def f_X10_inYard_b4 (N : Nat) : Nat → Nat → Int32 → Int32 → bh_S → Option (Int32 × bh_S)
  | 0, _, _, _, _ => none
  | n + 1, this, x1, x2, σ =>
    (bh_rdI σ 11 this 44).bind fun v1 =>
    if v1 ≤ x2 then
      some (x1, σ)
    else
      (bh_rdR σ 11 this 42).bind fun v4 =>
      (v4).bind fun a6 =>
      (bh_ldI σ 12 a6 x2).bind fun v8 =>
      f_X10_inYard_b4 N n this (x1 + v8) (x2 + 1) σ
set_option maxHeartbeats 4000000 in
set_option maxRecDepth 100000 in
theorem j_X10_inYard_b4 (X : bh_X) (N : Nat) : ∀ (n : Nat) (this : Nat) (x1 : Int32) (x2 : Int32) (σ : bh_S), bh_J eI yX10_inYard cX10_inYard wsX10_inYard (some .int) 3 0 0 X σ 4 [(0, .ref this), (1, .int x1), (2, .int x2)] [] (f_X10_inYard_b4 N n this x1 x2 σ) := by
  intro n
  induction n with
  | zero => intro this x1 x2 σ; exact bj_none
  | succ n ih =>
    intro this x1 x2 σ
    unfold f_X10_inYard_b4
    refine bj_iload_n dX10_inYard_4 rfl 2 rfl ?_
    refine bj_aload_nS dX10_inYard_5 rfl 0 rfl ?_
    refine bj_getI (ci := 11) (k := 44) (C := RX10) (T := TX10) (N := 49) rfl hi_X10_inYard_X10 (by decide) rfl fl_X10_inYard_165 (Or.inl rfl) dX10_inYard_6 (fun v1 h2 => ?_)
    refine bj_icmp_ge (tgt := 27) dX10_inYard_9 (by decide) (fun h3 => ?_) (fun h3 => ?_)
    · refine bj_iload_n dX10_inYard_27 rfl 1 rfl ?_
      exact bj_iret dX10_inYard_28
    · refine bj_iload_n dX10_inYard_12 rfl 1 rfl ?_
      refine bj_aload_nS dX10_inYard_13 rfl 0 rfl ?_
      refine bj_getR (ci := 11) (k := 42) (C := RX10) (T := TX10) (N := 49) rfl hi_X10_inYard_X10 (by decide) rfl fl_X10_inYard_105 (Or.inl rfl) dX10_inYard_14 (fun v4 h5 => ?_)
      refine bj_iload_n dX10_inYard_17 rfl 2 rfl ?_
      refine bj_nn (fun a6 h7 => ?_)
      subst h7
      refine bj_iald dX10_inYard_18 (fun v8 h9 => ?_)
      refine bj_iadd dX10_inYard_19 ?_
      refine bj_istore_n (lv' := [(1, .int (x1 + v8)), (0, .ref this), (2, .int x2)]) dX10_inYard_20 rfl (by decide) rfl ?_
      refine bj_iinc (v := x2 + 1) (lv' := [(2, .int (x2 + 1)), (1, .int (x1 + v8)), (0, .ref this)]) dX10_inYard_21 2 rfl rfl (by decide) rfl ?_
      refine bj_goto (tgt := 4) dX10_inYard_24 (by decide) ?_
      refine bj_sub (lv' := [(0, .ref this), (1, .int (x1 + v8)), (2, .int (x2 + 1))]) [2, 1, 0] rfl ?_
      exact ih this (x1 + v8) (x2 + 1) σ
def f_X10_inYard (N : Nat) (this : Nat) (σ : bh_S) : Option (Int32 × bh_S) :=
  f_X10_inYard_b4 N N this 0 0 σ
set_option maxHeartbeats 4000000 in
set_option maxRecDepth 100000 in
theorem c_X10_inYard (X : bh_X) (N : Nat) (this : Nat) (σ : bh_S) : bh_MX eI X yX10_inYard wsX10_inYard 0 0 [.ref this] σ (f_X10_inYard N this σ) := by
  refine bh_enter (cc := cX10_inYard) (NL := 3) (ret := (some .int)) (by decide) rfl (Nat.le_of_ble_eq_true rfl) (fun X => ?_)
  show bh_J eI yX10_inYard cX10_inYard wsX10_inYard (some .int) 3 0 0 X σ 0 [(0, .ref this)] [] _
  unfold f_X10_inYard
  refine bj_iconst (v := 0) dX10_inYard_0 (by decide) ?_
  refine bj_istore_n (lv' := [(1, .int 0), (0, .ref this)]) dX10_inYard_1 rfl (by decide) rfl ?_
  refine bj_iconst (v := 0) dX10_inYard_2 (by decide) ?_
  refine bj_istore_n (lv' := [(2, .int 0), (1, .int 0), (0, .ref this)]) dX10_inYard_3 rfl (by decide) rfl ?_
  refine bj_sub (lv' := [(0, .ref this), (1, .int 0), (2, .int 0)]) [2, 1, 0] rfl ?_
  exact j_X10_inYard_b4 X N N this 0 0 σ
/-! BeetHouseModel.lifts()V -/
theorem hi_X10_lifts_X10 : ∀ w ∈ u_ws RX10 TX10 49, w ∈ wsX10_lifts := fun _ h => (List.mem_cons_of_mem _ (List.mem_append_right _ h))
set_option maxRecDepth 100000 in
theorem fl_X10_lifts_75 : bh_fl wsX10_lifts yX10_lifts.cls 75 "BeetHouseModel" "gangField" "[I" := Or.inl (List.mem_of_getElem? (i := 1) rfl)
set_option maxRecDepth 100000 in
theorem fl_X10_lifts_72 : bh_fl wsX10_lifts yX10_lifts.cls 72 "BeetHouseModel" "gangRate" "[I" := Or.inl (List.mem_of_getElem? (i := 2) rfl)
set_option maxRecDepth 100000 in
theorem fl_X10_lifts_35 : bh_fl wsX10_lifts yX10_lifts.cls 35 "BeetHouseModel" "ground" "[I" := Or.inl (List.mem_of_getElem? (i := 3) rfl)
set_option maxRecDepth 100000 in
theorem fl_X10_lifts_44 : bh_fl wsX10_lifts yX10_lifts.cls 44 "BeetHouseModel" "roots" "[I" := Or.inl (List.mem_of_getElem? (i := 8) rfl)
set_option maxRecDepth 100000 in
theorem fl_X10_lifts_47 : bh_fl wsX10_lifts yX10_lifts.cls 47 "BeetHouseModel" "sugar" "[I" := Or.inl (List.mem_of_getElem? (i := 9) rfl)
set_option maxRecDepth 100000 in
theorem fl_X10_lifts_38 : bh_fl wsX10_lifts yX10_lifts.cls 38 "BeetHouseModel" "sweet" "[I" := Or.inl (List.mem_of_getElem? (i := 10) rfl)
def f_X10_lifts_b74 (N : Nat) (k2 : Nat → Int32 → bh_S → Option (Unit × bh_S)) (this : Nat) (x1 : Int32) (σ : bh_S) : Option (Unit × bh_S) :=
  k2 this (x1 + 1) σ
set_option maxHeartbeats 4000000 in
set_option maxRecDepth 100000 in
theorem j_X10_lifts_b74 (X : bh_X) (N : Nat) (k2 : Nat → Int32 → bh_S → Option (Unit × bh_S)) (hk2 : ∀ (this : Nat) (x1 : Int32) (σ : bh_S), bh_J eU yX10_lifts cX10_lifts wsX10_lifts none 4 1 13 X σ 2 [(0, .ref this), (1, .int x1)] [] (k2 this x1 σ)) (this : Nat) (x1 : Int32) (σ : bh_S) : bh_J eU yX10_lifts cX10_lifts wsX10_lifts none 4 1 13 X σ 74 [(0, .ref this), (1, .int x1)] [] (f_X10_lifts_b74 N k2 this x1 σ) := by
  unfold f_X10_lifts_b74
  refine bj_iinc (v := x1 + 1) (lv' := [(1, .int (x1 + 1)), (0, .ref this)]) dX10_lifts_74 1 rfl rfl (by decide) rfl ?_
  refine bj_goto (tgt := 2) dX10_lifts_77 (by decide) ?_
  refine bj_sub (lv' := [(0, .ref this), (1, .int (x1 + 1))]) [1, 0] rfl ?_
  exact hk2 this (x1 + 1) σ
def f_X10_lifts_b2 (N : Nat) : Nat → Nat → Int32 → bh_S → Option (Unit × bh_S)
  | 0, _, _, _ => none
  | n + 1, this, x1, σ =>
    if 4 ≤ x1 then
      some ((), σ)
    else
      (bh_rdR σ 11 this 32).bind fun v2 =>
      (v2).bind fun a4 =>
      (bh_ldI σ 12 a4 x1).bind fun v6 =>
      if 0 ≤ v6 then
        (bh_rdR σ 11 this 31).bind fun v9 =>
        (v9).bind fun a11 =>
        (bh_ldI σ 12 a11 x1).bind fun v13 =>
        (bh_rdR σ 11 this 19).bind fun v15 =>
        (v15).bind fun a17 =>
        (bh_ldI σ 12 a17 v6).bind fun v19 =>
        (bh_rdR σ 11 this 19).bind fun v21 =>
        (v21).bind fun a23 =>
        (bh_ldI σ 12 a23 v6).bind fun v25 =>
        (bh_stI σ 12 a23 v6 (v25 - (bh_min v13 v19))).bind fun σ27 =>
        (bh_rdR σ27 11 this 22).bind fun v29 =>
        (v29).bind fun a31 =>
        (bh_ldI σ27 12 a31 v6).bind fun v33 =>
        (bh_stI σ27 12 a31 v6 (v33 + (bh_min v13 v19))).bind fun σ35 =>
        (bh_rdR σ35 11 this 23).bind fun v37 =>
        (v37).bind fun a39 =>
        (bh_ldI σ35 12 a39 v6).bind fun v41 =>
        (bh_rdR σ35 11 this 20).bind fun v43 =>
        (v43).bind fun a45 =>
        (bh_ldI σ35 12 a45 v6).bind fun v47 =>
        (bh_stI σ35 12 a39 v6 (v41 + ((bh_min v13 v19) * v47))).bind fun σ49 =>
        f_X10_lifts_b74 N (f_X10_lifts_b2 N n) this x1 σ49
      else
        f_X10_lifts_b74 N (f_X10_lifts_b2 N n) this x1 σ
set_option maxHeartbeats 4000000 in
set_option maxRecDepth 100000 in
theorem j_X10_lifts_b2 (X : bh_X) (N : Nat) : ∀ (n : Nat) (this : Nat) (x1 : Int32) (σ : bh_S), bh_J eU yX10_lifts cX10_lifts wsX10_lifts none 4 1 13 X σ 2 [(0, .ref this), (1, .int x1)] [] (f_X10_lifts_b2 N n this x1 σ) := by
  intro n
  induction n with
  | zero => intro this x1 σ; exact bj_none
  | succ n ih =>
    intro this x1 σ
    unfold f_X10_lifts_b2
    refine bj_iload_n dX10_lifts_2 rfl 1 rfl ?_
    refine bj_iconst (v := 4) dX10_lifts_3 (by decide) ?_
    refine bj_icmp_ge (tgt := 80) dX10_lifts_4 (by decide) (fun h1 => ?_) (fun h1 => ?_)
    · exact bj_vret dX10_lifts_80
    · refine bj_aload_nS dX10_lifts_7 rfl 0 rfl ?_
      refine bj_getR (ci := 11) (k := 32) (C := RX10) (T := TX10) (N := 49) rfl hi_X10_lifts_X10 (by decide) rfl fl_X10_lifts_75 (Or.inl rfl) dX10_lifts_8 (fun v2 h3 => ?_)
      refine bj_iload_n dX10_lifts_11 rfl 1 rfl ?_
      refine bj_nn (fun a4 h5 => ?_)
      subst h5
      refine bj_iald dX10_lifts_12 (fun v6 h7 => ?_)
      refine bj_istore_n (lv' := [(2, .int v6), (0, .ref this), (1, .int x1)]) dX10_lifts_13 rfl (by decide) rfl ?_
      refine bj_iload_n dX10_lifts_14 rfl 0 rfl ?_
      refine bj_if_ge (tgt := 21) dX10_lifts_15 (by decide) (fun h8 => ?_) (fun h8 => ?_)
      · refine bj_aload_nS dX10_lifts_21 rfl 1 rfl ?_
        refine bj_getR (ci := 11) (k := 31) (C := RX10) (T := TX10) (N := 49) rfl hi_X10_lifts_X10 (by decide) rfl fl_X10_lifts_72 (Or.inl rfl) dX10_lifts_22 (fun v9 h10 => ?_)
        refine bj_iload_n dX10_lifts_25 rfl 2 rfl ?_
        refine bj_nn (fun a11 h12 => ?_)
        subst h12
        refine bj_iald dX10_lifts_26 (fun v13 h14 => ?_)
        refine bj_aload_nS dX10_lifts_27 rfl 1 rfl ?_
        refine bj_getR (ci := 11) (k := 19) (C := RX10) (T := TX10) (N := 49) rfl hi_X10_lifts_X10 (by decide) rfl fl_X10_lifts_35 (Or.inl rfl) dX10_lifts_28 (fun v15 h16 => ?_)
        refine bj_iload_n dX10_lifts_31 rfl 0 rfl ?_
        refine bj_nn (fun a17 h18 => ?_)
        subst h18
        refine bj_iald dX10_lifts_32 (fun v19 h20 => ?_)
        refine bj_min (List.mem_of_getElem? (i := 4) rfl) (List.mem_of_getElem? (i := 5) rfl) (List.mem_of_getElem? (i := 6) rfl) (List.mem_of_getElem? (i := 7) rfl) (by decide) (Nat.le_of_ble_eq_true rfl) dX10_lifts_33 ?_
        refine bj_istore_n (lv' := [(3, .int (bh_min v13 v19)), (2, .int v6), (0, .ref this), (1, .int x1)]) dX10_lifts_36 rfl (by decide) rfl ?_
        refine bj_aload_nS dX10_lifts_37 rfl 2 rfl ?_
        refine bj_getR (ci := 11) (k := 19) (C := RX10) (T := TX10) (N := 49) rfl hi_X10_lifts_X10 (by decide) rfl fl_X10_lifts_35 (Or.inl rfl) dX10_lifts_38 (fun v21 h22 => ?_)
        refine bj_iload_n dX10_lifts_41 rfl 1 rfl ?_
        refine bj_dup2 dX10_lifts_42 rfl (bh_cat _) ?_
        refine bj_nn (fun a23 h24 => ?_)
        subst h24
        refine bj_iald dX10_lifts_43 (fun v25 h26 => ?_)
        refine bj_iload_n dX10_lifts_44 rfl 0 rfl ?_
        refine bj_isub dX10_lifts_45 ?_
        refine bj_iast dX10_lifts_46 (fun σ27 h28 => ?_)
        refine bj_aload_nS dX10_lifts_47 rfl 2 rfl ?_
        refine bj_getR (ci := 11) (k := 22) (C := RX10) (T := TX10) (N := 49) rfl hi_X10_lifts_X10 (by decide) rfl fl_X10_lifts_44 (Or.inl rfl) dX10_lifts_48 (fun v29 h30 => ?_)
        refine bj_iload_n dX10_lifts_51 rfl 1 rfl ?_
        refine bj_dup2 dX10_lifts_52 rfl (bh_cat _) ?_
        refine bj_nn (fun a31 h32 => ?_)
        subst h32
        refine bj_iald dX10_lifts_53 (fun v33 h34 => ?_)
        refine bj_iload_n dX10_lifts_54 rfl 0 rfl ?_
        refine bj_iadd dX10_lifts_55 ?_
        refine bj_iast dX10_lifts_56 (fun σ35 h36 => ?_)
        refine bj_aload_nS dX10_lifts_57 rfl 2 rfl ?_
        refine bj_getR (ci := 11) (k := 23) (C := RX10) (T := TX10) (N := 49) rfl hi_X10_lifts_X10 (by decide) rfl fl_X10_lifts_47 (Or.inl rfl) dX10_lifts_58 (fun v37 h38 => ?_)
        refine bj_iload_n dX10_lifts_61 rfl 1 rfl ?_
        refine bj_dup2 dX10_lifts_62 rfl (bh_cat _) ?_
        refine bj_nn (fun a39 h40 => ?_)
        subst h40
        refine bj_iald dX10_lifts_63 (fun v41 h42 => ?_)
        refine bj_iload_n dX10_lifts_64 rfl 0 rfl ?_
        refine bj_aload_nS dX10_lifts_65 rfl 2 rfl ?_
        refine bj_getR (ci := 11) (k := 20) (C := RX10) (T := TX10) (N := 49) rfl hi_X10_lifts_X10 (by decide) rfl fl_X10_lifts_38 (Or.inl rfl) dX10_lifts_66 (fun v43 h44 => ?_)
        refine bj_iload_n dX10_lifts_69 rfl 1 rfl ?_
        refine bj_nn (fun a45 h46 => ?_)
        subst h46
        refine bj_iald dX10_lifts_70 (fun v47 h48 => ?_)
        refine bj_imul dX10_lifts_71 ?_
        refine bj_iadd dX10_lifts_72 ?_
        refine bj_iast dX10_lifts_73 (fun σ49 h50 => ?_)
        refine bj_sub (lv' := [(0, .ref this), (1, .int x1)]) [2, 3] rfl ?_
        exact j_X10_lifts_b74 X N (f_X10_lifts_b2 N n) ih this x1 σ49
      · refine bj_goto (tgt := 74) dX10_lifts_18 (by decide) ?_
        refine bj_sub (lv' := [(0, .ref this), (1, .int x1)]) [1, 2] rfl ?_
        exact j_X10_lifts_b74 X N (f_X10_lifts_b2 N n) ih this x1 σ
def f_X10_lifts (N : Nat) (this : Nat) (σ : bh_S) : Option (Unit × bh_S) :=
  f_X10_lifts_b2 N N this 0 σ
set_option maxHeartbeats 4000000 in
set_option maxRecDepth 100000 in
theorem c_X10_lifts (X : bh_X) (N : Nat) (this : Nat) (σ : bh_S) : bh_MX eU X yX10_lifts wsX10_lifts 1 13 [.ref this] σ (f_X10_lifts N this σ) := by
  refine bh_enter (cc := cX10_lifts) (NL := 4) (ret := none) (by decide) rfl (Nat.le_of_ble_eq_true rfl) (fun X => ?_)
  show bh_J eU yX10_lifts cX10_lifts wsX10_lifts none 4 1 13 X σ 0 [(0, .ref this)] [] _
  unfold f_X10_lifts
  refine bj_iconst (v := 0) dX10_lifts_0 (by decide) ?_
  refine bj_istore_n (lv' := [(1, .int 0), (0, .ref this)]) dX10_lifts_1 rfl (by decide) rfl ?_
  refine bj_sub (lv' := [(0, .ref this), (1, .int 0)]) [1, 0] rfl ?_
  exact j_X10_lifts_b2 X N N this 0 σ
/-! BeetHouseModel.arrives(I)V -/
theorem hi_X10_arrives_X10 : ∀ w ∈ u_ws RX10 TX10 49, w ∈ wsX10_arrives := fun _ h => (List.mem_cons_of_mem _ (List.mem_append_right _ h))
set_option maxRecDepth 100000 in
theorem fl_X10_arrives_87 : bh_fl wsX10_arrives yX10_arrives.cls 87 "BeetHouseModel" "there" "[I" := Or.inl (List.mem_of_getElem? (i := 1) rfl)
set_option maxRecDepth 100000 in
theorem fl_X10_arrives_138 : bh_fl wsX10_arrives yX10_arrives.cls 138 "BeetHouseModel" "hour" "I" := Or.inl (List.mem_of_getElem? (i := 2) rfl)
set_option maxRecDepth 100000 in
theorem fl_X10_arrives_81 : bh_fl wsX10_arrives yX10_arrives.cls 81 "BeetHouseModel" "does" "[I" := Or.inl (List.mem_of_getElem? (i := 3) rfl)
set_option maxRecDepth 100000 in
theorem fl_X10_arrives_84 : bh_fl wsX10_arrives yX10_arrives.cls 84 "BeetHouseModel" "to" "[I" := Or.inl (List.mem_of_getElem? (i := 4) rfl)
set_option maxRecDepth 100000 in
theorem fl_X10_arrives_78 : bh_fl wsX10_arrives yX10_arrives.cls 78 "BeetHouseModel" "size" "[I" := Or.inl (List.mem_of_getElem? (i := 5) rfl)
set_option maxRecDepth 100000 in
theorem fl_X10_arrives_44 : bh_fl wsX10_arrives yX10_arrives.cls 44 "BeetHouseModel" "roots" "[I" := Or.inl (List.mem_of_getElem? (i := 6) rfl)
set_option maxRecDepth 100000 in
theorem fl_X10_arrives_47 : bh_fl wsX10_arrives yX10_arrives.cls 47 "BeetHouseModel" "sugar" "[I" := Or.inl (List.mem_of_getElem? (i := 11) rfl)
set_option maxRecDepth 100000 in
theorem fl_X10_arrives_90 : bh_fl wsX10_arrives yX10_arrives.cls 90 "BeetHouseModel" "has" "[I" := Or.inl (List.mem_of_getElem? (i := 12) rfl)
set_option maxRecDepth 100000 in
theorem fl_X10_arrives_93 : bh_fl wsX10_arrives yX10_arrives.cls 93 "BeetHouseModel" "hasSugar" "[I" := Or.inl (List.mem_of_getElem? (i := 13) rfl)
set_option maxRecDepth 100000 in
theorem fl_X10_arrives_50 : bh_fl wsX10_arrives yX10_arrives.cls 50 "BeetHouseModel" "thawed" "[I" := Or.inl (List.mem_of_getElem? (i := 14) rfl)
set_option maxRecDepth 100000 in
theorem fl_X10_arrives_41 : bh_fl wsX10_arrives yX10_arrives.cls 41 "BeetHouseModel" "way" "[I" := Or.inl (List.mem_of_getElem? (i := 15) rfl)
set_option maxRecDepth 100000 in
theorem fl_X10_arrives_62 : bh_fl wsX10_arrives yX10_arrives.cls 62 "BeetHouseModel" "stony" "[Z" := Or.inl (List.mem_of_getElem? (i := 16) rfl)
def f_X10_arrives_b202 (this : Nat) (t0 : Int32) (t1 : Int32) (t2 : Int32) (t3 : Option Nat) (σ : bh_S) : Option (Unit × bh_S) :=
  (t3).bind fun a1 =>
  (bh_stI σ 12 a1 t2 (t1 + t0)).bind fun σ3 =>
  some ((), σ3)
set_option maxHeartbeats 4000000 in
set_option maxRecDepth 100000 in
theorem j_X10_arrives_b202 (X : bh_X) (this : Nat) (t0 : Int32) (t1 : Int32) (t2 : Int32) (t3 : Option Nat) (σ : bh_S) : bh_J eU yX10_arrives cX10_arrives wsX10_arrives none 5 1 13 X σ 202 [(0, .ref this)] [.int t0, .int t1, .int t2, va_rf t3] (f_X10_arrives_b202 this t0 t1 t2 t3 σ) := by
  unfold f_X10_arrives_b202
  refine bj_iadd dX10_arrives_202 ?_
  refine bj_nn (fun a1 h2 => ?_)
  subst h2
  refine bj_iast dX10_arrives_203 (fun σ3 h4 => ?_)
  exact bj_vret dX10_arrives_204
def f_X10_arrives_b165 (this : Nat) (x1 : Int32) (x2 : Int32) (σ : bh_S) : Option (Unit × bh_S) :=
  (bh_rdR σ 11 this 34).bind fun v1 =>
  (v1).bind fun a3 =>
  (bh_stI σ 12 a3 x1 2).bind fun σ5 =>
  (bh_rdR σ5 11 this 36).bind fun v7 =>
  (bh_rdI σ5 11 this 6).bind fun v9 =>
  (bh_rdR σ5 11 this 21).bind fun v11 =>
  (v11).bind fun a13 =>
  (bh_ldI σ5 12 a13 x2).bind fun v15 =>
  (bh_rdR σ5 11 this 28).bind fun v17 =>
  (v17).bind fun a19 =>
  (bh_ldI σ5 13 a19 x2).bind fun v21 =>
  if v21 = 0 then
    f_X10_arrives_b202 this 0 (v9 + v15) x1 v7 σ5
  else
    f_X10_arrives_b202 this 1 (v9 + v15) x1 v7 σ5
set_option maxHeartbeats 4000000 in
set_option maxRecDepth 100000 in
theorem j_X10_arrives_b165 (X : bh_X) (this : Nat) (x1 : Int32) (x2 : Int32) (σ : bh_S) : bh_J eU yX10_arrives cX10_arrives wsX10_arrives none 5 1 13 X σ 165 [(0, .ref this), (1, .int x1), (2, .int x2)] [] (f_X10_arrives_b165 this x1 x2 σ) := by
  unfold f_X10_arrives_b165
  refine bj_aload_nS dX10_arrives_165 rfl 0 rfl ?_
  refine bj_getR (ci := 11) (k := 34) (C := RX10) (T := TX10) (N := 49) rfl hi_X10_arrives_X10 (by decide) rfl fl_X10_arrives_81 (Or.inl rfl) dX10_arrives_166 (fun v1 h2 => ?_)
  refine bj_iload_n dX10_arrives_169 rfl 1 rfl ?_
  refine bj_iconst (v := 2) dX10_arrives_170 (by decide) ?_
  refine bj_nn (fun a3 h4 => ?_)
  subst h4
  refine bj_iast dX10_arrives_171 (fun σ5 h6 => ?_)
  refine bj_aload_nS dX10_arrives_172 rfl 0 rfl ?_
  refine bj_getR (ci := 11) (k := 36) (C := RX10) (T := TX10) (N := 49) rfl hi_X10_arrives_X10 (by decide) rfl fl_X10_arrives_87 (Or.inl rfl) dX10_arrives_173 (fun v7 h8 => ?_)
  refine bj_iload_n dX10_arrives_176 rfl 1 rfl ?_
  refine bj_aload_nS dX10_arrives_177 rfl 0 rfl ?_
  refine bj_getI (ci := 11) (k := 6) (C := RX10) (T := TX10) (N := 49) rfl hi_X10_arrives_X10 (by decide) rfl fl_X10_arrives_138 (Or.inl rfl) dX10_arrives_178 (fun v9 h10 => ?_)
  refine bj_aload_nS dX10_arrives_181 rfl 0 rfl ?_
  refine bj_getR (ci := 11) (k := 21) (C := RX10) (T := TX10) (N := 49) rfl hi_X10_arrives_X10 (by decide) rfl fl_X10_arrives_41 (Or.inl rfl) dX10_arrives_182 (fun v11 h12 => ?_)
  refine bj_iload_n dX10_arrives_185 rfl 2 rfl ?_
  refine bj_nn (fun a13 h14 => ?_)
  subst h14
  refine bj_iald dX10_arrives_186 (fun v15 h16 => ?_)
  refine bj_iadd dX10_arrives_187 ?_
  refine bj_aload_nS dX10_arrives_188 rfl 0 rfl ?_
  refine bj_getR (ci := 11) (k := 28) (C := RX10) (T := TX10) (N := 49) rfl hi_X10_arrives_X10 (by decide) rfl fl_X10_arrives_62 (Or.inl rfl) dX10_arrives_189 (fun v17 h18 => ?_)
  refine bj_iload_n dX10_arrives_192 rfl 2 rfl ?_
  refine bj_nn (fun a19 h20 => ?_)
  subst h20
  refine bj_zald dX10_arrives_193 (fun v21 h22 => ?_)
  refine bj_if_eq (tgt := 201) dX10_arrives_194 (by decide) (fun h23 => ?_) (fun h23 => ?_)
  · refine bj_iconst (v := 0) dX10_arrives_201 (by decide) ?_
    refine bj_sub (lv' := [(0, .ref this)]) [0] rfl ?_
    exact j_X10_arrives_b202 X this 0 (v9 + v15) x1 v7 σ5
  · refine bj_iconst (v := 1) dX10_arrives_197 (by decide) ?_
    refine bj_goto (tgt := 202) dX10_arrives_198 (by decide) ?_
    refine bj_sub (lv' := [(0, .ref this)]) [0] rfl ?_
    exact j_X10_arrives_b202 X this 1 (v9 + v15) x1 v7 σ5
def f_X10_arrives_b110 (this : Nat) (x1 : Int32) (x2 : Int32) (x3 : Int32) (t0 : Int32) (σ : bh_S) : Option (Unit × bh_S) :=
  (bh_rdR σ 11 this 37).bind fun v1 =>
  (v1).bind fun a3 =>
  (bh_stI σ 12 a3 x1 x3).bind fun σ5 =>
  (bh_rdR σ5 11 this 38).bind fun v7 =>
  (v7).bind fun a9 =>
  (bh_stI σ5 12 a9 x1 t0).bind fun σ11 =>
  (bh_rdR σ11 11 this 22).bind fun v13 =>
  (v13).bind fun a15 =>
  (bh_ldI σ11 12 a15 x2).bind fun v17 =>
  (bh_stI σ11 12 a15 x2 (v17 - x3)).bind fun σ19 =>
  (bh_rdR σ19 11 this 23).bind fun v21 =>
  (v21).bind fun a23 =>
  (bh_ldI σ19 12 a23 x2).bind fun v25 =>
  (bh_stI σ19 12 a23 x2 (v25 - t0)).bind fun σ27 =>
  (bh_rdR σ27 11 this 22).bind fun v29 =>
  (v29).bind fun a31 =>
  (bh_ldI σ27 12 a31 x2).bind fun v33 =>
  if v33 = 0 then
    (bh_rdR σ27 11 this 24).bind fun v36 =>
    (v36).bind fun a38 =>
    (bh_stI σ27 12 a38 x2 (-9)).bind fun σ40 =>
    f_X10_arrives_b165 this x1 x2 σ40
  else
    f_X10_arrives_b165 this x1 x2 σ27
set_option maxHeartbeats 4000000 in
set_option maxRecDepth 100000 in
theorem j_X10_arrives_b110 (X : bh_X) (this : Nat) (x1 : Int32) (x2 : Int32) (x3 : Int32) (t0 : Int32) (σ : bh_S) : bh_J eU yX10_arrives cX10_arrives wsX10_arrives none 5 1 13 X σ 110 [(0, .ref this), (1, .int x1), (2, .int x2), (3, .int x3)] [.int t0] (f_X10_arrives_b110 this x1 x2 x3 t0 σ) := by
  unfold f_X10_arrives_b110
  refine bj_istore (lv' := [(4, .int t0), (0, .ref this), (1, .int x1), (2, .int x2), (3, .int x3)]) dX10_arrives_110 (by decide) rfl ?_
  refine bj_aload_nS dX10_arrives_112 rfl 1 rfl ?_
  refine bj_getR (ci := 11) (k := 37) (C := RX10) (T := TX10) (N := 49) rfl hi_X10_arrives_X10 (by decide) rfl fl_X10_arrives_90 (Or.inl rfl) dX10_arrives_113 (fun v1 h2 => ?_)
  refine bj_iload_n dX10_arrives_116 rfl 2 rfl ?_
  refine bj_iload_n dX10_arrives_117 rfl 4 rfl ?_
  refine bj_nn (fun a3 h4 => ?_)
  subst h4
  refine bj_iast dX10_arrives_118 (fun σ5 h6 => ?_)
  refine bj_aload_nS dX10_arrives_119 rfl 1 rfl ?_
  refine bj_getR (ci := 11) (k := 38) (C := RX10) (T := TX10) (N := 49) rfl hi_X10_arrives_X10 (by decide) rfl fl_X10_arrives_93 (Or.inl rfl) dX10_arrives_120 (fun v7 h8 => ?_)
  refine bj_iload_n dX10_arrives_123 rfl 2 rfl ?_
  refine bj_iload dX10_arrives_124 0 rfl ?_
  refine bj_nn (fun a9 h10 => ?_)
  subst h10
  refine bj_iast dX10_arrives_126 (fun σ11 h12 => ?_)
  refine bj_aload_nS dX10_arrives_127 rfl 1 rfl ?_
  refine bj_getR (ci := 11) (k := 22) (C := RX10) (T := TX10) (N := 49) rfl hi_X10_arrives_X10 (by decide) rfl fl_X10_arrives_44 (Or.inl rfl) dX10_arrives_128 (fun v13 h14 => ?_)
  refine bj_iload_n dX10_arrives_131 rfl 3 rfl ?_
  refine bj_dup2 dX10_arrives_132 rfl (bh_cat _) ?_
  refine bj_nn (fun a15 h16 => ?_)
  subst h16
  refine bj_iald dX10_arrives_133 (fun v17 h18 => ?_)
  refine bj_iload_n dX10_arrives_134 rfl 4 rfl ?_
  refine bj_isub dX10_arrives_135 ?_
  refine bj_iast dX10_arrives_136 (fun σ19 h20 => ?_)
  refine bj_aload_nS dX10_arrives_137 rfl 1 rfl ?_
  refine bj_getR (ci := 11) (k := 23) (C := RX10) (T := TX10) (N := 49) rfl hi_X10_arrives_X10 (by decide) rfl fl_X10_arrives_47 (Or.inl rfl) dX10_arrives_138 (fun v21 h22 => ?_)
  refine bj_iload_n dX10_arrives_141 rfl 3 rfl ?_
  refine bj_dup2 dX10_arrives_142 rfl (bh_cat _) ?_
  refine bj_nn (fun a23 h24 => ?_)
  subst h24
  refine bj_iald dX10_arrives_143 (fun v25 h26 => ?_)
  refine bj_iload dX10_arrives_144 0 rfl ?_
  refine bj_isub dX10_arrives_146 ?_
  refine bj_iast dX10_arrives_147 (fun σ27 h28 => ?_)
  refine bj_aload_nS dX10_arrives_148 rfl 1 rfl ?_
  refine bj_getR (ci := 11) (k := 22) (C := RX10) (T := TX10) (N := 49) rfl hi_X10_arrives_X10 (by decide) rfl fl_X10_arrives_44 (Or.inl rfl) dX10_arrives_149 (fun v29 h30 => ?_)
  refine bj_iload_n dX10_arrives_152 rfl 3 rfl ?_
  refine bj_nn (fun a31 h32 => ?_)
  subst h32
  refine bj_iald dX10_arrives_153 (fun v33 h34 => ?_)
  refine bj_if_ne (tgt := 165) dX10_arrives_154 (by decide) (fun h35 => ?_) (fun h35 => ?_)
  · refine bj_sub (lv' := [(0, .ref this), (1, .int x1), (2, .int x2)]) [1, 2, 3] rfl ?_
    exact j_X10_arrives_b165 X this x1 x2 σ27
  · refine bj_aload_nS dX10_arrives_157 rfl 1 rfl ?_
    refine bj_getR (ci := 11) (k := 24) (C := RX10) (T := TX10) (N := 49) rfl hi_X10_arrives_X10 (by decide) rfl fl_X10_arrives_50 (Or.inl rfl) dX10_arrives_158 (fun v36 h37 => ?_)
    refine bj_iload_n dX10_arrives_161 rfl 3 rfl ?_
    refine bj_bipush (v := (-9)) dX10_arrives_162 (by decide) ?_
    refine bj_nn (fun a38 h39 => ?_)
    subst h39
    refine bj_iast dX10_arrives_164 (fun σ40 h41 => ?_)
    refine bj_sub (lv' := [(0, .ref this), (1, .int x1), (2, .int x2)]) [1, 2, 3] rfl ?_
    exact j_X10_arrives_b165 X this x1 x2 σ40
def f_X10_arrives_b34 (this : Nat) (x1 : Int32) (σ : bh_S) : Option (Unit × bh_S) :=
  (bh_rdR σ 11 this 35).bind fun v1 =>
  (v1).bind fun a3 =>
  (bh_ldI σ 12 a3 x1).bind fun v5 =>
  (bh_rdR σ 11 this 34).bind fun v7 =>
  (v7).bind fun a9 =>
  (bh_ldI σ 12 a9 x1).bind fun v11 =>
  if v11 = 2 then
    (bh_rdR σ 11 this 34).bind fun v40 =>
    (v40).bind fun a42 =>
    (bh_stI σ 12 a42 x1 3).bind fun σ44 =>
    (bh_rdR σ44 11 this 36).bind fun v46 =>
    (v46).bind fun a48 =>
    (bh_stI σ44 12 a48 x1 (-9)).bind fun σ50 =>
    some ((), σ50)
  else
    (bh_rdR σ 11 this 33).bind fun v14 =>
    (v14).bind fun a16 =>
    (bh_ldI σ 12 a16 x1).bind fun v18 =>
    (bh_rdR σ 11 this 22).bind fun v20 =>
    (v20).bind fun a22 =>
    (bh_ldI σ 12 a22 v5).bind fun v24 =>
    if (bh_min v18 v24) = 0 then
      f_X10_arrives_b110 this x1 v5 (bh_min v18 v24) 0 σ
    else
      (bh_rdR σ 11 this 23).bind fun v27 =>
      (v27).bind fun a29 =>
      (bh_ldI σ 12 a29 v5).bind fun v31 =>
      (bh_rdR σ 11 this 22).bind fun v33 =>
      (v33).bind fun a35 =>
      (bh_ldI σ 12 a35 v5).bind fun v37 =>
      (bh_nzL v37.toInt64).bind fun _ =>
      f_X10_arrives_b110 this x1 v5 (bh_min v18 v24) (((v31.toInt64 * ((bh_min v18 v24).toInt64)) / v37.toInt64).toInt32) σ
set_option maxHeartbeats 4000000 in
set_option maxRecDepth 100000 in
theorem j_X10_arrives_b34 (X : bh_X) (this : Nat) (x1 : Int32) (σ : bh_S) : bh_J eU yX10_arrives cX10_arrives wsX10_arrives none 5 1 13 X σ 34 [(0, .ref this), (1, .int x1)] [] (f_X10_arrives_b34 this x1 σ) := by
  unfold f_X10_arrives_b34
  refine bj_aload_nS dX10_arrives_34 rfl 0 rfl ?_
  refine bj_getR (ci := 11) (k := 35) (C := RX10) (T := TX10) (N := 49) rfl hi_X10_arrives_X10 (by decide) rfl fl_X10_arrives_84 (Or.inl rfl) dX10_arrives_35 (fun v1 h2 => ?_)
  refine bj_iload_n dX10_arrives_38 rfl 1 rfl ?_
  refine bj_nn (fun a3 h4 => ?_)
  subst h4
  refine bj_iald dX10_arrives_39 (fun v5 h6 => ?_)
  refine bj_istore_n (lv' := [(2, .int v5), (0, .ref this), (1, .int x1)]) dX10_arrives_40 rfl (by decide) rfl ?_
  refine bj_aload_nS dX10_arrives_41 rfl 1 rfl ?_
  refine bj_getR (ci := 11) (k := 34) (C := RX10) (T := TX10) (N := 49) rfl hi_X10_arrives_X10 (by decide) rfl fl_X10_arrives_81 (Or.inl rfl) dX10_arrives_42 (fun v7 h8 => ?_)
  refine bj_iload_n dX10_arrives_45 rfl 2 rfl ?_
  refine bj_nn (fun a9 h10 => ?_)
  subst h10
  refine bj_iald dX10_arrives_46 (fun v11 h12 => ?_)
  refine bj_iconst (v := 2) dX10_arrives_47 (by decide) ?_
  refine bj_icmp_ne (tgt := 67) dX10_arrives_48 (by decide) (fun h13 => ?_) (fun h13 => ?_)
  · refine bj_aload_nS dX10_arrives_67 rfl 1 rfl ?_
    refine bj_getR (ci := 11) (k := 33) (C := RX10) (T := TX10) (N := 49) rfl hi_X10_arrives_X10 (by decide) rfl fl_X10_arrives_78 (Or.inl rfl) dX10_arrives_68 (fun v14 h15 => ?_)
    refine bj_iload_n dX10_arrives_71 rfl 2 rfl ?_
    refine bj_nn (fun a16 h17 => ?_)
    subst h17
    refine bj_iald dX10_arrives_72 (fun v18 h19 => ?_)
    refine bj_aload_nS dX10_arrives_73 rfl 1 rfl ?_
    refine bj_getR (ci := 11) (k := 22) (C := RX10) (T := TX10) (N := 49) rfl hi_X10_arrives_X10 (by decide) rfl fl_X10_arrives_44 (Or.inl rfl) dX10_arrives_74 (fun v20 h21 => ?_)
    refine bj_iload_n dX10_arrives_77 rfl 0 rfl ?_
    refine bj_nn (fun a22 h23 => ?_)
    subst h23
    refine bj_iald dX10_arrives_78 (fun v24 h25 => ?_)
    refine bj_min (List.mem_of_getElem? (i := 7) rfl) (List.mem_of_getElem? (i := 8) rfl) (List.mem_of_getElem? (i := 9) rfl) (List.mem_of_getElem? (i := 10) rfl) (by decide) (Nat.le_of_ble_eq_true rfl) dX10_arrives_79 ?_
    refine bj_istore_n (lv' := [(3, .int (bh_min v18 v24)), (2, .int v5), (0, .ref this), (1, .int x1)]) dX10_arrives_82 rfl (by decide) rfl ?_
    refine bj_iload_n dX10_arrives_83 rfl 0 rfl ?_
    refine bj_if_ne (tgt := 91) dX10_arrives_84 (by decide) (fun h26 => ?_) (fun h26 => ?_)
    · refine bj_aload_nS dX10_arrives_91 rfl 2 rfl ?_
      refine bj_getR (ci := 11) (k := 23) (C := RX10) (T := TX10) (N := 49) rfl hi_X10_arrives_X10 (by decide) rfl fl_X10_arrives_47 (Or.inl rfl) dX10_arrives_92 (fun v27 h28 => ?_)
      refine bj_iload_n dX10_arrives_95 rfl 1 rfl ?_
      refine bj_nn (fun a29 h30 => ?_)
      subst h30
      refine bj_iald dX10_arrives_96 (fun v31 h32 => ?_)
      refine bj_i2l dX10_arrives_97 ?_
      refine bj_iload_n dX10_arrives_98 rfl 0 rfl ?_
      refine bj_i2l dX10_arrives_99 ?_
      refine bj_lmul dX10_arrives_100 ?_
      refine bj_aload_nS dX10_arrives_101 rfl 2 rfl ?_
      refine bj_getR (ci := 11) (k := 22) (C := RX10) (T := TX10) (N := 49) rfl hi_X10_arrives_X10 (by decide) rfl fl_X10_arrives_44 (Or.inl rfl) dX10_arrives_102 (fun v33 h34 => ?_)
      refine bj_iload_n dX10_arrives_105 rfl 1 rfl ?_
      refine bj_nn (fun a35 h36 => ?_)
      subst h36
      refine bj_iald dX10_arrives_106 (fun v37 h38 => ?_)
      refine bj_i2l dX10_arrives_107 ?_
      refine bj_op (fun _ h39 => ?_)
      refine bj_ldivC dX10_arrives_108 (bh_nzL_spec h39) ?_
      refine bj_l2i dX10_arrives_109 ?_
      refine bj_sub (lv' := [(0, .ref this), (1, .int x1), (2, .int v5), (3, .int (bh_min v18 v24))]) [2, 3, 1, 0] rfl ?_
      exact j_X10_arrives_b110 X this x1 v5 (bh_min v18 v24) (((v31.toInt64 * ((bh_min v18 v24).toInt64)) / v37.toInt64).toInt32) σ
    · refine bj_iconst (v := 0) dX10_arrives_87 (by decide) ?_
      refine bj_goto (tgt := 110) dX10_arrives_88 (by decide) ?_
      refine bj_sub (lv' := [(0, .ref this), (1, .int x1), (2, .int v5), (3, .int (bh_min v18 v24))]) [2, 3, 1, 0] rfl ?_
      exact j_X10_arrives_b110 X this x1 v5 (bh_min v18 v24) 0 σ
  · refine bj_aload_nS dX10_arrives_51 rfl 1 rfl ?_
    refine bj_getR (ci := 11) (k := 34) (C := RX10) (T := TX10) (N := 49) rfl hi_X10_arrives_X10 (by decide) rfl fl_X10_arrives_81 (Or.inl rfl) dX10_arrives_52 (fun v40 h41 => ?_)
    refine bj_iload_n dX10_arrives_55 rfl 2 rfl ?_
    refine bj_iconst (v := 3) dX10_arrives_56 (by decide) ?_
    refine bj_nn (fun a42 h43 => ?_)
    subst h43
    refine bj_iast dX10_arrives_57 (fun σ44 h45 => ?_)
    refine bj_aload_nS dX10_arrives_58 rfl 1 rfl ?_
    refine bj_getR (ci := 11) (k := 36) (C := RX10) (T := TX10) (N := 49) rfl hi_X10_arrives_X10 (by decide) rfl fl_X10_arrives_87 (Or.inl rfl) dX10_arrives_59 (fun v46 h47 => ?_)
    refine bj_iload_n dX10_arrives_62 rfl 2 rfl ?_
    refine bj_bipush (v := (-9)) dX10_arrives_63 (by decide) ?_
    refine bj_nn (fun a48 h49 => ?_)
    subst h49
    refine bj_iast dX10_arrives_65 (fun σ50 h51 => ?_)
    exact bj_vret dX10_arrives_66
def f_X10_arrives (this : Nat) (p1 : Int32) (σ : bh_S) : Option (Unit × bh_S) :=
  (bh_rdR σ 11 this 36).bind fun v1 =>
  (v1).bind fun a3 =>
  (bh_ldI σ 12 a3 p1).bind fun v5 =>
  (bh_rdI σ 11 this 6).bind fun v7 =>
  if v5 = v7 then
    (bh_rdR σ 11 this 34).bind fun v10 =>
    (v10).bind fun a12 =>
    (bh_ldI σ 12 a12 p1).bind fun v14 =>
    if v14 = 1 then
      f_X10_arrives_b34 this p1 σ
    else
      (bh_rdR σ 11 this 34).bind fun v17 =>
      (v17).bind fun a19 =>
      (bh_ldI σ 12 a19 p1).bind fun v21 =>
      if v21 = 2 then
        f_X10_arrives_b34 this p1 σ
      else
        some ((), σ)
  else
    some ((), σ)
set_option maxHeartbeats 4000000 in
set_option maxRecDepth 100000 in
theorem c_X10_arrives (X : bh_X) (this : Nat) (p1 : Int32) (σ : bh_S) : bh_MX eU X yX10_arrives wsX10_arrives 1 13 [.ref this, .int p1] σ (f_X10_arrives this p1 σ) := by
  refine bh_enter (cc := cX10_arrives) (NL := 5) (ret := none) (by decide) rfl (Nat.le_of_ble_eq_true rfl) (fun X => ?_)
  show bh_J eU yX10_arrives cX10_arrives wsX10_arrives none 5 1 13 X σ 0 [(0, .ref this), (1, .int p1)] [] _
  unfold f_X10_arrives
  refine bj_aload_nS dX10_arrives_0 rfl 0 rfl ?_
  refine bj_getR (ci := 11) (k := 36) (C := RX10) (T := TX10) (N := 49) rfl hi_X10_arrives_X10 (by decide) rfl fl_X10_arrives_87 (Or.inl rfl) dX10_arrives_1 (fun v1 h2 => ?_)
  refine bj_iload_n dX10_arrives_4 rfl 1 rfl ?_
  refine bj_nn (fun a3 h4 => ?_)
  subst h4
  refine bj_iald dX10_arrives_5 (fun v5 h6 => ?_)
  refine bj_aload_nS dX10_arrives_6 rfl 0 rfl ?_
  refine bj_getI (ci := 11) (k := 6) (C := RX10) (T := TX10) (N := 49) rfl hi_X10_arrives_X10 (by decide) rfl fl_X10_arrives_138 (Or.inl rfl) dX10_arrives_7 (fun v7 h8 => ?_)
  refine bj_icmp_ne (tgt := 33) dX10_arrives_10 (by decide) (fun h9 => ?_) (fun h9 => ?_)
  · exact bj_vret dX10_arrives_33
  · refine bj_aload_nS dX10_arrives_13 rfl 0 rfl ?_
    refine bj_getR (ci := 11) (k := 34) (C := RX10) (T := TX10) (N := 49) rfl hi_X10_arrives_X10 (by decide) rfl fl_X10_arrives_81 (Or.inl rfl) dX10_arrives_14 (fun v10 h11 => ?_)
    refine bj_iload_n dX10_arrives_17 rfl 1 rfl ?_
    refine bj_nn (fun a12 h13 => ?_)
    subst h13
    refine bj_iald dX10_arrives_18 (fun v14 h15 => ?_)
    refine bj_iconst (v := 1) dX10_arrives_19 (by decide) ?_
    refine bj_icmp_eq (tgt := 34) dX10_arrives_20 (by decide) (fun h16 => ?_) (fun h16 => ?_)
    · refine bj_sub (lv' := [(0, .ref this), (1, .int p1)]) [0, 1] rfl ?_
      exact j_X10_arrives_b34 X this p1 σ
    · refine bj_aload_nS dX10_arrives_23 rfl 0 rfl ?_
      refine bj_getR (ci := 11) (k := 34) (C := RX10) (T := TX10) (N := 49) rfl hi_X10_arrives_X10 (by decide) rfl fl_X10_arrives_81 (Or.inl rfl) dX10_arrives_24 (fun v17 h18 => ?_)
      refine bj_iload_n dX10_arrives_27 rfl 1 rfl ?_
      refine bj_nn (fun a19 h20 => ?_)
      subst h20
      refine bj_iald dX10_arrives_28 (fun v21 h22 => ?_)
      refine bj_iconst (v := 2) dX10_arrives_29 (by decide) ?_
      refine bj_icmp_eq (tgt := 34) dX10_arrives_30 (by decide) (fun h23 => ?_) (fun h23 => ?_)
      · refine bj_sub (lv' := [(0, .ref this), (1, .int p1)]) [0, 1] rfl ?_
        exact j_X10_arrives_b34 X this p1 σ
      · exact bj_vret dX10_arrives_33
/-! BeetHouseModel.brings(I)V -/
theorem hi_X10_brings_X10 : ∀ w ∈ u_ws RX10 TX10 49, w ∈ wsX10_brings := fun _ h => (List.mem_cons_of_mem _ (List.mem_append_right _ h))
set_option maxRecDepth 100000 in
theorem fl_X10_brings_84 : bh_fl wsX10_brings yX10_brings.cls 84 "BeetHouseModel" "to" "[I" := Or.inl (List.mem_of_getElem? (i := 1) rfl)
set_option maxRecDepth 100000 in
theorem fl_X10_brings_90 : bh_fl wsX10_brings yX10_brings.cls 90 "BeetHouseModel" "has" "[I" := Or.inl (List.mem_of_getElem? (i := 2) rfl)
set_option maxRecDepth 100000 in
theorem fl_X10_brings_102 : bh_fl wsX10_brings yX10_brings.cls 102 "BeetHouseModel" "loadField" "[I" := Or.inl (List.mem_of_getElem? (i := 3) rfl)
set_option maxRecDepth 100000 in
theorem fl_X10_brings_165 : bh_fl wsX10_brings yX10_brings.cls 165 "BeetHouseModel" "loads" "I" := Or.inl (List.mem_of_getElem? (i := 4) rfl)
set_option maxRecDepth 100000 in
theorem fl_X10_brings_105 : bh_fl wsX10_brings yX10_brings.cls 105 "BeetHouseModel" "loadRoots" "[I" := Or.inl (List.mem_of_getElem? (i := 5) rfl)
set_option maxRecDepth 100000 in
theorem fl_X10_brings_108 : bh_fl wsX10_brings yX10_brings.cls 108 "BeetHouseModel" "loadSugar" "[I" := Or.inl (List.mem_of_getElem? (i := 6) rfl)
set_option maxRecDepth 100000 in
theorem fl_X10_brings_93 : bh_fl wsX10_brings yX10_brings.cls 93 "BeetHouseModel" "hasSugar" "[I" := Or.inl (List.mem_of_getElem? (i := 7) rfl)
set_option maxRecDepth 100000 in
theorem fl_X10_brings_16 : bh_fl wsX10_brings yX10_brings.cls 16 "BeetHouseModel" "coins" "[I" := Or.inl (List.mem_of_getElem? (i := 8) rfl)
set_option maxRecDepth 100000 in
theorem fl_X10_brings_32 : bh_fl wsX10_brings yX10_brings.cls 32 "BeetHouseModel" "farmer" "[I" := Or.inl (List.mem_of_getElem? (i := 9) rfl)
set_option maxRecDepth 100000 in
theorem fl_X10_brings_25 : bh_fl wsX10_brings yX10_brings.cls 25 "BeetHouseModel" "prices" "[I" := Or.inl (List.mem_of_getElem? (i := 10) rfl)
set_option maxRecDepth 100000 in
theorem fl_X10_brings_59 : bh_fl wsX10_brings yX10_brings.cls 59 "BeetHouseModel" "came" "[I" := Or.inl (List.mem_of_getElem? (i := 15) rfl)
set_option maxRecDepth 100000 in
theorem fl_X10_brings_99 : bh_fl wsX10_brings yX10_brings.cls 99 "BeetHouseModel" "brought" "[I" := Or.inl (List.mem_of_getElem? (i := 16) rfl)
set_option maxRecDepth 100000 in
theorem fl_X10_brings_81 : bh_fl wsX10_brings yX10_brings.cls 81 "BeetHouseModel" "does" "[I" := Or.inl (List.mem_of_getElem? (i := 17) rfl)
def f_X10_brings_b138 (this : Nat) (x1 : Int32) (σ : bh_S) : Option (Unit × bh_S) :=
  (bh_rdR σ 11 this 34).bind fun v1 =>
  (v1).bind fun a3 =>
  (bh_stI σ 12 a3 x1 0).bind fun σ5 =>
  (bh_rdR σ5 11 this 35).bind fun v7 =>
  (v7).bind fun a9 =>
  (bh_stI σ5 12 a9 x1 (-9)).bind fun σ11 =>
  (bh_rdR σ11 11 this 37).bind fun v13 =>
  (v13).bind fun a15 =>
  (bh_stI σ11 12 a15 x1 0).bind fun σ17 =>
  (bh_rdR σ17 11 this 38).bind fun v19 =>
  (v19).bind fun a21 =>
  (bh_stI σ17 12 a21 x1 0).bind fun σ23 =>
  some ((), σ23)
set_option maxHeartbeats 4000000 in
set_option maxRecDepth 100000 in
theorem j_X10_brings_b138 (X : bh_X) (this : Nat) (x1 : Int32) (σ : bh_S) : bh_J eU yX10_brings cX10_brings wsX10_brings none 3 1 18 X σ 138 [(0, .ref this), (1, .int x1)] [] (f_X10_brings_b138 this x1 σ) := by
  unfold f_X10_brings_b138
  refine bj_aload_nS dX10_brings_138 rfl 0 rfl ?_
  refine bj_getR (ci := 11) (k := 34) (C := RX10) (T := TX10) (N := 49) rfl hi_X10_brings_X10 (by decide) rfl fl_X10_brings_81 (Or.inl rfl) dX10_brings_139 (fun v1 h2 => ?_)
  refine bj_iload_n dX10_brings_142 rfl 1 rfl ?_
  refine bj_iconst (v := 0) dX10_brings_143 (by decide) ?_
  refine bj_nn (fun a3 h4 => ?_)
  subst h4
  refine bj_iast dX10_brings_144 (fun σ5 h6 => ?_)
  refine bj_aload_nS dX10_brings_145 rfl 0 rfl ?_
  refine bj_getR (ci := 11) (k := 35) (C := RX10) (T := TX10) (N := 49) rfl hi_X10_brings_X10 (by decide) rfl fl_X10_brings_84 (Or.inl rfl) dX10_brings_146 (fun v7 h8 => ?_)
  refine bj_iload_n dX10_brings_149 rfl 1 rfl ?_
  refine bj_bipush (v := (-9)) dX10_brings_150 (by decide) ?_
  refine bj_nn (fun a9 h10 => ?_)
  subst h10
  refine bj_iast dX10_brings_152 (fun σ11 h12 => ?_)
  refine bj_aload_nS dX10_brings_153 rfl 0 rfl ?_
  refine bj_getR (ci := 11) (k := 37) (C := RX10) (T := TX10) (N := 49) rfl hi_X10_brings_X10 (by decide) rfl fl_X10_brings_90 (Or.inl rfl) dX10_brings_154 (fun v13 h14 => ?_)
  refine bj_iload_n dX10_brings_157 rfl 1 rfl ?_
  refine bj_iconst (v := 0) dX10_brings_158 (by decide) ?_
  refine bj_nn (fun a15 h16 => ?_)
  subst h16
  refine bj_iast dX10_brings_159 (fun σ17 h18 => ?_)
  refine bj_aload_nS dX10_brings_160 rfl 0 rfl ?_
  refine bj_getR (ci := 11) (k := 38) (C := RX10) (T := TX10) (N := 49) rfl hi_X10_brings_X10 (by decide) rfl fl_X10_brings_93 (Or.inl rfl) dX10_brings_161 (fun v19 h20 => ?_)
  refine bj_iload_n dX10_brings_164 rfl 1 rfl ?_
  refine bj_iconst (v := 0) dX10_brings_165 (by decide) ?_
  refine bj_nn (fun a21 h22 => ?_)
  subst h22
  refine bj_iast dX10_brings_166 (fun σ23 h24 => ?_)
  exact bj_vret dX10_brings_167
def f_X10_brings (this : Nat) (p1 : Int32) (σ : bh_S) : Option (Unit × bh_S) :=
  (bh_rdR σ 11 this 35).bind fun v1 =>
  (v1).bind fun a3 =>
  (bh_ldI σ 12 a3 p1).bind fun v5 =>
  (bh_rdR σ 11 this 37).bind fun v7 =>
  (v7).bind fun a9 =>
  (bh_ldI σ 12 a9 p1).bind fun v11 =>
  if v11 ≤ 0 then
    f_X10_brings_b138 this p1 σ
  else
    (bh_rdR σ 11 this 41).bind fun v14 =>
    (bh_rdI σ 11 this 44).bind fun v16 =>
    (v14).bind fun a18 =>
    (bh_stI σ 12 a18 v16 v5).bind fun σ20 =>
    (bh_rdR σ20 11 this 42).bind fun v22 =>
    (bh_rdI σ20 11 this 44).bind fun v24 =>
    (bh_rdR σ20 11 this 37).bind fun v26 =>
    (v26).bind fun a28 =>
    (bh_ldI σ20 12 a28 p1).bind fun v30 =>
    (v22).bind fun a32 =>
    (bh_stI σ20 12 a32 v24 v30).bind fun σ34 =>
    (bh_rdR σ34 11 this 43).bind fun v36 =>
    (bh_rdI σ34 11 this 44).bind fun v38 =>
    (bh_rdR σ34 11 this 38).bind fun v40 =>
    (v40).bind fun a42 =>
    (bh_ldI σ34 12 a42 p1).bind fun v44 =>
    (v36).bind fun a46 =>
    (bh_stI σ34 12 a46 v38 v44).bind fun σ48 =>
    (bh_rdI σ48 11 this 44).bind fun v50 =>
    (bh_wrI σ48 11 this 44 (v50 + 1)).bind fun σ52 =>
    (bh_rdR σ52 11 this 2).bind fun v54 =>
    (bh_rdR σ52 11 this 18).bind fun v56 =>
    (v56).bind fun a58 =>
    (bh_ldI σ52 12 a58 v5).bind fun v60 =>
    (v54).bind fun a62 =>
    (bh_ldI σ52 12 a62 v60).bind fun v64 =>
    (bh_rdR σ52 11 this 37).bind fun v66 =>
    (v66).bind fun a68 =>
    (bh_ldI σ52 12 a68 p1).bind fun v70 =>
    (bh_rdR σ52 11 this 5).bind fun v72 =>
    (bh_rdR σ52 11 this 38).bind fun v74 =>
    (v74).bind fun a76 =>
    (bh_ldI σ52 12 a76 p1).bind fun v78 =>
    (bh_rdR σ52 11 this 37).bind fun v80 =>
    (v80).bind fun a82 =>
    (bh_ldI σ52 12 a82 p1).bind fun v84 =>
    (bh_nz v84).bind fun _ =>
    (v72).bind fun a87 =>
    (bh_ldI σ52 12 a87 (bh_min 9 ((v78 / v84) / 25))).bind fun v89 =>
    (bh_stI σ52 12 a62 v60 (v64 + (v70 * v89))).bind fun σ91 =>
    (bh_rdR σ91 11 this 27).bind fun v93 =>
    (v93).bind fun a95 =>
    (bh_ldI σ91 12 a95 v5).bind fun v97 =>
    (bh_rdR σ91 11 this 37).bind fun v99 =>
    (v99).bind fun a101 =>
    (bh_ldI σ91 12 a101 p1).bind fun v103 =>
    (bh_stI σ91 12 a95 v5 (v97 + v103)).bind fun σ105 =>
    (bh_rdR σ105 11 this 40).bind fun v107 =>
    (v107).bind fun a109 =>
    (bh_ldI σ105 12 a109 p1).bind fun v111 =>
    (bh_stI σ105 12 a109 p1 (v111 + 1)).bind fun σ113 =>
    f_X10_brings_b138 this p1 σ113
set_option maxHeartbeats 4000000 in
set_option maxRecDepth 100000 in
theorem c_X10_brings (X : bh_X) (this : Nat) (p1 : Int32) (σ : bh_S) : bh_MX eU X yX10_brings wsX10_brings 1 18 [.ref this, .int p1] σ (f_X10_brings this p1 σ) := by
  refine bh_enter (cc := cX10_brings) (NL := 3) (ret := none) (by decide) rfl (Nat.le_of_ble_eq_true rfl) (fun X => ?_)
  show bh_J eU yX10_brings cX10_brings wsX10_brings none 3 1 18 X σ 0 [(0, .ref this), (1, .int p1)] [] _
  unfold f_X10_brings
  refine bj_aload_nS dX10_brings_0 rfl 0 rfl ?_
  refine bj_getR (ci := 11) (k := 35) (C := RX10) (T := TX10) (N := 49) rfl hi_X10_brings_X10 (by decide) rfl fl_X10_brings_84 (Or.inl rfl) dX10_brings_1 (fun v1 h2 => ?_)
  refine bj_iload_n dX10_brings_4 rfl 1 rfl ?_
  refine bj_nn (fun a3 h4 => ?_)
  subst h4
  refine bj_iald dX10_brings_5 (fun v5 h6 => ?_)
  refine bj_istore_n (lv' := [(2, .int v5), (0, .ref this), (1, .int p1)]) dX10_brings_6 rfl (by decide) rfl ?_
  refine bj_aload_nS dX10_brings_7 rfl 1 rfl ?_
  refine bj_getR (ci := 11) (k := 37) (C := RX10) (T := TX10) (N := 49) rfl hi_X10_brings_X10 (by decide) rfl fl_X10_brings_90 (Or.inl rfl) dX10_brings_8 (fun v7 h8 => ?_)
  refine bj_iload_n dX10_brings_11 rfl 2 rfl ?_
  refine bj_nn (fun a9 h10 => ?_)
  subst h10
  refine bj_iald dX10_brings_12 (fun v11 h12 => ?_)
  refine bj_if_le (tgt := 138) dX10_brings_13 (by decide) (fun h13 => ?_) (fun h13 => ?_)
  · refine bj_sub (lv' := [(0, .ref this), (1, .int p1)]) [1, 2] rfl ?_
    exact j_X10_brings_b138 X this p1 σ
  · refine bj_aload_nS dX10_brings_16 rfl 1 rfl ?_
    refine bj_getR (ci := 11) (k := 41) (C := RX10) (T := TX10) (N := 49) rfl hi_X10_brings_X10 (by decide) rfl fl_X10_brings_102 (Or.inl rfl) dX10_brings_17 (fun v14 h15 => ?_)
    refine bj_aload_nS dX10_brings_20 rfl 1 rfl ?_
    refine bj_getI (ci := 11) (k := 44) (C := RX10) (T := TX10) (N := 49) rfl hi_X10_brings_X10 (by decide) rfl fl_X10_brings_165 (Or.inl rfl) dX10_brings_21 (fun v16 h17 => ?_)
    refine bj_iload_n dX10_brings_24 rfl 0 rfl ?_
    refine bj_nn (fun a18 h19 => ?_)
    subst h19
    refine bj_iast dX10_brings_25 (fun σ20 h21 => ?_)
    refine bj_aload_nS dX10_brings_26 rfl 1 rfl ?_
    refine bj_getR (ci := 11) (k := 42) (C := RX10) (T := TX10) (N := 49) rfl hi_X10_brings_X10 (by decide) rfl fl_X10_brings_105 (Or.inl rfl) dX10_brings_27 (fun v22 h23 => ?_)
    refine bj_aload_nS dX10_brings_30 rfl 1 rfl ?_
    refine bj_getI (ci := 11) (k := 44) (C := RX10) (T := TX10) (N := 49) rfl hi_X10_brings_X10 (by decide) rfl fl_X10_brings_165 (Or.inl rfl) dX10_brings_31 (fun v24 h25 => ?_)
    refine bj_aload_nS dX10_brings_34 rfl 1 rfl ?_
    refine bj_getR (ci := 11) (k := 37) (C := RX10) (T := TX10) (N := 49) rfl hi_X10_brings_X10 (by decide) rfl fl_X10_brings_90 (Or.inl rfl) dX10_brings_35 (fun v26 h27 => ?_)
    refine bj_iload_n dX10_brings_38 rfl 2 rfl ?_
    refine bj_nn (fun a28 h29 => ?_)
    subst h29
    refine bj_iald dX10_brings_39 (fun v30 h31 => ?_)
    refine bj_nn (fun a32 h33 => ?_)
    subst h33
    refine bj_iast dX10_brings_40 (fun σ34 h35 => ?_)
    refine bj_aload_nS dX10_brings_41 rfl 1 rfl ?_
    refine bj_getR (ci := 11) (k := 43) (C := RX10) (T := TX10) (N := 49) rfl hi_X10_brings_X10 (by decide) rfl fl_X10_brings_108 (Or.inl rfl) dX10_brings_42 (fun v36 h37 => ?_)
    refine bj_aload_nS dX10_brings_45 rfl 1 rfl ?_
    refine bj_getI (ci := 11) (k := 44) (C := RX10) (T := TX10) (N := 49) rfl hi_X10_brings_X10 (by decide) rfl fl_X10_brings_165 (Or.inl rfl) dX10_brings_46 (fun v38 h39 => ?_)
    refine bj_aload_nS dX10_brings_49 rfl 1 rfl ?_
    refine bj_getR (ci := 11) (k := 38) (C := RX10) (T := TX10) (N := 49) rfl hi_X10_brings_X10 (by decide) rfl fl_X10_brings_93 (Or.inl rfl) dX10_brings_50 (fun v40 h41 => ?_)
    refine bj_iload_n dX10_brings_53 rfl 2 rfl ?_
    refine bj_nn (fun a42 h43 => ?_)
    subst h43
    refine bj_iald dX10_brings_54 (fun v44 h45 => ?_)
    refine bj_nn (fun a46 h47 => ?_)
    subst h47
    refine bj_iast dX10_brings_55 (fun σ48 h49 => ?_)
    refine bj_aload_nS dX10_brings_56 rfl 1 rfl ?_
    refine bj_dup dX10_brings_57 rfl ?_
    refine bj_getI (ci := 11) (k := 44) (C := RX10) (T := TX10) (N := 49) rfl hi_X10_brings_X10 (by decide) rfl fl_X10_brings_165 (Or.inl rfl) dX10_brings_58 (fun v50 h51 => ?_)
    refine bj_iconst (v := 1) dX10_brings_61 (by decide) ?_
    refine bj_iadd dX10_brings_62 ?_
    refine bj_putI (ci := 11) (k := 44) (C := RX10) (T := TX10) (N := 49) rfl hi_X10_brings_X10 (by decide) rfl fl_X10_brings_165 (Or.inl rfl) tyX10 tyX10_ok nmX10 rfl (Or.inl rfl) dX10_brings_63 (fun σ52 h53 => ?_)
    refine bj_aload_nS dX10_brings_66 rfl 1 rfl ?_
    refine bj_getR (ci := 11) (k := 2) (C := RX10) (T := TX10) (N := 49) rfl hi_X10_brings_X10 (by decide) rfl fl_X10_brings_16 (Or.inl rfl) dX10_brings_67 (fun v54 h55 => ?_)
    refine bj_aload_nS dX10_brings_70 rfl 1 rfl ?_
    refine bj_getR (ci := 11) (k := 18) (C := RX10) (T := TX10) (N := 49) rfl hi_X10_brings_X10 (by decide) rfl fl_X10_brings_32 (Or.inl rfl) dX10_brings_71 (fun v56 h57 => ?_)
    refine bj_iload_n dX10_brings_74 rfl 0 rfl ?_
    refine bj_nn (fun a58 h59 => ?_)
    subst h59
    refine bj_iald dX10_brings_75 (fun v60 h61 => ?_)
    refine bj_dup2 dX10_brings_76 rfl (bh_cat _) ?_
    refine bj_nn (fun a62 h63 => ?_)
    subst h63
    refine bj_iald dX10_brings_77 (fun v64 h65 => ?_)
    refine bj_aload_nS dX10_brings_78 rfl 1 rfl ?_
    refine bj_getR (ci := 11) (k := 37) (C := RX10) (T := TX10) (N := 49) rfl hi_X10_brings_X10 (by decide) rfl fl_X10_brings_90 (Or.inl rfl) dX10_brings_79 (fun v66 h67 => ?_)
    refine bj_iload_n dX10_brings_82 rfl 2 rfl ?_
    refine bj_nn (fun a68 h69 => ?_)
    subst h69
    refine bj_iald dX10_brings_83 (fun v70 h71 => ?_)
    refine bj_aload_nS dX10_brings_84 rfl 1 rfl ?_
    refine bj_getR (ci := 11) (k := 5) (C := RX10) (T := TX10) (N := 49) rfl hi_X10_brings_X10 (by decide) rfl fl_X10_brings_25 (Or.inl rfl) dX10_brings_85 (fun v72 h73 => ?_)
    refine bj_bipush (v := 9) dX10_brings_88 (by decide) ?_
    refine bj_aload_nS dX10_brings_90 rfl 1 rfl ?_
    refine bj_getR (ci := 11) (k := 38) (C := RX10) (T := TX10) (N := 49) rfl hi_X10_brings_X10 (by decide) rfl fl_X10_brings_93 (Or.inl rfl) dX10_brings_91 (fun v74 h75 => ?_)
    refine bj_iload_n dX10_brings_94 rfl 2 rfl ?_
    refine bj_nn (fun a76 h77 => ?_)
    subst h77
    refine bj_iald dX10_brings_95 (fun v78 h79 => ?_)
    refine bj_aload_nS dX10_brings_96 rfl 1 rfl ?_
    refine bj_getR (ci := 11) (k := 37) (C := RX10) (T := TX10) (N := 49) rfl hi_X10_brings_X10 (by decide) rfl fl_X10_brings_90 (Or.inl rfl) dX10_brings_97 (fun v80 h81 => ?_)
    refine bj_iload_n dX10_brings_100 rfl 2 rfl ?_
    refine bj_nn (fun a82 h83 => ?_)
    subst h83
    refine bj_iald dX10_brings_101 (fun v84 h85 => ?_)
    refine bj_op (fun _ h86 => ?_)
    refine bj_idivC dX10_brings_102 (bh_nz_spec h86) ?_
    refine bj_bipush (v := 25) dX10_brings_103 (by decide) ?_
    refine bj_idivC dX10_brings_105 (by decide) ?_
    refine bj_min (List.mem_of_getElem? (i := 11) rfl) (List.mem_of_getElem? (i := 12) rfl) (List.mem_of_getElem? (i := 13) rfl) (List.mem_of_getElem? (i := 14) rfl) (by decide) (by cases v72 <;> exact Nat.le_of_ble_eq_true rfl) dX10_brings_106 ?_
    refine bj_nn (fun a87 h88 => ?_)
    subst h88
    refine bj_iald dX10_brings_109 (fun v89 h90 => ?_)
    refine bj_imul dX10_brings_110 ?_
    refine bj_iadd dX10_brings_111 ?_
    refine bj_iast dX10_brings_112 (fun σ91 h92 => ?_)
    refine bj_aload_nS dX10_brings_113 rfl 1 rfl ?_
    refine bj_getR (ci := 11) (k := 27) (C := RX10) (T := TX10) (N := 49) rfl hi_X10_brings_X10 (by decide) rfl fl_X10_brings_59 (Or.inl rfl) dX10_brings_114 (fun v93 h94 => ?_)
    refine bj_iload_n dX10_brings_117 rfl 0 rfl ?_
    refine bj_dup2 dX10_brings_118 rfl (bh_cat _) ?_
    refine bj_nn (fun a95 h96 => ?_)
    subst h96
    refine bj_iald dX10_brings_119 (fun v97 h98 => ?_)
    refine bj_aload_nS dX10_brings_120 rfl 1 rfl ?_
    refine bj_getR (ci := 11) (k := 37) (C := RX10) (T := TX10) (N := 49) rfl hi_X10_brings_X10 (by decide) rfl fl_X10_brings_90 (Or.inl rfl) dX10_brings_121 (fun v99 h100 => ?_)
    refine bj_iload_n dX10_brings_124 rfl 2 rfl ?_
    refine bj_nn (fun a101 h102 => ?_)
    subst h102
    refine bj_iald dX10_brings_125 (fun v103 h104 => ?_)
    refine bj_iadd dX10_brings_126 ?_
    refine bj_iast dX10_brings_127 (fun σ105 h106 => ?_)
    refine bj_aload_nS dX10_brings_128 rfl 1 rfl ?_
    refine bj_getR (ci := 11) (k := 40) (C := RX10) (T := TX10) (N := 49) rfl hi_X10_brings_X10 (by decide) rfl fl_X10_brings_99 (Or.inl rfl) dX10_brings_129 (fun v107 h108 => ?_)
    refine bj_iload_n dX10_brings_132 rfl 2 rfl ?_
    refine bj_dup2 dX10_brings_133 rfl (bh_cat _) ?_
    refine bj_nn (fun a109 h110 => ?_)
    subst h110
    refine bj_iald dX10_brings_134 (fun v111 h112 => ?_)
    refine bj_iconst (v := 1) dX10_brings_135 (by decide) ?_
    refine bj_iadd dX10_brings_136 ?_
    refine bj_iast dX10_brings_137 (fun σ113 h114 => ?_)
    refine bj_sub (lv' := [(0, .ref this), (1, .int p1)]) [1, 2] rfl ?_
    exact j_X10_brings_b138 X this p1 σ113
/-! BeetHouseModel.unloads()V -/
theorem hi_X10_unloads_X10 : ∀ w ∈ u_ws RX10 TX10 49, w ∈ wsX10_unloads := fun _ h => (List.mem_cons_of_mem _ (List.mem_append_right _ h))
set_option maxRecDepth 100000 in
theorem fl_X10_unloads_131 : bh_fl wsX10_unloads yX10_unloads.cls 131 "BeetHouseModel" "lorries" "I" := Or.inl (List.mem_of_getElem? (i := 1) rfl)
set_option maxRecDepth 100000 in
theorem fl_X10_unloads_81 : bh_fl wsX10_unloads yX10_unloads.cls 81 "BeetHouseModel" "does" "[I" := Or.inl (List.mem_of_getElem? (i := 2) rfl)
set_option maxRecDepth 100000 in
theorem fl_X10_unloads_90 : bh_fl wsX10_unloads yX10_unloads.cls 90 "BeetHouseModel" "has" "[I" := Or.inl (List.mem_of_getElem? (i := 3) rfl)
set_option maxRecDepth 100000 in
theorem g_X10_unloads_X10_inYard_174 : GoodIn wsX10_unloads (wsV yX10_unloads.cls 174 RX10 yX10_inYard wsX10_inYard) := goodIn_r _ [6, 7, 8, 9, 10, 11, 12, 30, 31, 32, 33, 34, 35, 36, 37, 38, 39, 40, 41, 42, 43, 44, 45, 46, 47, 48, 49, 50, 51, 52, 53, 54, 55, 56, 57, 58, 59, 60, 61, 62, 63, 64, 65, 66, 67, 68, 69, 70, 71, 72, 73, 74, 75, 76, 77, 78] rfl (by decide +kernel)
set_option maxRecDepth 100000 in
theorem fl_X10_unloads_28 : bh_fl wsX10_unloads yX10_unloads.cls 28 "BeetHouseModel" "room" "I" := Or.inl (List.mem_of_getElem? (i := 4) rfl)
set_option maxRecDepth 100000 in
theorem fl_X10_unloads_96 : bh_fl wsX10_unloads yX10_unloads.cls 96 "BeetHouseModel" "drowned" "[I" := Or.inl (List.mem_of_getElem? (i := 5) rfl)
set_option maxRecDepth 100000 in
theorem g_X10_unloads_X10_brings_177 : GoodIn wsX10_unloads (wsV yX10_unloads.cls 177 RX10 yX10_brings wsX10_brings) := goodIn_r _ [13, 14, 15, 9, 16, 17, 3, 18, 11, 12, 19, 20, 21, 22, 23, 24, 25, 26, 27, 28, 29, 2, 30, 31, 32, 33, 34, 35, 36, 37, 38, 39, 40, 41, 42, 43, 44, 45, 46, 47, 48, 49, 50, 51, 52, 53, 54, 55, 56, 57, 58, 59, 60, 61, 62, 63, 64, 65, 66, 67, 68, 69, 70, 71, 72, 73, 74, 75, 76, 77, 78] rfl (by decide +kernel)
def f_X10_unloads_b84 (N : Nat) (k4 : Nat → Int32 → Int32 → bh_S → Option (Unit × bh_S)) (this : Nat) (x1 : Int32) (x2 : Int32) (σ : bh_S) : Option (Unit × bh_S) :=
  k4 this x1 (x2 + 1) σ
set_option maxHeartbeats 4000000 in
set_option maxRecDepth 100000 in
theorem j_X10_unloads_b84 (X : bh_X) (N : Nat) (k4 : Nat → Int32 → Int32 → bh_S → Option (Unit × bh_S)) (hk4 : ∀ (this : Nat) (x1 : Int32) (x2 : Int32) (σ : bh_S), bh_J eU yX10_unloads cX10_unloads wsX10_unloads none 3 2 40 X σ 4 [(0, .ref this), (1, .int x1), (2, .int x2)] [] (k4 this x1 x2 σ)) (this : Nat) (x1 : Int32) (x2 : Int32) (σ : bh_S) : bh_J eU yX10_unloads cX10_unloads wsX10_unloads none 3 2 40 X σ 84 [(0, .ref this), (1, .int x1), (2, .int x2)] [] (f_X10_unloads_b84 N k4 this x1 x2 σ) := by
  unfold f_X10_unloads_b84
  refine bj_iinc (v := x2 + 1) (lv' := [(2, .int (x2 + 1)), (0, .ref this), (1, .int x1)]) dX10_unloads_84 2 rfl rfl (by decide) rfl ?_
  refine bj_goto (tgt := 4) dX10_unloads_87 (by decide) ?_
  refine bj_sub (lv' := [(0, .ref this), (1, .int x1), (2, .int (x2 + 1))]) [1, 2, 0] rfl ?_
  exact hk4 this x1 (x2 + 1) σ
def f_X10_unloads_b61 (N : Nat) (k4 : Nat → Int32 → Int32 → bh_S → Option (Unit × bh_S)) (this : Nat) (x2 : Int32) (t0 : Int32) (σ : bh_S) : Option (Unit × bh_S) :=
  if t0 = 0 then
    (bh_rdR σ 11 this 39).bind fun v2 =>
    (v2).bind fun a4 =>
    (bh_ldI σ 12 a4 x2).bind fun v6 =>
    (bh_stI σ 12 a4 x2 (v6 + 1)).bind fun σ8 =>
    f_X10_unloads_b84 N k4 this t0 x2 σ8
  else
    (bh_ck σ this 11).bind fun _ =>
    bh_bnd (f_X10_brings this x2 σ) fun v11 σ12 =>
    f_X10_unloads_b84 N k4 this t0 x2 σ12
set_option maxHeartbeats 4000000 in
set_option maxRecDepth 100000 in
theorem j_X10_unloads_b61 (X : bh_X) (N : Nat) (k4 : Nat → Int32 → Int32 → bh_S → Option (Unit × bh_S)) (hk4 : ∀ (this : Nat) (x1 : Int32) (x2 : Int32) (σ : bh_S), bh_J eU yX10_unloads cX10_unloads wsX10_unloads none 3 2 40 X σ 4 [(0, .ref this), (1, .int x1), (2, .int x2)] [] (k4 this x1 x2 σ)) (this : Nat) (x2 : Int32) (t0 : Int32) (σ : bh_S) : bh_J eU yX10_unloads cX10_unloads wsX10_unloads none 3 2 40 X σ 61 [(0, .ref this), (2, .int x2)] [.int t0] (f_X10_unloads_b61 N k4 this x2 t0 σ) := by
  unfold f_X10_unloads_b61
  refine bj_istore_n (lv' := [(1, .int t0), (0, .ref this), (2, .int x2)]) dX10_unloads_61 rfl (by decide) rfl ?_
  refine bj_iload_n dX10_unloads_62 rfl 0 rfl ?_
  refine bj_if_eq (tgt := 74) dX10_unloads_63 (by decide) (fun h1 => ?_) (fun h1 => ?_)
  · refine bj_aload_nS dX10_unloads_74 rfl 1 rfl ?_
    refine bj_getR (ci := 11) (k := 39) (C := RX10) (T := TX10) (N := 49) rfl hi_X10_unloads_X10 (by decide) rfl fl_X10_unloads_96 (Or.inl rfl) dX10_unloads_75 (fun v2 h3 => ?_)
    refine bj_iload_n dX10_unloads_78 rfl 2 rfl ?_
    refine bj_dup2 dX10_unloads_79 rfl (bh_cat _) ?_
    refine bj_nn (fun a4 h5 => ?_)
    subst h5
    refine bj_iald dX10_unloads_80 (fun v6 h7 => ?_)
    refine bj_iconst (v := 1) dX10_unloads_81 (by decide) ?_
    refine bj_iadd dX10_unloads_82 ?_
    refine bj_iast dX10_unloads_83 (fun σ8 h9 => ?_)
    refine bj_sub (lv' := [(0, .ref this), (1, .int t0), (2, .int x2)]) [1, 0, 2] rfl ?_
    exact j_X10_unloads_b84 X N k4 hk4 this t0 x2 σ8
  · refine bj_aload_nS dX10_unloads_66 rfl 1 rfl ?_
    refine bj_iload_n dX10_unloads_67 rfl 2 rfl ?_
    refine bj_op (fun _ h10 => ?_)
    refine bj_callU (br_V (As := [.int x2]) (rest := []) (q := (RX10, TX10, 49)) (c_X10_brings X this x2 σ) rfl g_X10_unloads_X10_brings_177 rfl (bh_ck_spec h10) ⟨rfl, hd_X10_brings⟩ rfl ⟨by decide, by decide⟩ rfl (Nat.le_of_ble_eq_true rfl) dX10_unloads_68) (fun v11 σ12 h13 => ?_)
    refine bj_goto (tgt := 84) dX10_unloads_71 (by decide) ?_
    refine bj_sub (lv' := [(0, .ref this), (1, .int t0), (2, .int x2)]) [1, 0, 2] rfl ?_
    exact j_X10_unloads_b84 X N k4 hk4 this t0 x2 σ12
def f_X10_unloads_b56 (N : Nat) (k4 : Nat → Int32 → Int32 → bh_S → Option (Unit × bh_S)) (this : Nat) (x2 : Int32) (σ : bh_S) : Option (Unit × bh_S) :=
  f_X10_unloads_b61 N k4 this x2 1 σ
set_option maxHeartbeats 4000000 in
set_option maxRecDepth 100000 in
theorem j_X10_unloads_b56 (X : bh_X) (N : Nat) (k4 : Nat → Int32 → Int32 → bh_S → Option (Unit × bh_S)) (hk4 : ∀ (this : Nat) (x1 : Int32) (x2 : Int32) (σ : bh_S), bh_J eU yX10_unloads cX10_unloads wsX10_unloads none 3 2 40 X σ 4 [(0, .ref this), (1, .int x1), (2, .int x2)] [] (k4 this x1 x2 σ)) (this : Nat) (x2 : Int32) (σ : bh_S) : bh_J eU yX10_unloads cX10_unloads wsX10_unloads none 3 2 40 X σ 56 [(0, .ref this), (2, .int x2)] [] (f_X10_unloads_b56 N k4 this x2 σ) := by
  unfold f_X10_unloads_b56
  refine bj_iconst (v := 1) dX10_unloads_56 (by decide) ?_
  refine bj_goto (tgt := 61) dX10_unloads_57 (by decide) ?_
  refine bj_sub (lv' := [(0, .ref this), (2, .int x2)]) [0, 1] rfl ?_
  exact j_X10_unloads_b61 X N k4 hk4 this x2 1 σ
def f_X10_unloads_b60 (N : Nat) (k4 : Nat → Int32 → Int32 → bh_S → Option (Unit × bh_S)) (this : Nat) (x2 : Int32) (σ : bh_S) : Option (Unit × bh_S) :=
  f_X10_unloads_b61 N k4 this x2 0 σ
set_option maxHeartbeats 4000000 in
set_option maxRecDepth 100000 in
theorem j_X10_unloads_b60 (X : bh_X) (N : Nat) (k4 : Nat → Int32 → Int32 → bh_S → Option (Unit × bh_S)) (hk4 : ∀ (this : Nat) (x1 : Int32) (x2 : Int32) (σ : bh_S), bh_J eU yX10_unloads cX10_unloads wsX10_unloads none 3 2 40 X σ 4 [(0, .ref this), (1, .int x1), (2, .int x2)] [] (k4 this x1 x2 σ)) (this : Nat) (x2 : Int32) (σ : bh_S) : bh_J eU yX10_unloads cX10_unloads wsX10_unloads none 3 2 40 X σ 60 [(0, .ref this), (2, .int x2)] [] (f_X10_unloads_b60 N k4 this x2 σ) := by
  unfold f_X10_unloads_b60
  refine bj_iconst (v := 0) dX10_unloads_60 (by decide) ?_
  refine bj_sub (lv' := [(0, .ref this), (2, .int x2)]) [0, 1] rfl ?_
  exact j_X10_unloads_b61 X N k4 hk4 this x2 0 σ
def f_X10_unloads_b4 (N : Nat) : Nat → Nat → Int32 → Int32 → bh_S → Option (Unit × bh_S)
  | 0, _, _, _, _ => none
  | n + 1, this, x1, x2, σ =>
    (bh_rdI σ 11 this 8).bind fun v1 =>
    if v1 ≤ x2 then
      some ((), σ)
    else
      (bh_rdR σ 11 this 34).bind fun v4 =>
      (v4).bind fun a6 =>
      (bh_ldI σ 12 a6 x2).bind fun v8 =>
      if v8 = 3 then
        if x1 = 0 then
          f_X10_unloads_b60 N (f_X10_unloads_b4 N n) this x2 σ
        else
          (bh_rdR σ 11 this 37).bind fun v12 =>
          (v12).bind fun a14 =>
          (bh_ldI σ 12 a14 x2).bind fun v16 =>
          if v16 = 0 then
            f_X10_unloads_b56 N (f_X10_unloads_b4 N n) this x2 σ
          else
            (bh_ck σ this 11).bind fun _ =>
            bh_bnd (f_X10_inYard N this σ) fun v20 σ21 =>
            (bh_rdR σ21 11 this 37).bind fun v23 =>
            (v23).bind fun a25 =>
            (bh_ldI σ21 12 a25 x2).bind fun v27 =>
            (bh_rdI σ21 11 this 9).bind fun v29 =>
            if v29 < (v20 + v27) then
              f_X10_unloads_b60 N (f_X10_unloads_b4 N n) this x2 σ21
            else
              f_X10_unloads_b56 N (f_X10_unloads_b4 N n) this x2 σ21
      else
        f_X10_unloads_b84 N (f_X10_unloads_b4 N n) this x1 x2 σ
set_option maxHeartbeats 4000000 in
set_option maxRecDepth 100000 in
theorem j_X10_unloads_b4 (X : bh_X) (N : Nat) : ∀ (n : Nat) (this : Nat) (x1 : Int32) (x2 : Int32) (σ : bh_S), bh_J eU yX10_unloads cX10_unloads wsX10_unloads none 3 2 40 X σ 4 [(0, .ref this), (1, .int x1), (2, .int x2)] [] (f_X10_unloads_b4 N n this x1 x2 σ) := by
  intro n
  induction n with
  | zero => intro this x1 x2 σ; exact bj_none
  | succ n ih =>
    intro this x1 x2 σ
    unfold f_X10_unloads_b4
    refine bj_iload_n dX10_unloads_4 rfl 2 rfl ?_
    refine bj_aload_nS dX10_unloads_5 rfl 0 rfl ?_
    refine bj_getI (ci := 11) (k := 8) (C := RX10) (T := TX10) (N := 49) rfl hi_X10_unloads_X10 (by decide) rfl fl_X10_unloads_131 (Or.inl rfl) dX10_unloads_6 (fun v1 h2 => ?_)
    refine bj_icmp_ge (tgt := 90) dX10_unloads_9 (by decide) (fun h3 => ?_) (fun h3 => ?_)
    · exact bj_vret dX10_unloads_90
    · refine bj_aload_nS dX10_unloads_12 rfl 0 rfl ?_
      refine bj_getR (ci := 11) (k := 34) (C := RX10) (T := TX10) (N := 49) rfl hi_X10_unloads_X10 (by decide) rfl fl_X10_unloads_81 (Or.inl rfl) dX10_unloads_13 (fun v4 h5 => ?_)
      refine bj_iload_n dX10_unloads_16 rfl 2 rfl ?_
      refine bj_nn (fun a6 h7 => ?_)
      subst h7
      refine bj_iald dX10_unloads_17 (fun v8 h9 => ?_)
      refine bj_iconst (v := 3) dX10_unloads_18 (by decide) ?_
      refine bj_icmp_eq (tgt := 25) dX10_unloads_19 (by decide) (fun h10 => ?_) (fun h10 => ?_)
      · refine bj_iload_n dX10_unloads_25 rfl 1 rfl ?_
        refine bj_if_eq (tgt := 60) dX10_unloads_26 (by decide) (fun h11 => ?_) (fun h11 => ?_)
        · refine bj_sub (lv' := [(0, .ref this), (2, .int x2)]) [0, 2] rfl ?_
          exact j_X10_unloads_b60 X N (f_X10_unloads_b4 N n) ih this x2 σ
        · refine bj_aload_nS dX10_unloads_29 rfl 0 rfl ?_
          refine bj_getR (ci := 11) (k := 37) (C := RX10) (T := TX10) (N := 49) rfl hi_X10_unloads_X10 (by decide) rfl fl_X10_unloads_90 (Or.inl rfl) dX10_unloads_30 (fun v12 h13 => ?_)
          refine bj_iload_n dX10_unloads_33 rfl 2 rfl ?_
          refine bj_nn (fun a14 h15 => ?_)
          subst h15
          refine bj_iald dX10_unloads_34 (fun v16 h17 => ?_)
          refine bj_if_eq (tgt := 56) dX10_unloads_35 (by decide) (fun h18 => ?_) (fun h18 => ?_)
          · refine bj_sub (lv' := [(0, .ref this), (2, .int x2)]) [0, 2] rfl ?_
            exact j_X10_unloads_b56 X N (f_X10_unloads_b4 N n) ih this x2 σ
          · refine bj_aload_nS dX10_unloads_38 rfl 0 rfl ?_
            refine bj_op (fun _ h19 => ?_)
            refine bj_callI (br_V (As := []) (rest := []) (q := (RX10, TX10, 49)) (c_X10_inYard X N this σ) rfl g_X10_unloads_X10_inYard_174 rfl (bh_ck_spec h19) ⟨rfl, hd_X10_inYard⟩ rfl ⟨by decide, by decide⟩ rfl (Nat.le_of_ble_eq_true rfl) dX10_unloads_39) (fun v20 σ21 h22 => ?_)
            refine bj_aload_nS dX10_unloads_42 rfl 0 rfl ?_
            refine bj_getR (ci := 11) (k := 37) (C := RX10) (T := TX10) (N := 49) rfl hi_X10_unloads_X10 (by decide) rfl fl_X10_unloads_90 (Or.inl rfl) dX10_unloads_43 (fun v23 h24 => ?_)
            refine bj_iload_n dX10_unloads_46 rfl 2 rfl ?_
            refine bj_nn (fun a25 h26 => ?_)
            subst h26
            refine bj_iald dX10_unloads_47 (fun v27 h28 => ?_)
            refine bj_iadd dX10_unloads_48 ?_
            refine bj_aload_nS dX10_unloads_49 rfl 0 rfl ?_
            refine bj_getI (ci := 11) (k := 9) (C := RX10) (T := TX10) (N := 49) rfl hi_X10_unloads_X10 (by decide) rfl fl_X10_unloads_28 (Or.inl rfl) dX10_unloads_50 (fun v29 h30 => ?_)
            refine bj_icmp_gt (tgt := 60) dX10_unloads_53 (by decide) (fun h31 => ?_) (fun h31 => ?_)
            · refine bj_sub (lv' := [(0, .ref this), (2, .int x2)]) [0, 2] rfl ?_
              exact j_X10_unloads_b60 X N (f_X10_unloads_b4 N n) ih this x2 σ21
            · refine bj_sub (lv' := [(0, .ref this), (2, .int x2)]) [0, 2] rfl ?_
              exact j_X10_unloads_b56 X N (f_X10_unloads_b4 N n) ih this x2 σ21
      · refine bj_goto (tgt := 84) dX10_unloads_22 (by decide) ?_
        refine bj_sub (lv' := [(0, .ref this), (1, .int x1), (2, .int x2)]) [0, 1, 2] rfl ?_
        exact j_X10_unloads_b84 X N (f_X10_unloads_b4 N n) ih this x1 x2 σ
def f_X10_unloads (N : Nat) (this : Nat) (σ : bh_S) : Option (Unit × bh_S) :=
  f_X10_unloads_b4 N N this 1 0 σ
set_option maxHeartbeats 4000000 in
set_option maxRecDepth 100000 in
theorem c_X10_unloads (X : bh_X) (N : Nat) (this : Nat) (σ : bh_S) : bh_MX eU X yX10_unloads wsX10_unloads 2 40 [.ref this] σ (f_X10_unloads N this σ) := by
  refine bh_enter (cc := cX10_unloads) (NL := 3) (ret := none) (by decide) rfl (Nat.le_of_ble_eq_true rfl) (fun X => ?_)
  show bh_J eU yX10_unloads cX10_unloads wsX10_unloads none 3 2 40 X σ 0 [(0, .ref this)] [] _
  unfold f_X10_unloads
  refine bj_iconst (v := 1) dX10_unloads_0 (by decide) ?_
  refine bj_istore_n (lv' := [(1, .int 1), (0, .ref this)]) dX10_unloads_1 rfl (by decide) rfl ?_
  refine bj_iconst (v := 0) dX10_unloads_2 (by decide) ?_
  refine bj_istore_n (lv' := [(2, .int 0), (1, .int 1), (0, .ref this)]) dX10_unloads_3 rfl (by decide) rfl ?_
  refine bj_sub (lv' := [(0, .ref this), (1, .int 1), (2, .int 0)]) [2, 1, 0] rfl ?_
  exact j_X10_unloads_b4 X N N this 1 0 σ
/-! BeetHouseModel.eats()I -/
theorem hi_X10_eats_X10 : ∀ w ∈ u_ws RX10 TX10 49, w ∈ wsX10_eats := fun _ h => (List.mem_cons_of_mem _ (List.mem_append_right _ h))
set_option maxRecDepth 100000 in
theorem fl_X10_eats_158 : bh_fl wsX10_eats yX10_eats.cls 158 "BeetHouseModel" "rate" "I" := Or.inl (List.mem_of_getElem? (i := 1) rfl)
set_option maxRecDepth 100000 in
theorem fl_X10_eats_165 : bh_fl wsX10_eats yX10_eats.cls 165 "BeetHouseModel" "loads" "I" := Or.inl (List.mem_of_getElem? (i := 2) rfl)
set_option maxRecDepth 100000 in
theorem fl_X10_eats_62 : bh_fl wsX10_eats yX10_eats.cls 62 "BeetHouseModel" "stony" "[Z" := Or.inl (List.mem_of_getElem? (i := 3) rfl)
set_option maxRecDepth 100000 in
theorem fl_X10_eats_102 : bh_fl wsX10_eats yX10_eats.cls 102 "BeetHouseModel" "loadField" "[I" := Or.inl (List.mem_of_getElem? (i := 4) rfl)
set_option maxRecDepth 100000 in
theorem fl_X10_eats_184 : bh_fl wsX10_eats yX10_eats.cls 184 "BeetHouseModel" "lack" "I" := Or.inl (List.mem_of_getElem? (i := 8) rfl)
set_option maxRecDepth 100000 in
theorem fl_X10_eats_187 : bh_fl wsX10_eats yX10_eats.cls 187 "BeetHouseModel" "stood" "I" := Or.inl (List.mem_of_getElem? (i := 9) rfl)
set_option maxRecDepth 100000 in
theorem fl_X10_eats_190 : bh_fl wsX10_eats yX10_eats.cls 190 "BeetHouseModel" "eaten" "I" := Or.inl (List.mem_of_getElem? (i := 10) rfl)
set_option maxRecDepth 100000 in
theorem fl_X10_eats_105 : bh_fl wsX10_eats yX10_eats.cls 105 "BeetHouseModel" "loadRoots" "[I" := Or.inl (List.mem_of_getElem? (i := 5) rfl)
set_option maxRecDepth 100000 in
theorem fl_X10_eats_181 : bh_fl wsX10_eats yX10_eats.cls 181 "BeetHouseModel" "won" "I" := Or.inl (List.mem_of_getElem? (i := 6) rfl)
set_option maxRecDepth 100000 in
theorem fl_X10_eats_108 : bh_fl wsX10_eats yX10_eats.cls 108 "BeetHouseModel" "loadSugar" "[I" := Or.inl (List.mem_of_getElem? (i := 7) rfl)
def f_X10_eats_b111 (N : Nat) (k7 : Nat → Int32 → Int32 → bh_S → Option (Int32 × bh_S)) : Nat → Nat → Int32 → Int32 → Int32 → bh_S → Option (Int32 × bh_S)
  | 0, _, _, _, _, _ => none
  | n + 1, this, x1, x2, x3, σ =>
    (bh_rdI σ 11 this 44).bind fun v1 =>
    if v1 ≤ x3 then
      k7 this x1 x2 σ
    else
      (bh_rdR σ 11 this 41).bind fun v4 =>
      (bh_rdR σ 11 this 41).bind fun v6 =>
      (v6).bind fun a8 =>
      (bh_ldI σ 12 a8 (x3 + 1)).bind fun v10 =>
      (v4).bind fun a12 =>
      (bh_stI σ 12 a12 x3 v10).bind fun σ14 =>
      (bh_rdR σ14 11 this 42).bind fun v16 =>
      (bh_rdR σ14 11 this 42).bind fun v18 =>
      (v18).bind fun a20 =>
      (bh_ldI σ14 12 a20 (x3 + 1)).bind fun v22 =>
      (v16).bind fun a24 =>
      (bh_stI σ14 12 a24 x3 v22).bind fun σ26 =>
      (bh_rdR σ26 11 this 43).bind fun v28 =>
      (bh_rdR σ26 11 this 43).bind fun v30 =>
      (v30).bind fun a32 =>
      (bh_ldI σ26 12 a32 (x3 + 1)).bind fun v34 =>
      (v28).bind fun a36 =>
      (bh_stI σ26 12 a36 x3 v34).bind fun σ38 =>
      f_X10_eats_b111 N k7 n this x1 x2 (x3 + 1) σ38
set_option maxHeartbeats 4000000 in
set_option maxRecDepth 100000 in
theorem j_X10_eats_b111 (X : bh_X) (N : Nat) (k7 : Nat → Int32 → Int32 → bh_S → Option (Int32 × bh_S)) (hk7 : ∀ (this : Nat) (x1 : Int32) (x2 : Int32) (σ : bh_S), bh_J eI yX10_eats cX10_eats wsX10_eats (some .int) 4 0 0 X σ 7 [(0, .ref this), (1, .int x1), (2, .int x2)] [] (k7 this x1 x2 σ)) : ∀ (n : Nat) (this : Nat) (x1 : Int32) (x2 : Int32) (x3 : Int32) (σ : bh_S), bh_J eI yX10_eats cX10_eats wsX10_eats (some .int) 4 0 0 X σ 111 [(0, .ref this), (1, .int x1), (2, .int x2), (3, .int x3)] [] (f_X10_eats_b111 N k7 n this x1 x2 x3 σ) := by
  intro n
  induction n with
  | zero => intro this x1 x2 x3 σ; exact bj_none
  | succ n ih =>
    intro this x1 x2 x3 σ
    unfold f_X10_eats_b111
    refine bj_iload_n dX10_eats_111 rfl 3 rfl ?_
    refine bj_aload_nS dX10_eats_112 rfl 0 rfl ?_
    refine bj_getI (ci := 11) (k := 44) (C := RX10) (T := TX10) (N := 49) rfl hi_X10_eats_X10 (by decide) rfl fl_X10_eats_165 (Or.inl rfl) dX10_eats_113 (fun v1 h2 => ?_)
    refine bj_icmp_ge (tgt := 167) dX10_eats_116 (by decide) (fun h3 => ?_) (fun h3 => ?_)
    · refine bj_goto (tgt := 7) dX10_eats_167 (by decide) ?_
      refine bj_sub (lv' := [(0, .ref this), (1, .int x1), (2, .int x2)]) [0, 1, 2] rfl ?_
      exact hk7 this x1 x2 σ
    · refine bj_aload_nS dX10_eats_119 rfl 0 rfl ?_
      refine bj_getR (ci := 11) (k := 41) (C := RX10) (T := TX10) (N := 49) rfl hi_X10_eats_X10 (by decide) rfl fl_X10_eats_102 (Or.inl rfl) dX10_eats_120 (fun v4 h5 => ?_)
      refine bj_iload_n dX10_eats_123 rfl 3 rfl ?_
      refine bj_aload_nS dX10_eats_124 rfl 0 rfl ?_
      refine bj_getR (ci := 11) (k := 41) (C := RX10) (T := TX10) (N := 49) rfl hi_X10_eats_X10 (by decide) rfl fl_X10_eats_102 (Or.inl rfl) dX10_eats_125 (fun v6 h7 => ?_)
      refine bj_iload_n dX10_eats_128 rfl 3 rfl ?_
      refine bj_iconst (v := 1) dX10_eats_129 (by decide) ?_
      refine bj_iadd dX10_eats_130 ?_
      refine bj_nn (fun a8 h9 => ?_)
      subst h9
      refine bj_iald dX10_eats_131 (fun v10 h11 => ?_)
      refine bj_nn (fun a12 h13 => ?_)
      subst h13
      refine bj_iast dX10_eats_132 (fun σ14 h15 => ?_)
      refine bj_aload_nS dX10_eats_133 rfl 0 rfl ?_
      refine bj_getR (ci := 11) (k := 42) (C := RX10) (T := TX10) (N := 49) rfl hi_X10_eats_X10 (by decide) rfl fl_X10_eats_105 (Or.inl rfl) dX10_eats_134 (fun v16 h17 => ?_)
      refine bj_iload_n dX10_eats_137 rfl 3 rfl ?_
      refine bj_aload_nS dX10_eats_138 rfl 0 rfl ?_
      refine bj_getR (ci := 11) (k := 42) (C := RX10) (T := TX10) (N := 49) rfl hi_X10_eats_X10 (by decide) rfl fl_X10_eats_105 (Or.inl rfl) dX10_eats_139 (fun v18 h19 => ?_)
      refine bj_iload_n dX10_eats_142 rfl 3 rfl ?_
      refine bj_iconst (v := 1) dX10_eats_143 (by decide) ?_
      refine bj_iadd dX10_eats_144 ?_
      refine bj_nn (fun a20 h21 => ?_)
      subst h21
      refine bj_iald dX10_eats_145 (fun v22 h23 => ?_)
      refine bj_nn (fun a24 h25 => ?_)
      subst h25
      refine bj_iast dX10_eats_146 (fun σ26 h27 => ?_)
      refine bj_aload_nS dX10_eats_147 rfl 0 rfl ?_
      refine bj_getR (ci := 11) (k := 43) (C := RX10) (T := TX10) (N := 49) rfl hi_X10_eats_X10 (by decide) rfl fl_X10_eats_108 (Or.inl rfl) dX10_eats_148 (fun v28 h29 => ?_)
      refine bj_iload_n dX10_eats_151 rfl 3 rfl ?_
      refine bj_aload_nS dX10_eats_152 rfl 0 rfl ?_
      refine bj_getR (ci := 11) (k := 43) (C := RX10) (T := TX10) (N := 49) rfl hi_X10_eats_X10 (by decide) rfl fl_X10_eats_108 (Or.inl rfl) dX10_eats_153 (fun v30 h31 => ?_)
      refine bj_iload_n dX10_eats_156 rfl 3 rfl ?_
      refine bj_iconst (v := 1) dX10_eats_157 (by decide) ?_
      refine bj_iadd dX10_eats_158 ?_
      refine bj_nn (fun a32 h33 => ?_)
      subst h33
      refine bj_iald dX10_eats_159 (fun v34 h35 => ?_)
      refine bj_nn (fun a36 h37 => ?_)
      subst h37
      refine bj_iast dX10_eats_160 (fun σ38 h39 => ?_)
      refine bj_iinc (v := x3 + 1) (lv' := [(3, .int (x3 + 1)), (0, .ref this), (1, .int x1), (2, .int x2)]) dX10_eats_161 3 rfl rfl (by decide) rfl ?_
      refine bj_goto (tgt := 111) dX10_eats_164 (by decide) ?_
      refine bj_sub (lv' := [(0, .ref this), (1, .int x1), (2, .int x2), (3, .int (x3 + 1))]) [1, 2, 3, 0] rfl ?_
      exact ih this x1 x2 (x3 + 1) σ38
def f_X10_eats_b57 (N : Nat) (k7 : Nat → Int32 → Int32 → bh_S → Option (Int32 × bh_S)) (this : Nat) (x2 : Int32) (t0 : Int32) (t1 : Int32) (σ : bh_S) : Option (Int32 × bh_S) :=
  (bh_rdR σ 11 this 42).bind fun v1 =>
  (v1).bind fun a3 =>
  (bh_ldI σ 12 a3 0).bind fun v5 =>
  (bh_stI σ 12 a3 0 (v5 - 1)).bind fun σ7 =>
  (bh_rdR σ7 11 this 42).bind fun v9 =>
  (v9).bind fun a11 =>
  (bh_ldI σ7 12 a11 0).bind fun v13 =>
  if v13 ≤ 0 then
    (bh_rdI σ7 11 this 12).bind fun v16 =>
    (bh_rdR σ7 11 this 43).bind fun v18 =>
    (v18).bind fun a20 =>
    (bh_ldI σ7 12 a20 0).bind fun v22 =>
    (bh_wrI σ7 11 this 12 (v16 + v22)).bind fun σ24 =>
    (bh_rdI σ24 11 this 44).bind fun v26 =>
    (bh_wrI σ24 11 this 44 (v26 - 1)).bind fun σ28 =>
    f_X10_eats_b111 N k7 N this (t1 - t0) (x2 + 1) 0 σ28
  else
    k7 this (t1 - t0) (x2 + 1) σ7
set_option maxHeartbeats 4000000 in
set_option maxRecDepth 100000 in
theorem j_X10_eats_b57 (X : bh_X) (N : Nat) (k7 : Nat → Int32 → Int32 → bh_S → Option (Int32 × bh_S)) (hk7 : ∀ (this : Nat) (x1 : Int32) (x2 : Int32) (σ : bh_S), bh_J eI yX10_eats cX10_eats wsX10_eats (some .int) 4 0 0 X σ 7 [(0, .ref this), (1, .int x1), (2, .int x2)] [] (k7 this x1 x2 σ)) (this : Nat) (x2 : Int32) (t0 : Int32) (t1 : Int32) (σ : bh_S) : bh_J eI yX10_eats cX10_eats wsX10_eats (some .int) 4 0 0 X σ 57 [(0, .ref this), (2, .int x2)] [.int t0, .int t1] (f_X10_eats_b57 N k7 this x2 t0 t1 σ) := by
  unfold f_X10_eats_b57
  refine bj_isub dX10_eats_57 ?_
  refine bj_istore_n (lv' := [(1, .int (t1 - t0)), (0, .ref this), (2, .int x2)]) dX10_eats_58 rfl (by decide) rfl ?_
  refine bj_aload_nS dX10_eats_59 rfl 1 rfl ?_
  refine bj_getR (ci := 11) (k := 42) (C := RX10) (T := TX10) (N := 49) rfl hi_X10_eats_X10 (by decide) rfl fl_X10_eats_105 (Or.inl rfl) dX10_eats_60 (fun v1 h2 => ?_)
  refine bj_iconst (v := 0) dX10_eats_63 (by decide) ?_
  refine bj_dup2 dX10_eats_64 rfl (bh_cat _) ?_
  refine bj_nn (fun a3 h4 => ?_)
  subst h4
  refine bj_iald dX10_eats_65 (fun v5 h6 => ?_)
  refine bj_iconst (v := 1) dX10_eats_66 (by decide) ?_
  refine bj_isub dX10_eats_67 ?_
  refine bj_iast dX10_eats_68 (fun σ7 h8 => ?_)
  refine bj_iinc (v := x2 + 1) (lv' := [(2, .int (x2 + 1)), (1, .int (t1 - t0)), (0, .ref this)]) dX10_eats_69 2 rfl rfl (by decide) rfl ?_
  refine bj_aload_nS dX10_eats_72 rfl 2 rfl ?_
  refine bj_getR (ci := 11) (k := 42) (C := RX10) (T := TX10) (N := 49) rfl hi_X10_eats_X10 (by decide) rfl fl_X10_eats_105 (Or.inl rfl) dX10_eats_73 (fun v9 h10 => ?_)
  refine bj_iconst (v := 0) dX10_eats_76 (by decide) ?_
  refine bj_nn (fun a11 h12 => ?_)
  subst h12
  refine bj_iald dX10_eats_77 (fun v13 h14 => ?_)
  refine bj_if_le (tgt := 84) dX10_eats_78 (by decide) (fun h15 => ?_) (fun h15 => ?_)
  · refine bj_aload_nS dX10_eats_84 rfl 2 rfl ?_
    refine bj_dup dX10_eats_85 rfl ?_
    refine bj_getI (ci := 11) (k := 12) (C := RX10) (T := TX10) (N := 49) rfl hi_X10_eats_X10 (by decide) rfl fl_X10_eats_181 (Or.inl rfl) dX10_eats_86 (fun v16 h17 => ?_)
    refine bj_aload_nS dX10_eats_89 rfl 2 rfl ?_
    refine bj_getR (ci := 11) (k := 43) (C := RX10) (T := TX10) (N := 49) rfl hi_X10_eats_X10 (by decide) rfl fl_X10_eats_108 (Or.inl rfl) dX10_eats_90 (fun v18 h19 => ?_)
    refine bj_iconst (v := 0) dX10_eats_93 (by decide) ?_
    refine bj_nn (fun a20 h21 => ?_)
    subst h21
    refine bj_iald dX10_eats_94 (fun v22 h23 => ?_)
    refine bj_iadd dX10_eats_95 ?_
    refine bj_putI (ci := 11) (k := 12) (C := RX10) (T := TX10) (N := 49) rfl hi_X10_eats_X10 (by decide) rfl fl_X10_eats_181 (Or.inl rfl) tyX10 tyX10_ok nmX10 rfl (Or.inl rfl) dX10_eats_96 (fun σ24 h25 => ?_)
    refine bj_aload_nS dX10_eats_99 rfl 2 rfl ?_
    refine bj_dup dX10_eats_100 rfl ?_
    refine bj_getI (ci := 11) (k := 44) (C := RX10) (T := TX10) (N := 49) rfl hi_X10_eats_X10 (by decide) rfl fl_X10_eats_165 (Or.inl rfl) dX10_eats_101 (fun v26 h27 => ?_)
    refine bj_iconst (v := 1) dX10_eats_104 (by decide) ?_
    refine bj_isub dX10_eats_105 ?_
    refine bj_putI (ci := 11) (k := 44) (C := RX10) (T := TX10) (N := 49) rfl hi_X10_eats_X10 (by decide) rfl fl_X10_eats_165 (Or.inl rfl) tyX10 tyX10_ok nmX10 rfl (Or.inl rfl) dX10_eats_106 (fun σ28 h29 => ?_)
    refine bj_iconst (v := 0) dX10_eats_109 (by decide) ?_
    refine bj_istore_n (lv' := [(3, .int 0), (2, .int (x2 + 1)), (1, .int (t1 - t0)), (0, .ref this)]) dX10_eats_110 rfl (by decide) rfl ?_
    refine bj_sub (lv' := [(0, .ref this), (1, .int (t1 - t0)), (2, .int (x2 + 1)), (3, .int 0)]) [3, 2, 1, 0] rfl ?_
    exact j_X10_eats_b111 X N k7 hk7 N this (t1 - t0) (x2 + 1) 0 σ28
  · refine bj_goto (tgt := 7) dX10_eats_81 (by decide) ?_
    refine bj_sub (lv' := [(0, .ref this), (1, .int (t1 - t0)), (2, .int (x2 + 1))]) [2, 1, 0] rfl ?_
    exact hk7 this (t1 - t0) (x2 + 1) σ7
def f_X10_eats_b201 (N : Nat) (this : Nat) (x2 : Int32) (σ : bh_S) : Option (Int32 × bh_S) :=
  (bh_rdI σ 11 this 11).bind fun v1 =>
  (bh_wrI σ 11 this 11 (v1 + x2)).bind fun σ3 =>
  some (x2, σ3)
set_option maxHeartbeats 4000000 in
set_option maxRecDepth 100000 in
theorem j_X10_eats_b201 (X : bh_X) (N : Nat) (this : Nat) (x2 : Int32) (σ : bh_S) : bh_J eI yX10_eats cX10_eats wsX10_eats (some .int) 4 0 0 X σ 201 [(0, .ref this), (2, .int x2)] [] (f_X10_eats_b201 N this x2 σ) := by
  unfold f_X10_eats_b201
  refine bj_aload_nS dX10_eats_201 rfl 0 rfl ?_
  refine bj_dup dX10_eats_202 rfl ?_
  refine bj_getI (ci := 11) (k := 11) (C := RX10) (T := TX10) (N := 49) rfl hi_X10_eats_X10 (by decide) rfl fl_X10_eats_190 (Or.inl rfl) dX10_eats_203 (fun v1 h2 => ?_)
  refine bj_iload_n dX10_eats_206 rfl 1 rfl ?_
  refine bj_iadd dX10_eats_207 ?_
  refine bj_putI (ci := 11) (k := 11) (C := RX10) (T := TX10) (N := 49) rfl hi_X10_eats_X10 (by decide) rfl fl_X10_eats_190 (Or.inl rfl) tyX10 tyX10_ok nmX10 rfl (Or.inl rfl) dX10_eats_208 (fun σ3 h4 => ?_)
  refine bj_iload_n dX10_eats_211 rfl 1 rfl ?_
  exact bj_iret dX10_eats_212
def f_X10_eats_b170 (N : Nat) (this : Nat) (x1 : Int32) (x2 : Int32) (σ : bh_S) : Option (Int32 × bh_S) :=
  (bh_rdI σ 11 this 44).bind fun v1 =>
  if v1 = 0 then
    if x1 ≤ 0 then
      f_X10_eats_b201 N this x2 σ
    else
      (bh_rdI σ 11 this 14).bind fun v5 =>
      (bh_wrI σ 11 this 14 (v5 + x1)).bind fun σ7 =>
      (bh_rdI σ7 11 this 13).bind fun v9 =>
      (bh_wrI σ7 11 this 13 (v9 + 1)).bind fun σ11 =>
      f_X10_eats_b201 N this x2 σ11
  else
    f_X10_eats_b201 N this x2 σ
set_option maxHeartbeats 4000000 in
set_option maxRecDepth 100000 in
theorem j_X10_eats_b170 (X : bh_X) (N : Nat) (this : Nat) (x1 : Int32) (x2 : Int32) (σ : bh_S) : bh_J eI yX10_eats cX10_eats wsX10_eats (some .int) 4 0 0 X σ 170 [(0, .ref this), (1, .int x1), (2, .int x2)] [] (f_X10_eats_b170 N this x1 x2 σ) := by
  unfold f_X10_eats_b170
  refine bj_aload_nS dX10_eats_170 rfl 0 rfl ?_
  refine bj_getI (ci := 11) (k := 44) (C := RX10) (T := TX10) (N := 49) rfl hi_X10_eats_X10 (by decide) rfl fl_X10_eats_165 (Or.inl rfl) dX10_eats_171 (fun v1 h2 => ?_)
  refine bj_if_ne (tgt := 201) dX10_eats_174 (by decide) (fun h3 => ?_) (fun h3 => ?_)
  · refine bj_sub (lv' := [(0, .ref this), (2, .int x2)]) [0, 2] rfl ?_
    exact j_X10_eats_b201 X N this x2 σ
  · refine bj_iload_n dX10_eats_177 rfl 1 rfl ?_
    refine bj_if_le (tgt := 201) dX10_eats_178 (by decide) (fun h4 => ?_) (fun h4 => ?_)
    · refine bj_sub (lv' := [(0, .ref this), (2, .int x2)]) [0, 2] rfl ?_
      exact j_X10_eats_b201 X N this x2 σ
    · refine bj_aload_nS dX10_eats_181 rfl 0 rfl ?_
      refine bj_dup dX10_eats_182 rfl ?_
      refine bj_getI (ci := 11) (k := 14) (C := RX10) (T := TX10) (N := 49) rfl hi_X10_eats_X10 (by decide) rfl fl_X10_eats_184 (Or.inl rfl) dX10_eats_183 (fun v5 h6 => ?_)
      refine bj_iload_n dX10_eats_186 rfl 1 rfl ?_
      refine bj_iadd dX10_eats_187 ?_
      refine bj_putI (ci := 11) (k := 14) (C := RX10) (T := TX10) (N := 49) rfl hi_X10_eats_X10 (by decide) rfl fl_X10_eats_184 (Or.inl rfl) tyX10 tyX10_ok nmX10 rfl (Or.inl rfl) dX10_eats_188 (fun σ7 h8 => ?_)
      refine bj_aload_nS dX10_eats_191 rfl 0 rfl ?_
      refine bj_dup dX10_eats_192 rfl ?_
      refine bj_getI (ci := 11) (k := 13) (C := RX10) (T := TX10) (N := 49) rfl hi_X10_eats_X10 (by decide) rfl fl_X10_eats_187 (Or.inl rfl) dX10_eats_193 (fun v9 h10 => ?_)
      refine bj_iconst (v := 1) dX10_eats_196 (by decide) ?_
      refine bj_iadd dX10_eats_197 ?_
      refine bj_putI (ci := 11) (k := 13) (C := RX10) (T := TX10) (N := 49) rfl hi_X10_eats_X10 (by decide) rfl fl_X10_eats_187 (Or.inl rfl) tyX10 tyX10_ok nmX10 rfl (Or.inl rfl) dX10_eats_198 (fun σ11 h12 => ?_)
      refine bj_sub (lv' := [(0, .ref this), (2, .int x2)]) [0, 2] rfl ?_
      exact j_X10_eats_b201 X N this x2 σ11
def f_X10_eats_b34 (N : Nat) (k7 : Nat → Int32 → Int32 → bh_S → Option (Int32 × bh_S)) (this : Nat) (x1 : Int32) (x2 : Int32) (t0 : Int32) (t1 : Int32) (σ : bh_S) : Option (Int32 × bh_S) :=
  if t1 < t0 then
    f_X10_eats_b170 N this x1 x2 σ
  else
    (bh_rdR σ 11 this 28).bind fun v2 =>
    (bh_rdR σ 11 this 41).bind fun v4 =>
    (v4).bind fun a6 =>
    (bh_ldI σ 12 a6 0).bind fun v8 =>
    (v2).bind fun a10 =>
    (bh_ldI σ 13 a10 v8).bind fun v12 =>
    if v12 = 0 then
      f_X10_eats_b57 N k7 this x2 1 x1 σ
    else
      f_X10_eats_b57 N k7 this x2 2 x1 σ
set_option maxHeartbeats 4000000 in
set_option maxRecDepth 100000 in
theorem j_X10_eats_b34 (X : bh_X) (N : Nat) (k7 : Nat → Int32 → Int32 → bh_S → Option (Int32 × bh_S)) (hk7 : ∀ (this : Nat) (x1 : Int32) (x2 : Int32) (σ : bh_S), bh_J eI yX10_eats cX10_eats wsX10_eats (some .int) 4 0 0 X σ 7 [(0, .ref this), (1, .int x1), (2, .int x2)] [] (k7 this x1 x2 σ)) (this : Nat) (x1 : Int32) (x2 : Int32) (t0 : Int32) (t1 : Int32) (σ : bh_S) : bh_J eI yX10_eats cX10_eats wsX10_eats (some .int) 4 0 0 X σ 34 [(0, .ref this), (1, .int x1), (2, .int x2)] [.int t0, .int t1] (f_X10_eats_b34 N k7 this x1 x2 t0 t1 σ) := by
  unfold f_X10_eats_b34
  refine bj_icmp_lt (tgt := 170) dX10_eats_34 (by decide) (fun h1 => ?_) (fun h1 => ?_)
  · refine bj_sub (lv' := [(0, .ref this), (1, .int x1), (2, .int x2)]) [0, 1, 2] rfl ?_
    exact j_X10_eats_b170 X N this x1 x2 σ
  · refine bj_iload_n dX10_eats_37 rfl 1 rfl ?_
    refine bj_aload_nS dX10_eats_38 rfl 0 rfl ?_
    refine bj_getR (ci := 11) (k := 28) (C := RX10) (T := TX10) (N := 49) rfl hi_X10_eats_X10 (by decide) rfl fl_X10_eats_62 (Or.inl rfl) dX10_eats_39 (fun v2 h3 => ?_)
    refine bj_aload_nS dX10_eats_42 rfl 0 rfl ?_
    refine bj_getR (ci := 11) (k := 41) (C := RX10) (T := TX10) (N := 49) rfl hi_X10_eats_X10 (by decide) rfl fl_X10_eats_102 (Or.inl rfl) dX10_eats_43 (fun v4 h5 => ?_)
    refine bj_iconst (v := 0) dX10_eats_46 (by decide) ?_
    refine bj_nn (fun a6 h7 => ?_)
    subst h7
    refine bj_iald dX10_eats_47 (fun v8 h9 => ?_)
    refine bj_nn (fun a10 h11 => ?_)
    subst h11
    refine bj_zald dX10_eats_48 (fun v12 h13 => ?_)
    refine bj_if_eq (tgt := 56) dX10_eats_49 (by decide) (fun h14 => ?_) (fun h14 => ?_)
    · refine bj_iconst (v := 1) dX10_eats_56 (by decide) ?_
      refine bj_sub (lv' := [(0, .ref this), (2, .int x2)]) [0, 2] rfl ?_
      exact j_X10_eats_b57 X N k7 hk7 this x2 1 x1 σ
    · refine bj_iconst (v := 2) dX10_eats_52 (by decide) ?_
      refine bj_goto (tgt := 57) dX10_eats_53 (by decide) ?_
      refine bj_sub (lv' := [(0, .ref this), (2, .int x2)]) [0, 2] rfl ?_
      exact j_X10_eats_b57 X N k7 hk7 this x2 2 x1 σ
def f_X10_eats_b7 (N : Nat) : Nat → Nat → Int32 → Int32 → bh_S → Option (Int32 × bh_S)
  | 0, _, _, _, _ => none
  | n + 1, this, x1, x2, σ =>
    (bh_rdI σ 11 this 44).bind fun v1 =>
    if v1 ≤ 0 then
      f_X10_eats_b170 N this x1 x2 σ
    else
      (bh_rdR σ 11 this 28).bind fun v4 =>
      (bh_rdR σ 11 this 41).bind fun v6 =>
      (v6).bind fun a8 =>
      (bh_ldI σ 12 a8 0).bind fun v10 =>
      (v4).bind fun a12 =>
      (bh_ldI σ 13 a12 v10).bind fun v14 =>
      if v14 = 0 then
        f_X10_eats_b34 N (f_X10_eats_b7 N n) this x1 x2 1 x1 σ
      else
        f_X10_eats_b34 N (f_X10_eats_b7 N n) this x1 x2 2 x1 σ
set_option maxHeartbeats 4000000 in
set_option maxRecDepth 100000 in
theorem j_X10_eats_b7 (X : bh_X) (N : Nat) : ∀ (n : Nat) (this : Nat) (x1 : Int32) (x2 : Int32) (σ : bh_S), bh_J eI yX10_eats cX10_eats wsX10_eats (some .int) 4 0 0 X σ 7 [(0, .ref this), (1, .int x1), (2, .int x2)] [] (f_X10_eats_b7 N n this x1 x2 σ) := by
  intro n
  induction n with
  | zero => intro this x1 x2 σ; exact bj_none
  | succ n ih =>
    intro this x1 x2 σ
    unfold f_X10_eats_b7
    refine bj_aload_nS dX10_eats_7 rfl 0 rfl ?_
    refine bj_getI (ci := 11) (k := 44) (C := RX10) (T := TX10) (N := 49) rfl hi_X10_eats_X10 (by decide) rfl fl_X10_eats_165 (Or.inl rfl) dX10_eats_8 (fun v1 h2 => ?_)
    refine bj_if_le (tgt := 170) dX10_eats_11 (by decide) (fun h3 => ?_) (fun h3 => ?_)
    · refine bj_sub (lv' := [(0, .ref this), (1, .int x1), (2, .int x2)]) [0, 1, 2] rfl ?_
      exact j_X10_eats_b170 X N this x1 x2 σ
    · refine bj_iload_n dX10_eats_14 rfl 1 rfl ?_
      refine bj_aload_nS dX10_eats_15 rfl 0 rfl ?_
      refine bj_getR (ci := 11) (k := 28) (C := RX10) (T := TX10) (N := 49) rfl hi_X10_eats_X10 (by decide) rfl fl_X10_eats_62 (Or.inl rfl) dX10_eats_16 (fun v4 h5 => ?_)
      refine bj_aload_nS dX10_eats_19 rfl 0 rfl ?_
      refine bj_getR (ci := 11) (k := 41) (C := RX10) (T := TX10) (N := 49) rfl hi_X10_eats_X10 (by decide) rfl fl_X10_eats_102 (Or.inl rfl) dX10_eats_20 (fun v6 h7 => ?_)
      refine bj_iconst (v := 0) dX10_eats_23 (by decide) ?_
      refine bj_nn (fun a8 h9 => ?_)
      subst h9
      refine bj_iald dX10_eats_24 (fun v10 h11 => ?_)
      refine bj_nn (fun a12 h13 => ?_)
      subst h13
      refine bj_zald dX10_eats_25 (fun v14 h15 => ?_)
      refine bj_if_eq (tgt := 33) dX10_eats_26 (by decide) (fun h16 => ?_) (fun h16 => ?_)
      · refine bj_iconst (v := 1) dX10_eats_33 (by decide) ?_
        refine bj_sub (lv' := [(0, .ref this), (1, .int x1), (2, .int x2)]) [0, 1, 2] rfl ?_
        exact j_X10_eats_b34 X N (f_X10_eats_b7 N n) ih this x1 x2 1 x1 σ
      · refine bj_iconst (v := 2) dX10_eats_29 (by decide) ?_
        refine bj_goto (tgt := 34) dX10_eats_30 (by decide) ?_
        refine bj_sub (lv' := [(0, .ref this), (1, .int x1), (2, .int x2)]) [0, 1, 2] rfl ?_
        exact j_X10_eats_b34 X N (f_X10_eats_b7 N n) ih this x1 x2 2 x1 σ
def f_X10_eats (N : Nat) (this : Nat) (σ : bh_S) : Option (Int32 × bh_S) :=
  (bh_rdI σ 11 this 10).bind fun v1 =>
  f_X10_eats_b7 N N this v1 0 σ
set_option maxHeartbeats 4000000 in
set_option maxRecDepth 100000 in
theorem c_X10_eats (X : bh_X) (N : Nat) (this : Nat) (σ : bh_S) : bh_MX eI X yX10_eats wsX10_eats 0 0 [.ref this] σ (f_X10_eats N this σ) := by
  refine bh_enter (cc := cX10_eats) (NL := 4) (ret := (some .int)) (by decide) rfl (Nat.le_of_ble_eq_true rfl) (fun X => ?_)
  show bh_J eI yX10_eats cX10_eats wsX10_eats (some .int) 4 0 0 X σ 0 [(0, .ref this)] [] _
  unfold f_X10_eats
  refine bj_aload_nS dX10_eats_0 rfl 0 rfl ?_
  refine bj_getI (ci := 11) (k := 10) (C := RX10) (T := TX10) (N := 49) rfl hi_X10_eats_X10 (by decide) rfl fl_X10_eats_158 (Or.inl rfl) dX10_eats_1 (fun v1 h2 => ?_)
  refine bj_istore_n (lv' := [(1, .int v1), (0, .ref this)]) dX10_eats_4 rfl (by decide) rfl ?_
  refine bj_iconst (v := 0) dX10_eats_5 (by decide) ?_
  refine bj_istore_n (lv' := [(2, .int 0), (1, .int v1), (0, .ref this)]) dX10_eats_6 rfl (by decide) rfl ?_
  refine bj_sub (lv' := [(0, .ref this), (1, .int v1), (2, .int 0)]) [2, 1, 0] rfl ?_
  exact j_X10_eats_b7 X N N this v1 0 σ
/-! BeetHouseModel.wasteOf(III)I -/
theorem hi_X10_wasteOf_X10 : ∀ w ∈ u_ws RX10 TX10 49, w ∈ wsX10_wasteOf := fun _ h => (List.mem_cons_of_mem _ (List.mem_append_right _ h))
set_option maxRecDepth 100000 in
theorem fl_X10_wasteOf_69 : bh_fl wsX10_wasteOf yX10_wasteOf.cls 69 "BeetHouseModel" "frozen" "[Z" := Or.inl (List.mem_of_getElem? (i := 1) rfl)
set_option maxRecDepth 100000 in
theorem fl_X10_wasteOf_22 : bh_fl wsX10_wasteOf yX10_wasteOf.cls 22 "BeetHouseModel" "tables" "[I" := Or.inl (List.mem_of_getElem? (i := 2) rfl)
set_option maxRecDepth 100000 in
theorem fl_X10_wasteOf_19 : bh_fl wsX10_wasteOf yX10_wasteOf.cls 19 "BeetHouseModel" "warmths" "[I" := Or.inl (List.mem_of_getElem? (i := 3) rfl)
set_option maxRecDepth 100000 in
theorem fl_X10_wasteOf_50 : bh_fl wsX10_wasteOf yX10_wasteOf.cls 50 "BeetHouseModel" "thawed" "[I" := Or.inl (List.mem_of_getElem? (i := 4) rfl)
set_option maxRecDepth 100000 in
theorem fl_X10_wasteOf_66 : bh_fl wsX10_wasteOf yX10_wasteOf.cls 66 "BeetHouseModel" "covered" "[Z" := Or.inl (List.mem_of_getElem? (i := 9) rfl)
def f_X10_wasteOf_b65 (this : Nat) (x2 : Int32) (x4 : Int32) (σ : bh_S) : Option (Int32 × bh_S) :=
  some (((x2.toInt64 * x4.toInt64) / 1000).toInt32, σ)
set_option maxHeartbeats 4000000 in
set_option maxRecDepth 100000 in
theorem j_X10_wasteOf_b65 (X : bh_X) (this : Nat) (x2 : Int32) (x4 : Int32) (σ : bh_S) : bh_J eI yX10_wasteOf cX10_wasteOf wsX10_wasteOf (some .int) 5 1 13 X σ 65 [(0, .ref this), (2, .int x2), (4, .int x4)] [] (f_X10_wasteOf_b65 this x2 x4 σ) := by
  unfold f_X10_wasteOf_b65
  refine bj_iload_n dX10_wasteOf_65 rfl 1 rfl ?_
  refine bj_i2l dX10_wasteOf_66 ?_
  refine bj_iload dX10_wasteOf_67 2 rfl ?_
  refine bj_i2l dX10_wasteOf_69 ?_
  refine bj_lmul dX10_wasteOf_70 ?_
  refine bj_ldc2 dX10_wasteOf_71 (List.mem_of_getElem? (i := 10) rfl) ?_
  refine bj_ldivC dX10_wasteOf_74 (by decide) ?_
  refine bj_l2i dX10_wasteOf_75 ?_
  exact bj_iret dX10_wasteOf_76
def f_X10_wasteOf (this : Nat) (p1 : Int32) (p2 : Int32) (p3 : Int32) (σ : bh_S) : Option (Int32 × bh_S) :=
  (bh_rdR σ 11 this 30).bind fun v1 =>
  (v1).bind fun a3 =>
  (bh_ldI σ 13 a3 p1).bind fun v5 =>
  if v5 = 0 then
    (bh_rdR σ 11 this 4).bind fun v8 =>
    (bh_rdR σ 11 this 3).bind fun v10 =>
    (v10).bind fun a12 =>
    (bh_ldI σ 12 a12 p3).bind fun v14 =>
    (v8).bind fun a16 =>
    (bh_ldI σ 12 a16 v14).bind fun v18 =>
    (bh_rdR σ 11 this 24).bind fun v20 =>
    (v20).bind fun a22 =>
    (bh_ldI σ 12 a22 p1).bind fun v24 =>
    if v24 = (-9) then
      (bh_rdR σ 11 this 29).bind fun v27 =>
      (v27).bind fun a29 =>
      (bh_ldI σ 13 a29 p1).bind fun v31 =>
      if v31 = 0 then
        f_X10_wasteOf_b65 this p2 v18 σ
      else
        f_X10_wasteOf_b65 this p2 (v18 / 2) σ
    else
      f_X10_wasteOf_b65 this p2 (bh_min 1000 (3 * v18)) σ
  else
    some (0, σ)
set_option maxHeartbeats 4000000 in
set_option maxRecDepth 100000 in
theorem c_X10_wasteOf (X : bh_X) (this : Nat) (p1 : Int32) (p2 : Int32) (p3 : Int32) (σ : bh_S) : bh_MX eI X yX10_wasteOf wsX10_wasteOf 1 13 [.ref this, .int p1, .int p2, .int p3] σ (f_X10_wasteOf this p1 p2 p3 σ) := by
  refine bh_enter (cc := cX10_wasteOf) (NL := 5) (ret := (some .int)) (by decide) rfl (Nat.le_of_ble_eq_true rfl) (fun X => ?_)
  show bh_J eI yX10_wasteOf cX10_wasteOf wsX10_wasteOf (some .int) 5 1 13 X σ 0 [(0, .ref this), (1, .int p1), (2, .int p2), (3, .int p3)] [] _
  unfold f_X10_wasteOf
  refine bj_aload_nS dX10_wasteOf_0 rfl 0 rfl ?_
  refine bj_getR (ci := 11) (k := 30) (C := RX10) (T := TX10) (N := 49) rfl hi_X10_wasteOf_X10 (by decide) rfl fl_X10_wasteOf_69 (Or.inl rfl) dX10_wasteOf_1 (fun v1 h2 => ?_)
  refine bj_iload_n dX10_wasteOf_4 rfl 1 rfl ?_
  refine bj_nn (fun a3 h4 => ?_)
  subst h4
  refine bj_zald dX10_wasteOf_5 (fun v5 h6 => ?_)
  refine bj_if_eq (tgt := 11) dX10_wasteOf_6 (by decide) (fun h7 => ?_) (fun h7 => ?_)
  · refine bj_aload_nS dX10_wasteOf_11 rfl 0 rfl ?_
    refine bj_getR (ci := 11) (k := 4) (C := RX10) (T := TX10) (N := 49) rfl hi_X10_wasteOf_X10 (by decide) rfl fl_X10_wasteOf_22 (Or.inl rfl) dX10_wasteOf_12 (fun v8 h9 => ?_)
    refine bj_aload_nS dX10_wasteOf_15 rfl 0 rfl ?_
    refine bj_getR (ci := 11) (k := 3) (C := RX10) (T := TX10) (N := 49) rfl hi_X10_wasteOf_X10 (by decide) rfl fl_X10_wasteOf_19 (Or.inl rfl) dX10_wasteOf_16 (fun v10 h11 => ?_)
    refine bj_iload_n dX10_wasteOf_19 rfl 3 rfl ?_
    refine bj_nn (fun a12 h13 => ?_)
    subst h13
    refine bj_iald dX10_wasteOf_20 (fun v14 h15 => ?_)
    refine bj_nn (fun a16 h17 => ?_)
    subst h17
    refine bj_iald dX10_wasteOf_21 (fun v18 h19 => ?_)
    refine bj_istore (lv' := [(4, .int v18), (0, .ref this), (1, .int p1), (2, .int p2), (3, .int p3)]) dX10_wasteOf_22 (by decide) rfl ?_
    refine bj_aload_nS dX10_wasteOf_24 rfl 1 rfl ?_
    refine bj_getR (ci := 11) (k := 24) (C := RX10) (T := TX10) (N := 49) rfl hi_X10_wasteOf_X10 (by decide) rfl fl_X10_wasteOf_50 (Or.inl rfl) dX10_wasteOf_25 (fun v20 h21 => ?_)
    refine bj_iload_n dX10_wasteOf_28 rfl 2 rfl ?_
    refine bj_nn (fun a22 h23 => ?_)
    subst h23
    refine bj_iald dX10_wasteOf_29 (fun v24 h25 => ?_)
    refine bj_bipush (v := (-9)) dX10_wasteOf_30 (by decide) ?_
    refine bj_icmp_eq (tgt := 50) dX10_wasteOf_32 (by decide) (fun h26 => ?_) (fun h26 => ?_)
    · refine bj_aload_nS dX10_wasteOf_50 rfl 1 rfl ?_
      refine bj_getR (ci := 11) (k := 29) (C := RX10) (T := TX10) (N := 49) rfl hi_X10_wasteOf_X10 (by decide) rfl fl_X10_wasteOf_66 (Or.inl rfl) dX10_wasteOf_51 (fun v27 h28 => ?_)
      refine bj_iload_n dX10_wasteOf_54 rfl 2 rfl ?_
      refine bj_nn (fun a29 h30 => ?_)
      subst h30
      refine bj_zald dX10_wasteOf_55 (fun v31 h32 => ?_)
      refine bj_if_eq (tgt := 65) dX10_wasteOf_56 (by decide) (fun h33 => ?_) (fun h33 => ?_)
      · refine bj_sub (lv' := [(0, .ref this), (2, .int p2), (4, .int v18)]) [1, 3, 0] rfl ?_
        exact j_X10_wasteOf_b65 X this p2 v18 σ
      · refine bj_iload dX10_wasteOf_59 0 rfl ?_
        refine bj_iconst (v := 2) dX10_wasteOf_61 (by decide) ?_
        refine bj_idivC dX10_wasteOf_62 (by decide) ?_
        refine bj_istore (lv' := [(4, .int (v18 / 2)), (0, .ref this), (1, .int p1), (2, .int p2), (3, .int p3)]) dX10_wasteOf_63 (by decide) rfl ?_
        refine bj_sub (lv' := [(0, .ref this), (2, .int p2), (4, .int (v18 / 2))]) [1, 3, 0] rfl ?_
        exact j_X10_wasteOf_b65 X this p2 (v18 / 2) σ
    · refine bj_sipush (v := 1000) dX10_wasteOf_35 (by decide) ?_
      refine bj_iconst (v := 3) dX10_wasteOf_38 (by decide) ?_
      refine bj_iload dX10_wasteOf_39 0 rfl ?_
      refine bj_imul dX10_wasteOf_41 ?_
      refine bj_min (List.mem_of_getElem? (i := 5) rfl) (List.mem_of_getElem? (i := 6) rfl) (List.mem_of_getElem? (i := 7) rfl) (List.mem_of_getElem? (i := 8) rfl) (by decide) (Nat.le_of_ble_eq_true rfl) dX10_wasteOf_42 ?_
      refine bj_istore (lv' := [(4, .int (bh_min 1000 (3 * v18))), (0, .ref this), (1, .int p1), (2, .int p2), (3, .int p3)]) dX10_wasteOf_45 (by decide) rfl ?_
      refine bj_goto (tgt := 65) dX10_wasteOf_47 (by decide) ?_
      refine bj_sub (lv' := [(0, .ref this), (2, .int p2), (4, .int (bh_min 1000 (3 * v18)))]) [1, 3, 0] rfl ?_
      exact j_X10_wasteOf_b65 X this p2 (bh_min 1000 (3 * v18)) σ
  · refine bj_iconst (v := 0) dX10_wasteOf_9 (by decide) ?_
    exact bj_iret dX10_wasteOf_10
/-! BeetHouseModel.ends()V -/
theorem hi_X10_ends_X10 : ∀ w ∈ u_ws RX10 TX10 49, w ∈ wsX10_ends := fun _ h => (List.mem_cons_of_mem _ (List.mem_append_right _ h))
set_option maxRecDepth 100000 in
theorem fl_X10_ends_128 : bh_fl wsX10_ends yX10_ends.cls 128 "BeetHouseModel" "fields" "I" := Or.inl (List.mem_of_getElem? (i := 1) rfl)
set_option maxRecDepth 100000 in
theorem fl_X10_ends_138 : bh_fl wsX10_ends yX10_ends.cls 138 "BeetHouseModel" "hour" "I" := Or.inl (List.mem_of_getElem? (i := 2) rfl)
set_option maxRecDepth 100000 in
theorem fl_X10_ends_47 : bh_fl wsX10_ends yX10_ends.cls 47 "BeetHouseModel" "sugar" "[I" := Or.inl (List.mem_of_getElem? (i := 3) rfl)
set_option maxRecDepth 100000 in
theorem g_X10_ends_X10_wasteOf_195 : GoodIn wsX10_ends (wsV yX10_ends.cls 195 RX10 yX10_wasteOf wsX10_wasteOf) := goodIn_r _ [11, 12, 13, 14, 15, 16, 17, 18, 6, 19, 20, 21, 22, 10, 23, 24, 25, 26, 27, 28, 29, 30, 31, 32, 33, 34, 35, 36, 37, 38, 39, 40, 41, 42, 43, 44, 45, 46, 47, 48, 49, 50, 51, 52, 53, 54, 55, 56, 57, 58, 59, 60, 61, 62, 63, 64, 65, 66, 67, 68, 69, 70, 71, 72] rfl (by decide +kernel)
set_option maxRecDepth 100000 in
theorem fl_X10_ends_53 : bh_fl wsX10_ends yX10_ends.cls 53 "BeetHouseModel" "waste" "[I" := Or.inl (List.mem_of_getElem? (i := 4) rfl)
set_option maxRecDepth 100000 in
theorem fl_X10_ends_199 : bh_fl wsX10_ends yX10_ends.cls 199 "BeetHouseModel" "wasted" "I" := Or.inl (List.mem_of_getElem? (i := 5) rfl)
set_option maxRecDepth 100000 in
theorem fl_X10_ends_50 : bh_fl wsX10_ends yX10_ends.cls 50 "BeetHouseModel" "thawed" "[I" := Or.inl (List.mem_of_getElem? (i := 6) rfl)
set_option maxRecDepth 100000 in
theorem fl_X10_ends_56 : bh_fl wsX10_ends yX10_ends.cls 56 "BeetHouseModel" "gone" "[I" := Or.inl (List.mem_of_getElem? (i := 7) rfl)
set_option maxRecDepth 100000 in
theorem fl_X10_ends_44 : bh_fl wsX10_ends yX10_ends.cls 44 "BeetHouseModel" "roots" "[I" := Or.inl (List.mem_of_getElem? (i := 8) rfl)
set_option maxRecDepth 100000 in
theorem fl_X10_ends_202 : bh_fl wsX10_ends yX10_ends.cls 202 "BeetHouseModel" "spoiled" "I" := Or.inl (List.mem_of_getElem? (i := 9) rfl)
set_option maxRecDepth 100000 in
theorem fl_X10_ends_66 : bh_fl wsX10_ends yX10_ends.cls 66 "BeetHouseModel" "covered" "[Z" := Or.inl (List.mem_of_getElem? (i := 10) rfl)
def f_X10_ends_b176 (N : Nat) (k79 : Nat → Int32 → bh_S → Option (Unit × bh_S)) (this : Nat) (x1 : Int32) (σ : bh_S) : Option (Unit × bh_S) :=
  k79 this (x1 + 1) σ
set_option maxHeartbeats 4000000 in
set_option maxRecDepth 100000 in
theorem j_X10_ends_b176 (X : bh_X) (N : Nat) (k79 : Nat → Int32 → bh_S → Option (Unit × bh_S)) (hk79 : ∀ (this : Nat) (x1 : Int32) (σ : bh_S), bh_J eU yX10_ends cX10_ends wsX10_ends none 3 2 37 X σ 79 [(0, .ref this), (1, .int x1)] [] (k79 this x1 σ)) (this : Nat) (x1 : Int32) (σ : bh_S) : bh_J eU yX10_ends cX10_ends wsX10_ends none 3 2 37 X σ 176 [(0, .ref this), (1, .int x1)] [] (f_X10_ends_b176 N k79 this x1 σ) := by
  unfold f_X10_ends_b176
  refine bj_iinc (v := x1 + 1) (lv' := [(1, .int (x1 + 1)), (0, .ref this)]) dX10_ends_176 1 rfl rfl (by decide) rfl ?_
  refine bj_goto (tgt := 79) dX10_ends_179 (by decide) ?_
  refine bj_sub (lv' := [(0, .ref this), (1, .int (x1 + 1))]) [1, 0] rfl ?_
  exact hk79 this (x1 + 1) σ
def f_X10_ends_b79 (N : Nat) : Nat → Nat → Int32 → bh_S → Option (Unit × bh_S)
  | 0, _, _, _ => none
  | n + 1, this, x1, σ =>
    (bh_rdI σ 11 this 7).bind fun v1 =>
    if v1 ≤ x1 then
      some ((), σ)
    else
      (bh_rdR σ 11 this 24).bind fun v4 =>
      (v4).bind fun a6 =>
      (bh_ldI σ 12 a6 x1).bind fun v8 =>
      if v8 = (-9) then
        f_X10_ends_b176 N (f_X10_ends_b79 N n) this x1 σ
      else
        (bh_rdI σ 11 this 6).bind fun v11 =>
        (bh_rdR σ 11 this 24).bind fun v13 =>
        (v13).bind fun a15 =>
        (bh_ldI σ 12 a15 x1).bind fun v17 =>
        if 72 ≤ (v11 - v17) then
          (bh_rdR σ 11 this 26).bind fun v20 =>
          (v20).bind fun a22 =>
          (bh_ldI σ 12 a22 x1).bind fun v24 =>
          (bh_rdR σ 11 this 22).bind fun v26 =>
          (v26).bind fun a28 =>
          (bh_ldI σ 12 a28 x1).bind fun v30 =>
          (bh_stI σ 12 a22 x1 (v24 + v30)).bind fun σ32 =>
          (bh_rdI σ32 11 this 16).bind fun v34 =>
          (bh_rdR σ32 11 this 22).bind fun v36 =>
          (v36).bind fun a38 =>
          (bh_ldI σ32 12 a38 x1).bind fun v40 =>
          (bh_wrI σ32 11 this 16 (v34 + v40)).bind fun σ42 =>
          (bh_rdR σ42 11 this 22).bind fun v44 =>
          (v44).bind fun a46 =>
          (bh_stI σ42 12 a46 x1 0).bind fun σ48 =>
          (bh_rdR σ48 11 this 23).bind fun v50 =>
          (v50).bind fun a52 =>
          (bh_stI σ48 12 a52 x1 0).bind fun σ54 =>
          (bh_rdR σ54 11 this 24).bind fun v56 =>
          (v56).bind fun a58 =>
          (bh_stI σ54 12 a58 x1 (-9)).bind fun σ60 =>
          (bh_rdR σ60 11 this 29).bind fun v62 =>
          (v62).bind fun a64 =>
          (bh_stZ σ60 13 a64 x1 0).bind fun σ66 =>
          f_X10_ends_b176 N (f_X10_ends_b79 N n) this x1 σ66
        else
          f_X10_ends_b176 N (f_X10_ends_b79 N n) this x1 σ
set_option maxHeartbeats 4000000 in
set_option maxRecDepth 100000 in
theorem j_X10_ends_b79 (X : bh_X) (N : Nat) : ∀ (n : Nat) (this : Nat) (x1 : Int32) (σ : bh_S), bh_J eU yX10_ends cX10_ends wsX10_ends none 3 2 37 X σ 79 [(0, .ref this), (1, .int x1)] [] (f_X10_ends_b79 N n this x1 σ) := by
  intro n
  induction n with
  | zero => intro this x1 σ; exact bj_none
  | succ n ih =>
    intro this x1 σ
    unfold f_X10_ends_b79
    refine bj_iload_n dX10_ends_79 rfl 1 rfl ?_
    refine bj_aload_nS dX10_ends_80 rfl 0 rfl ?_
    refine bj_getI (ci := 11) (k := 7) (C := RX10) (T := TX10) (N := 49) rfl hi_X10_ends_X10 (by decide) rfl fl_X10_ends_128 (Or.inl rfl) dX10_ends_81 (fun v1 h2 => ?_)
    refine bj_icmp_ge (tgt := 182) dX10_ends_84 (by decide) (fun h3 => ?_) (fun h3 => ?_)
    · exact bj_vret dX10_ends_182
    · refine bj_aload_nS dX10_ends_87 rfl 0 rfl ?_
      refine bj_getR (ci := 11) (k := 24) (C := RX10) (T := TX10) (N := 49) rfl hi_X10_ends_X10 (by decide) rfl fl_X10_ends_50 (Or.inl rfl) dX10_ends_88 (fun v4 h5 => ?_)
      refine bj_iload_n dX10_ends_91 rfl 1 rfl ?_
      refine bj_nn (fun a6 h7 => ?_)
      subst h7
      refine bj_iald dX10_ends_92 (fun v8 h9 => ?_)
      refine bj_bipush (v := (-9)) dX10_ends_93 (by decide) ?_
      refine bj_icmp_eq (tgt := 176) dX10_ends_95 (by decide) (fun h10 => ?_) (fun h10 => ?_)
      · refine bj_sub (lv' := [(0, .ref this), (1, .int x1)]) [0, 1] rfl ?_
        exact j_X10_ends_b176 X N (f_X10_ends_b79 N n) ih this x1 σ
      · refine bj_aload_nS dX10_ends_98 rfl 0 rfl ?_
        refine bj_getI (ci := 11) (k := 6) (C := RX10) (T := TX10) (N := 49) rfl hi_X10_ends_X10 (by decide) rfl fl_X10_ends_138 (Or.inl rfl) dX10_ends_99 (fun v11 h12 => ?_)
        refine bj_aload_nS dX10_ends_102 rfl 0 rfl ?_
        refine bj_getR (ci := 11) (k := 24) (C := RX10) (T := TX10) (N := 49) rfl hi_X10_ends_X10 (by decide) rfl fl_X10_ends_50 (Or.inl rfl) dX10_ends_103 (fun v13 h14 => ?_)
        refine bj_iload_n dX10_ends_106 rfl 1 rfl ?_
        refine bj_nn (fun a15 h16 => ?_)
        subst h16
        refine bj_iald dX10_ends_107 (fun v17 h18 => ?_)
        refine bj_isub dX10_ends_108 ?_
        refine bj_bipush (v := 72) dX10_ends_109 (by decide) ?_
        refine bj_icmp_ge (tgt := 117) dX10_ends_111 (by decide) (fun h19 => ?_) (fun h19 => ?_)
        · refine bj_aload_nS dX10_ends_117 rfl 0 rfl ?_
          refine bj_getR (ci := 11) (k := 26) (C := RX10) (T := TX10) (N := 49) rfl hi_X10_ends_X10 (by decide) rfl fl_X10_ends_56 (Or.inl rfl) dX10_ends_118 (fun v20 h21 => ?_)
          refine bj_iload_n dX10_ends_121 rfl 1 rfl ?_
          refine bj_dup2 dX10_ends_122 rfl (bh_cat _) ?_
          refine bj_nn (fun a22 h23 => ?_)
          subst h23
          refine bj_iald dX10_ends_123 (fun v24 h25 => ?_)
          refine bj_aload_nS dX10_ends_124 rfl 0 rfl ?_
          refine bj_getR (ci := 11) (k := 22) (C := RX10) (T := TX10) (N := 49) rfl hi_X10_ends_X10 (by decide) rfl fl_X10_ends_44 (Or.inl rfl) dX10_ends_125 (fun v26 h27 => ?_)
          refine bj_iload_n dX10_ends_128 rfl 1 rfl ?_
          refine bj_nn (fun a28 h29 => ?_)
          subst h29
          refine bj_iald dX10_ends_129 (fun v30 h31 => ?_)
          refine bj_iadd dX10_ends_130 ?_
          refine bj_iast dX10_ends_131 (fun σ32 h33 => ?_)
          refine bj_aload_nS dX10_ends_132 rfl 0 rfl ?_
          refine bj_dup dX10_ends_133 rfl ?_
          refine bj_getI (ci := 11) (k := 16) (C := RX10) (T := TX10) (N := 49) rfl hi_X10_ends_X10 (by decide) rfl fl_X10_ends_202 (Or.inl rfl) dX10_ends_134 (fun v34 h35 => ?_)
          refine bj_aload_nS dX10_ends_137 rfl 0 rfl ?_
          refine bj_getR (ci := 11) (k := 22) (C := RX10) (T := TX10) (N := 49) rfl hi_X10_ends_X10 (by decide) rfl fl_X10_ends_44 (Or.inl rfl) dX10_ends_138 (fun v36 h37 => ?_)
          refine bj_iload_n dX10_ends_141 rfl 1 rfl ?_
          refine bj_nn (fun a38 h39 => ?_)
          subst h39
          refine bj_iald dX10_ends_142 (fun v40 h41 => ?_)
          refine bj_iadd dX10_ends_143 ?_
          refine bj_putI (ci := 11) (k := 16) (C := RX10) (T := TX10) (N := 49) rfl hi_X10_ends_X10 (by decide) rfl fl_X10_ends_202 (Or.inl rfl) tyX10 tyX10_ok nmX10 rfl (Or.inl rfl) dX10_ends_144 (fun σ42 h43 => ?_)
          refine bj_aload_nS dX10_ends_147 rfl 0 rfl ?_
          refine bj_getR (ci := 11) (k := 22) (C := RX10) (T := TX10) (N := 49) rfl hi_X10_ends_X10 (by decide) rfl fl_X10_ends_44 (Or.inl rfl) dX10_ends_148 (fun v44 h45 => ?_)
          refine bj_iload_n dX10_ends_151 rfl 1 rfl ?_
          refine bj_iconst (v := 0) dX10_ends_152 (by decide) ?_
          refine bj_nn (fun a46 h47 => ?_)
          subst h47
          refine bj_iast dX10_ends_153 (fun σ48 h49 => ?_)
          refine bj_aload_nS dX10_ends_154 rfl 0 rfl ?_
          refine bj_getR (ci := 11) (k := 23) (C := RX10) (T := TX10) (N := 49) rfl hi_X10_ends_X10 (by decide) rfl fl_X10_ends_47 (Or.inl rfl) dX10_ends_155 (fun v50 h51 => ?_)
          refine bj_iload_n dX10_ends_158 rfl 1 rfl ?_
          refine bj_iconst (v := 0) dX10_ends_159 (by decide) ?_
          refine bj_nn (fun a52 h53 => ?_)
          subst h53
          refine bj_iast dX10_ends_160 (fun σ54 h55 => ?_)
          refine bj_aload_nS dX10_ends_161 rfl 0 rfl ?_
          refine bj_getR (ci := 11) (k := 24) (C := RX10) (T := TX10) (N := 49) rfl hi_X10_ends_X10 (by decide) rfl fl_X10_ends_50 (Or.inl rfl) dX10_ends_162 (fun v56 h57 => ?_)
          refine bj_iload_n dX10_ends_165 rfl 1 rfl ?_
          refine bj_bipush (v := (-9)) dX10_ends_166 (by decide) ?_
          refine bj_nn (fun a58 h59 => ?_)
          subst h59
          refine bj_iast dX10_ends_168 (fun σ60 h61 => ?_)
          refine bj_aload_nS dX10_ends_169 rfl 0 rfl ?_
          refine bj_getR (ci := 11) (k := 29) (C := RX10) (T := TX10) (N := 49) rfl hi_X10_ends_X10 (by decide) rfl fl_X10_ends_66 (Or.inl rfl) dX10_ends_170 (fun v62 h63 => ?_)
          refine bj_iload_n dX10_ends_173 rfl 1 rfl ?_
          refine bj_iconst (v := 0) dX10_ends_174 (by decide) ?_
          refine bj_nn (fun a64 h65 => ?_)
          subst h65
          refine bj_zast dX10_ends_175 (fun σ66 h67 => ?_)
          refine bj_sub (lv' := [(0, .ref this), (1, .int x1)]) [0, 1] rfl ?_
          exact j_X10_ends_b176 X N (f_X10_ends_b79 N n) ih this x1 σ66
        · refine bj_goto (tgt := 176) dX10_ends_114 (by decide) ?_
          refine bj_sub (lv' := [(0, .ref this), (1, .int x1)]) [0, 1] rfl ?_
          exact j_X10_ends_b176 X N (f_X10_ends_b79 N n) ih this x1 σ
def f_X10_ends_b77 (N : Nat) (this : Nat) (σ : bh_S) : Option (Unit × bh_S) :=
  f_X10_ends_b79 N N this 0 σ
set_option maxHeartbeats 4000000 in
set_option maxRecDepth 100000 in
theorem j_X10_ends_b77 (X : bh_X) (N : Nat) (this : Nat) (σ : bh_S) : bh_J eU yX10_ends cX10_ends wsX10_ends none 3 2 37 X σ 77 [(0, .ref this)] [] (f_X10_ends_b77 N this σ) := by
  unfold f_X10_ends_b77
  refine bj_iconst (v := 0) dX10_ends_77 (by decide) ?_
  refine bj_istore_n (lv' := [(1, .int 0), (0, .ref this)]) dX10_ends_78 rfl (by decide) rfl ?_
  refine bj_sub (lv' := [(0, .ref this), (1, .int 0)]) [1, 0] rfl ?_
  exact j_X10_ends_b79 X N N this 0 σ
def f_X10_ends_b2 (N : Nat) : Nat → Nat → Int32 → bh_S → Option (Unit × bh_S)
  | 0, _, _, _ => none
  | n + 1, this, x1, σ =>
    (bh_rdI σ 11 this 7).bind fun v1 =>
    if v1 ≤ x1 then
      f_X10_ends_b77 N this σ
    else
      (bh_rdI σ 11 this 6).bind fun v4 =>
      if (v4 - v4 / 24 * 24) = 0 then
        (bh_rdR σ 11 this 23).bind fun v7 =>
        (v7).bind fun a9 =>
        (bh_ldI σ 12 a9 x1).bind fun v11 =>
        (bh_rdI σ 11 this 6).bind fun v13 =>
        (bh_ck σ this 11).bind fun _ =>
        bh_bnd (f_X10_wasteOf this x1 v11 ((v13 / 24) - 1) σ) fun v16 σ17 =>
        (bh_rdR σ17 11 this 23).bind fun v19 =>
        (v19).bind fun a21 =>
        (bh_ldI σ17 12 a21 x1).bind fun v23 =>
        (bh_stI σ17 12 a21 x1 (v23 - v16)).bind fun σ25 =>
        (bh_rdR σ25 11 this 25).bind fun v27 =>
        (v27).bind fun a29 =>
        (bh_ldI σ25 12 a29 x1).bind fun v31 =>
        (bh_stI σ25 12 a29 x1 (v31 + v16)).bind fun σ33 =>
        (bh_rdI σ33 11 this 15).bind fun v35 =>
        (bh_wrI σ33 11 this 15 (v35 + v16)).bind fun σ37 =>
        f_X10_ends_b2 N n this (x1 + 1) σ37
      else
        f_X10_ends_b77 N this σ
set_option maxHeartbeats 4000000 in
set_option maxRecDepth 100000 in
theorem j_X10_ends_b2 (X : bh_X) (N : Nat) : ∀ (n : Nat) (this : Nat) (x1 : Int32) (σ : bh_S), bh_J eU yX10_ends cX10_ends wsX10_ends none 3 2 37 X σ 2 [(0, .ref this), (1, .int x1)] [] (f_X10_ends_b2 N n this x1 σ) := by
  intro n
  induction n with
  | zero => intro this x1 σ; exact bj_none
  | succ n ih =>
    intro this x1 σ
    unfold f_X10_ends_b2
    refine bj_iload_n dX10_ends_2 rfl 1 rfl ?_
    refine bj_aload_nS dX10_ends_3 rfl 0 rfl ?_
    refine bj_getI (ci := 11) (k := 7) (C := RX10) (T := TX10) (N := 49) rfl hi_X10_ends_X10 (by decide) rfl fl_X10_ends_128 (Or.inl rfl) dX10_ends_4 (fun v1 h2 => ?_)
    refine bj_icmp_ge (tgt := 77) dX10_ends_7 (by decide) (fun h3 => ?_) (fun h3 => ?_)
    · refine bj_sub (lv' := [(0, .ref this)]) [0] rfl ?_
      exact j_X10_ends_b77 X N this σ
    · refine bj_aload_nS dX10_ends_10 rfl 0 rfl ?_
      refine bj_getI (ci := 11) (k := 6) (C := RX10) (T := TX10) (N := 49) rfl hi_X10_ends_X10 (by decide) rfl fl_X10_ends_138 (Or.inl rfl) dX10_ends_11 (fun v4 h5 => ?_)
      refine bj_bipush (v := 24) dX10_ends_14 (by decide) ?_
      refine bj_iremC dX10_ends_16 (by decide) ?_
      refine bj_if_ne (tgt := 77) dX10_ends_17 (by decide) (fun h6 => ?_) (fun h6 => ?_)
      · refine bj_sub (lv' := [(0, .ref this)]) [0] rfl ?_
        exact j_X10_ends_b77 X N this σ
      · refine bj_aload_nS dX10_ends_20 rfl 0 rfl ?_
        refine bj_iload_n dX10_ends_21 rfl 1 rfl ?_
        refine bj_aload_nS dX10_ends_22 rfl 0 rfl ?_
        refine bj_getR (ci := 11) (k := 23) (C := RX10) (T := TX10) (N := 49) rfl hi_X10_ends_X10 (by decide) rfl fl_X10_ends_47 (Or.inl rfl) dX10_ends_23 (fun v7 h8 => ?_)
        refine bj_iload_n dX10_ends_26 rfl 1 rfl ?_
        refine bj_nn (fun a9 h10 => ?_)
        subst h10
        refine bj_iald dX10_ends_27 (fun v11 h12 => ?_)
        refine bj_aload_nS dX10_ends_28 rfl 0 rfl ?_
        refine bj_getI (ci := 11) (k := 6) (C := RX10) (T := TX10) (N := 49) rfl hi_X10_ends_X10 (by decide) rfl fl_X10_ends_138 (Or.inl rfl) dX10_ends_29 (fun v13 h14 => ?_)
        refine bj_bipush (v := 24) dX10_ends_32 (by decide) ?_
        refine bj_idivC dX10_ends_34 (by decide) ?_
        refine bj_iconst (v := 1) dX10_ends_35 (by decide) ?_
        refine bj_isub dX10_ends_36 ?_
        refine bj_op (fun _ h15 => ?_)
        refine bj_callI (br_V (As := [.int x1, .int v11, .int ((v13 / 24) - 1)]) (rest := []) (q := (RX10, TX10, 49)) (c_X10_wasteOf X this x1 v11 ((v13 / 24) - 1) σ) rfl g_X10_ends_X10_wasteOf_195 rfl (bh_ck_spec h15) ⟨rfl, hd_X10_wasteOf⟩ rfl ⟨by decide, by decide⟩ rfl (Nat.le_of_ble_eq_true rfl) dX10_ends_37) (fun v16 σ17 h18 => ?_)
        refine bj_istore_n (lv' := [(2, .int v16), (0, .ref this), (1, .int x1)]) dX10_ends_40 rfl (by decide) rfl ?_
        refine bj_aload_nS dX10_ends_41 rfl 1 rfl ?_
        refine bj_getR (ci := 11) (k := 23) (C := RX10) (T := TX10) (N := 49) rfl hi_X10_ends_X10 (by decide) rfl fl_X10_ends_47 (Or.inl rfl) dX10_ends_42 (fun v19 h20 => ?_)
        refine bj_iload_n dX10_ends_45 rfl 2 rfl ?_
        refine bj_dup2 dX10_ends_46 rfl (bh_cat _) ?_
        refine bj_nn (fun a21 h22 => ?_)
        subst h22
        refine bj_iald dX10_ends_47 (fun v23 h24 => ?_)
        refine bj_iload_n dX10_ends_48 rfl 0 rfl ?_
        refine bj_isub dX10_ends_49 ?_
        refine bj_iast dX10_ends_50 (fun σ25 h26 => ?_)
        refine bj_aload_nS dX10_ends_51 rfl 1 rfl ?_
        refine bj_getR (ci := 11) (k := 25) (C := RX10) (T := TX10) (N := 49) rfl hi_X10_ends_X10 (by decide) rfl fl_X10_ends_53 (Or.inl rfl) dX10_ends_52 (fun v27 h28 => ?_)
        refine bj_iload_n dX10_ends_55 rfl 2 rfl ?_
        refine bj_dup2 dX10_ends_56 rfl (bh_cat _) ?_
        refine bj_nn (fun a29 h30 => ?_)
        subst h30
        refine bj_iald dX10_ends_57 (fun v31 h32 => ?_)
        refine bj_iload_n dX10_ends_58 rfl 0 rfl ?_
        refine bj_iadd dX10_ends_59 ?_
        refine bj_iast dX10_ends_60 (fun σ33 h34 => ?_)
        refine bj_aload_nS dX10_ends_61 rfl 1 rfl ?_
        refine bj_dup dX10_ends_62 rfl ?_
        refine bj_getI (ci := 11) (k := 15) (C := RX10) (T := TX10) (N := 49) rfl hi_X10_ends_X10 (by decide) rfl fl_X10_ends_199 (Or.inl rfl) dX10_ends_63 (fun v35 h36 => ?_)
        refine bj_iload_n dX10_ends_66 rfl 0 rfl ?_
        refine bj_iadd dX10_ends_67 ?_
        refine bj_putI (ci := 11) (k := 15) (C := RX10) (T := TX10) (N := 49) rfl hi_X10_ends_X10 (by decide) rfl fl_X10_ends_199 (Or.inl rfl) tyX10 tyX10_ok nmX10 rfl (Or.inl rfl) dX10_ends_68 (fun σ37 h38 => ?_)
        refine bj_iinc (v := x1 + 1) (lv' := [(1, .int (x1 + 1)), (2, .int v16), (0, .ref this)]) dX10_ends_71 2 rfl rfl (by decide) rfl ?_
        refine bj_goto (tgt := 2) dX10_ends_74 (by decide) ?_
        refine bj_sub (lv' := [(0, .ref this), (1, .int (x1 + 1))]) [2, 0] rfl ?_
        exact ih this (x1 + 1) σ37
def f_X10_ends (N : Nat) (this : Nat) (σ : bh_S) : Option (Unit × bh_S) :=
  f_X10_ends_b2 N N this 0 σ
set_option maxHeartbeats 4000000 in
set_option maxRecDepth 100000 in
theorem c_X10_ends (X : bh_X) (N : Nat) (this : Nat) (σ : bh_S) : bh_MX eU X yX10_ends wsX10_ends 2 37 [.ref this] σ (f_X10_ends N this σ) := by
  refine bh_enter (cc := cX10_ends) (NL := 3) (ret := none) (by decide) rfl (Nat.le_of_ble_eq_true rfl) (fun X => ?_)
  show bh_J eU yX10_ends cX10_ends wsX10_ends none 3 2 37 X σ 0 [(0, .ref this)] [] _
  unfold f_X10_ends
  refine bj_iconst (v := 0) dX10_ends_0 (by decide) ?_
  refine bj_istore_n (lv' := [(1, .int 0), (0, .ref this)]) dX10_ends_1 rfl (by decide) rfl ?_
  refine bj_sub (lv' := [(0, .ref this), (1, .int 0)]) [1, 0] rfl ?_
  exact j_X10_ends_b2 X N N this 0 σ
/-! BeetHouseModel.hours(I)I -/
theorem hi_X10_hours_X10 : ∀ w ∈ u_ws RX10 TX10 49, w ∈ wsX10_hours := fun _ h => (List.mem_cons_of_mem _ (List.mem_append_right _ h))
set_option maxRecDepth 100000 in
theorem fl_X10_hours_138 : bh_fl wsX10_hours yX10_hours.cls 138 "BeetHouseModel" "hour" "I" := Or.inl (List.mem_of_getElem? (i := 1) rfl)
set_option maxRecDepth 100000 in
theorem g_X10_hours_X10_refuse_124 : GoodIn wsX10_hours (wsV yX10_hours.cls 124 RX10 yX10_refuse wsX10_refuse) := goodIn_r _ [4, 5, 6, 7, 8, 9, 87, 88, 89, 90, 91, 92, 93, 94, 95, 96, 97, 98, 99, 100, 101, 102, 103, 104, 105, 106, 107, 108, 109, 110, 111, 112, 113, 114, 115, 116, 117, 118, 119, 120, 121, 122, 123, 124, 125, 126, 127, 128, 129, 130, 131, 132, 133, 134, 135] rfl (by decide +kernel)
set_option maxRecDepth 100000 in
theorem fl_X10_hours_161 : bh_fl wsX10_hours yX10_hours.cls 161 "BeetHouseModel" "isFrost" "Z" := Or.inl (List.mem_of_getElem? (i := 2) rfl)
set_option maxRecDepth 100000 in
theorem g_X10_hours_X10_lifts_205 : GoodIn wsX10_hours (wsV yX10_hours.cls 205 RX10 yX10_lifts wsX10_lifts) := goodIn_r _ [10, 11, 12, 7, 13, 14, 15, 16, 17, 18, 19, 20, 21, 22, 23, 87, 88, 89, 90, 91, 92, 93, 94, 95, 96, 97, 98, 99, 100, 101, 102, 103, 104, 105, 106, 107, 108, 109, 110, 111, 112, 113, 114, 115, 116, 117, 118, 119, 120, 121, 122, 123, 124, 125, 126, 127, 128, 129, 130, 131, 132, 133, 134, 135] rfl (by decide +kernel)
set_option maxRecDepth 100000 in
theorem fl_X10_hours_131 : bh_fl wsX10_hours yX10_hours.cls 131 "BeetHouseModel" "lorries" "I" := Or.inl (List.mem_of_getElem? (i := 3) rfl)
set_option maxRecDepth 100000 in
theorem g_X10_hours_X10_unloads_211 : GoodIn wsX10_hours (wsV yX10_hours.cls 211 RX10 yX10_unloads wsX10_unloads) := goodIn_r _ [37, 38, 39, 7, 40, 3, 29, 32, 41, 42, 43, 44, 45, 7, 46, 47, 48, 49, 50, 51, 52, 30, 53, 54, 33, 55, 56, 57, 17, 18, 19, 20, 58, 59, 87, 88, 89, 90, 91, 92, 93, 94, 95, 96, 97, 98, 99, 100, 101, 102, 103, 104, 105, 106, 107, 108, 109, 110, 111, 112, 113, 114, 115, 116, 117, 118, 119, 120, 121, 122, 123, 124, 125, 126, 127, 128, 129, 130, 131, 132, 133, 134, 135] rfl (by decide +kernel)
set_option maxRecDepth 100000 in
theorem g_X10_hours_X10_eats_214 : GoodIn wsX10_hours (wsV yX10_hours.cls 214 RX10 yX10_eats wsX10_eats) := goodIn_r _ [60, 61, 62, 7, 63, 64, 47, 36, 53, 48, 65, 54, 66, 67, 68, 87, 88, 89, 90, 91, 92, 93, 94, 95, 96, 97, 98, 99, 100, 101, 102, 103, 104, 105, 106, 107, 108, 109, 110, 111, 112, 113, 114, 115, 116, 117, 118, 119, 120, 121, 122, 123, 124, 125, 126, 127, 128, 129, 130, 131, 132, 133, 134, 135] rfl (by decide +kernel)
set_option maxRecDepth 100000 in
theorem g_X10_hours_X10_ends_217 : GoodIn wsX10_hours (wsV yX10_hours.cls 217 RX10 yX10_ends wsX10_ends) := goodIn_r _ [69, 70, 71, 7, 72, 73, 1, 22, 74, 75, 34, 76, 21, 77, 78, 79, 80, 81, 7, 82, 83, 84, 85, 17, 18, 19, 20, 86, 87, 88, 89, 90, 91, 92, 93, 94, 95, 96, 97, 98, 99, 100, 101, 102, 103, 104, 105, 106, 107, 108, 109, 110, 111, 112, 113, 114, 115, 116, 117, 118, 119, 120, 121, 122, 123, 124, 125, 126, 127, 128, 129, 130, 131, 132, 133, 134, 135] rfl (by decide +kernel)
set_option maxRecDepth 100000 in
theorem g_X10_hours_X10_arrives_208 : GoodIn wsX10_hours (wsV yX10_hours.cls 208 RX10 yX10_arrives wsX10_arrives) := goodIn_r _ [24, 25, 26, 7, 27, 28, 1, 29, 30, 31, 21, 17, 18, 19, 20, 22, 32, 33, 34, 35, 36, 87, 88, 89, 90, 91, 92, 93, 94, 95, 96, 97, 98, 99, 100, 101, 102, 103, 104, 105, 106, 107, 108, 109, 110, 111, 112, 113, 114, 115, 116, 117, 118, 119, 120, 121, 122, 123, 124, 125, 126, 127, 128, 129, 130, 131, 132, 133, 134, 135] rfl (by decide +kernel)
def f_X10_hours_b64 (N : Nat) (k35 : Nat → Int32 → Int32 → Int32 → bh_S → Option (Int32 × bh_S)) : Nat → Nat → Int32 → Int32 → Int32 → Int32 → bh_S → Option (Int32 × bh_S)
  | 0, _, _, _, _, _, _ => none
  | n + 1, this, x1, x2, x3, x4, σ =>
    (bh_rdI σ 11 this 8).bind fun v1 =>
    if v1 ≤ x4 then
      (bh_ck σ this 11).bind fun _ =>
      bh_bnd (f_X10_unloads N this σ) fun v5 σ6 =>
      (bh_ck σ6 this 11).bind fun _ =>
      bh_bnd (f_X10_eats N this σ6) fun v9 σ10 =>
      (bh_ck σ10 this 11).bind fun _ =>
      bh_bnd (f_X10_ends N this σ10) fun v13 σ14 =>
      k35 this x1 (x2 + v9) (x3 + 1) σ14
    else
      (bh_ck σ this 11).bind fun _ =>
      bh_bnd (f_X10_arrives this x4 σ) fun v17 σ18 =>
      f_X10_hours_b64 N k35 n this x1 x2 x3 (x4 + 1) σ18
set_option maxHeartbeats 4000000 in
set_option maxRecDepth 100000 in
theorem j_X10_hours_b64 (X : bh_X) (N : Nat) (k35 : Nat → Int32 → Int32 → Int32 → bh_S → Option (Int32 × bh_S)) (hk35 : ∀ (this : Nat) (x1 : Int32) (x2 : Int32) (x3 : Int32) (σ : bh_S), bh_J eI yX10_hours cX10_hours wsX10_hours (some .int) 5 3 62 X σ 35 [(0, .ref this), (1, .int x1), (2, .int x2), (3, .int x3)] [] (k35 this x1 x2 x3 σ)) : ∀ (n : Nat) (this : Nat) (x1 : Int32) (x2 : Int32) (x3 : Int32) (x4 : Int32) (σ : bh_S), bh_J eI yX10_hours cX10_hours wsX10_hours (some .int) 5 3 62 X σ 64 [(0, .ref this), (1, .int x1), (2, .int x2), (3, .int x3), (4, .int x4)] [] (f_X10_hours_b64 N k35 n this x1 x2 x3 x4 σ) := by
  intro n
  induction n with
  | zero => intro this x1 x2 x3 x4 σ; exact bj_none
  | succ n ih =>
    intro this x1 x2 x3 x4 σ
    unfold f_X10_hours_b64
    refine bj_iload dX10_hours_64 4 rfl ?_
    refine bj_aload_nS dX10_hours_66 rfl 0 rfl ?_
    refine bj_getI (ci := 11) (k := 8) (C := RX10) (T := TX10) (N := 49) rfl hi_X10_hours_X10 (by decide) rfl fl_X10_hours_131 (Or.inl rfl) dX10_hours_67 (fun v1 h2 => ?_)
    refine bj_icmp_ge (tgt := 85) dX10_hours_70 (by decide) (fun h3 => ?_) (fun h3 => ?_)
    · refine bj_aload_nS dX10_hours_85 rfl 0 rfl ?_
      refine bj_op (fun _ h4 => ?_)
      refine bj_callU (br_V (As := []) (rest := []) (q := (RX10, TX10, 49)) (c_X10_unloads X N this σ) rfl g_X10_hours_X10_unloads_211 rfl (bh_ck_spec h4) ⟨rfl, hd_X10_unloads⟩ rfl ⟨by decide, by decide⟩ rfl (Nat.le_of_ble_eq_true rfl) dX10_hours_86) (fun v5 σ6 h7 => ?_)
      refine bj_iload_n dX10_hours_89 rfl 2 rfl ?_
      refine bj_aload_nS dX10_hours_90 rfl 0 rfl ?_
      refine bj_op (fun _ h8 => ?_)
      refine bj_callI (br_V (As := []) (rest := [.int x2]) (q := (RX10, TX10, 49)) (c_X10_eats X N this σ6) rfl g_X10_hours_X10_eats_214 rfl (bh_ck_spec h8) ⟨rfl, hd_X10_eats⟩ rfl ⟨by decide, by decide⟩ rfl (Nat.le_of_ble_eq_true rfl) dX10_hours_91) (fun v9 σ10 h11 => ?_)
      refine bj_iadd dX10_hours_94 ?_
      refine bj_istore_n (lv' := [(2, .int (x2 + v9)), (0, .ref this), (1, .int x1), (3, .int x3), (4, .int x4)]) dX10_hours_95 rfl (by decide) rfl ?_
      refine bj_aload_nS dX10_hours_96 rfl 1 rfl ?_
      refine bj_op (fun _ h12 => ?_)
      refine bj_callU (br_V (As := []) (rest := []) (q := (RX10, TX10, 49)) (c_X10_ends X N this σ10) rfl g_X10_hours_X10_ends_217 rfl (bh_ck_spec h12) ⟨rfl, hd_X10_ends⟩ rfl ⟨by decide, by decide⟩ rfl (Nat.le_of_ble_eq_true rfl) dX10_hours_97) (fun v13 σ14 h15 => ?_)
      refine bj_iinc (v := x3 + 1) (lv' := [(3, .int (x3 + 1)), (2, .int (x2 + v9)), (0, .ref this), (1, .int x1), (4, .int x4)]) dX10_hours_100 3 rfl rfl (by decide) rfl ?_
      refine bj_goto (tgt := 35) dX10_hours_103 (by decide) ?_
      refine bj_sub (lv' := [(0, .ref this), (1, .int x1), (2, .int (x2 + v9)), (3, .int (x3 + 1))]) [2, 3, 1, 0] rfl ?_
      exact hk35 this x1 (x2 + v9) (x3 + 1) σ14
    · refine bj_aload_nS dX10_hours_73 rfl 0 rfl ?_
      refine bj_iload dX10_hours_74 4 rfl ?_
      refine bj_op (fun _ h16 => ?_)
      refine bj_callU (br_V (As := [.int x4]) (rest := []) (q := (RX10, TX10, 49)) (c_X10_arrives X this x4 σ) rfl g_X10_hours_X10_arrives_208 rfl (bh_ck_spec h16) ⟨rfl, hd_X10_arrives⟩ rfl ⟨by decide, by decide⟩ rfl (Nat.le_of_ble_eq_true rfl) dX10_hours_76) (fun v17 σ18 h19 => ?_)
      refine bj_iinc (v := x4 + 1) (lv' := [(4, .int (x4 + 1)), (0, .ref this), (1, .int x1), (2, .int x2), (3, .int x3)]) dX10_hours_79 4 rfl rfl (by decide) rfl ?_
      refine bj_goto (tgt := 64) dX10_hours_82 (by decide) ?_
      refine bj_sub (lv' := [(0, .ref this), (1, .int x1), (2, .int x2), (3, .int x3), (4, .int (x4 + 1))]) [1, 2, 3, 4, 0] rfl ?_
      exact ih this x1 x2 x3 (x4 + 1) σ18
def f_X10_hours_b61 (N : Nat) (k35 : Nat → Int32 → Int32 → Int32 → bh_S → Option (Int32 × bh_S)) (this : Nat) (x1 : Int32) (x2 : Int32) (x3 : Int32) (σ : bh_S) : Option (Int32 × bh_S) :=
  f_X10_hours_b64 N k35 N this x1 x2 x3 0 σ
set_option maxHeartbeats 4000000 in
set_option maxRecDepth 100000 in
theorem j_X10_hours_b61 (X : bh_X) (N : Nat) (k35 : Nat → Int32 → Int32 → Int32 → bh_S → Option (Int32 × bh_S)) (hk35 : ∀ (this : Nat) (x1 : Int32) (x2 : Int32) (x3 : Int32) (σ : bh_S), bh_J eI yX10_hours cX10_hours wsX10_hours (some .int) 5 3 62 X σ 35 [(0, .ref this), (1, .int x1), (2, .int x2), (3, .int x3)] [] (k35 this x1 x2 x3 σ)) (this : Nat) (x1 : Int32) (x2 : Int32) (x3 : Int32) (σ : bh_S) : bh_J eI yX10_hours cX10_hours wsX10_hours (some .int) 5 3 62 X σ 61 [(0, .ref this), (1, .int x1), (2, .int x2), (3, .int x3)] [] (f_X10_hours_b61 N k35 this x1 x2 x3 σ) := by
  unfold f_X10_hours_b61
  refine bj_iconst (v := 0) dX10_hours_61 (by decide) ?_
  refine bj_istore (lv' := [(4, .int 0), (0, .ref this), (1, .int x1), (2, .int x2), (3, .int x3)]) dX10_hours_62 (by decide) rfl ?_
  refine bj_sub (lv' := [(0, .ref this), (1, .int x1), (2, .int x2), (3, .int x3), (4, .int 0)]) [1, 2, 3, 4, 0] rfl ?_
  exact j_X10_hours_b64 X N k35 hk35 N this x1 x2 x3 0 σ
def f_X10_hours_b35 (N : Nat) : Nat → Nat → Int32 → Int32 → Int32 → bh_S → Option (Int32 × bh_S)
  | 0, _, _, _, _, _ => none
  | n + 1, this, x1, x2, x3, σ =>
    if x1 ≤ x3 then
      some (x2, σ)
    else
      (bh_rdI σ 11 this 6).bind fun v2 =>
      (bh_wrI σ 11 this 6 (v2 + 1)).bind fun σ4 =>
      (bh_rdI σ4 11 this 17).bind fun v6 =>
      if v6 = 0 then
        (bh_ck σ4 this 11).bind fun _ =>
        bh_bnd (f_X10_lifts N this σ4) fun v10 σ11 =>
        f_X10_hours_b61 N (f_X10_hours_b35 N n) this x1 x2 x3 σ11
      else
        f_X10_hours_b61 N (f_X10_hours_b35 N n) this x1 x2 x3 σ4
set_option maxHeartbeats 4000000 in
set_option maxRecDepth 100000 in
theorem j_X10_hours_b35 (X : bh_X) (N : Nat) : ∀ (n : Nat) (this : Nat) (x1 : Int32) (x2 : Int32) (x3 : Int32) (σ : bh_S), bh_J eI yX10_hours cX10_hours wsX10_hours (some .int) 5 3 62 X σ 35 [(0, .ref this), (1, .int x1), (2, .int x2), (3, .int x3)] [] (f_X10_hours_b35 N n this x1 x2 x3 σ) := by
  intro n
  induction n with
  | zero => intro this x1 x2 x3 σ; exact bj_none
  | succ n ih =>
    intro this x1 x2 x3 σ
    unfold f_X10_hours_b35
    refine bj_iload_n dX10_hours_35 rfl 3 rfl ?_
    refine bj_iload_n dX10_hours_36 rfl 1 rfl ?_
    refine bj_icmp_ge (tgt := 106) dX10_hours_37 (by decide) (fun h1 => ?_) (fun h1 => ?_)
    · refine bj_iload_n dX10_hours_106 rfl 2 rfl ?_
      exact bj_iret dX10_hours_107
    · refine bj_aload_nS dX10_hours_40 rfl 0 rfl ?_
      refine bj_dup dX10_hours_41 rfl ?_
      refine bj_getI (ci := 11) (k := 6) (C := RX10) (T := TX10) (N := 49) rfl hi_X10_hours_X10 (by decide) rfl fl_X10_hours_138 (Or.inl rfl) dX10_hours_42 (fun v2 h3 => ?_)
      refine bj_iconst (v := 1) dX10_hours_45 (by decide) ?_
      refine bj_iadd dX10_hours_46 ?_
      refine bj_putI (ci := 11) (k := 6) (C := RX10) (T := TX10) (N := 49) rfl hi_X10_hours_X10 (by decide) rfl fl_X10_hours_138 (Or.inl rfl) tyX10 tyX10_ok nmX10 rfl (Or.inl rfl) dX10_hours_47 (fun σ4 h5 => ?_)
      refine bj_aload_nS dX10_hours_50 rfl 0 rfl ?_
      refine bj_getI (ci := 11) (k := 17) (C := RX10) (T := TX10) (N := 49) rfl hi_X10_hours_X10 (by decide) rfl fl_X10_hours_161 (Or.inl rfl) dX10_hours_51 (fun v6 h7 => ?_)
      refine bj_if_ne (tgt := 61) dX10_hours_54 (by decide) (fun h8 => ?_) (fun h8 => ?_)
      · refine bj_sub (lv' := [(0, .ref this), (1, .int x1), (2, .int x2), (3, .int x3)]) [0, 1, 2, 3] rfl ?_
        exact j_X10_hours_b61 X N (f_X10_hours_b35 N n) ih this x1 x2 x3 σ4
      · refine bj_aload_nS dX10_hours_57 rfl 0 rfl ?_
        refine bj_op (fun _ h9 => ?_)
        refine bj_callU (br_V (As := []) (rest := []) (q := (RX10, TX10, 49)) (c_X10_lifts X N this σ4) rfl g_X10_hours_X10_lifts_205 rfl (bh_ck_spec h9) ⟨rfl, hd_X10_lifts⟩ rfl ⟨by decide, by decide⟩ rfl (Nat.le_of_ble_eq_true rfl) dX10_hours_58) (fun v10 σ11 h12 => ?_)
        refine bj_sub (lv' := [(0, .ref this), (1, .int x1), (2, .int x2), (3, .int x3)]) [0, 1, 2, 3] rfl ?_
        exact j_X10_hours_b61 X N (f_X10_hours_b35 N n) ih this x1 x2 x3 σ11
def f_X10_hours (N : Nat) (this : Nat) (p1 : Int32) (σ : bh_S) : Option (Int32 × bh_S) :=
  if 1 ≤ p1 then
    (bh_rdI σ 11 this 6).bind fun v2 =>
    if p1 ≤ (2400 - v2) then
      f_X10_hours_b35 N N this p1 0 0 σ
    else
      (bh_ck σ this 11).bind fun _ =>
      bh_bnd (f_X10_refuse this (-6) σ) fun v6 σ7 =>
      some (v6, σ7)
  else
    (bh_ck σ this 11).bind fun _ =>
    bh_bnd (f_X10_refuse this (-4) σ) fun v10 σ11 =>
    some (v10, σ11)
set_option maxHeartbeats 4000000 in
set_option maxRecDepth 100000 in
theorem c_X10_hours (X : bh_X) (N : Nat) (this : Nat) (p1 : Int32) (σ : bh_S) : bh_MX eI X yX10_hours wsX10_hours 3 62 [.ref this, .int p1] σ (f_X10_hours N this p1 σ) := by
  refine bh_enter (cc := cX10_hours) (NL := 5) (ret := (some .int)) (by decide) rfl (Nat.le_of_ble_eq_true rfl) (fun X => ?_)
  show bh_J eI yX10_hours cX10_hours wsX10_hours (some .int) 5 3 62 X σ 0 [(0, .ref this), (1, .int p1)] [] _
  unfold f_X10_hours
  refine bj_iload_n dX10_hours_0 rfl 1 rfl ?_
  refine bj_iconst (v := 1) dX10_hours_1 (by decide) ?_
  refine bj_icmp_ge (tgt := 12) dX10_hours_2 (by decide) (fun h1 => ?_) (fun h1 => ?_)
  · refine bj_iload_n dX10_hours_12 rfl 1 rfl ?_
    refine bj_sipush (v := 2400) dX10_hours_13 (by decide) ?_
    refine bj_aload_nS dX10_hours_16 rfl 0 rfl ?_
    refine bj_getI (ci := 11) (k := 6) (C := RX10) (T := TX10) (N := 49) rfl hi_X10_hours_X10 (by decide) rfl fl_X10_hours_138 (Or.inl rfl) dX10_hours_17 (fun v2 h3 => ?_)
    refine bj_isub dX10_hours_20 ?_
    refine bj_icmp_le (tgt := 31) dX10_hours_21 (by decide) (fun h4 => ?_) (fun h4 => ?_)
    · refine bj_iconst (v := 0) dX10_hours_31 (by decide) ?_
      refine bj_istore_n (lv' := [(2, .int 0), (0, .ref this), (1, .int p1)]) dX10_hours_32 rfl (by decide) rfl ?_
      refine bj_iconst (v := 0) dX10_hours_33 (by decide) ?_
      refine bj_istore_n (lv' := [(3, .int 0), (2, .int 0), (0, .ref this), (1, .int p1)]) dX10_hours_34 rfl (by decide) rfl ?_
      refine bj_sub (lv' := [(0, .ref this), (1, .int p1), (2, .int 0), (3, .int 0)]) [2, 3, 1, 0] rfl ?_
      exact j_X10_hours_b35 X N N this p1 0 0 σ
    · refine bj_aload_nS dX10_hours_24 rfl 0 rfl ?_
      refine bj_bipush (v := (-6)) dX10_hours_25 (by decide) ?_
      refine bj_op (fun _ h5 => ?_)
      refine bj_callI (br_V (As := [.int (-6)]) (rest := []) (q := (RX10, TX10, 49)) (c_X10_refuse X this (-6) σ) rfl g_X10_hours_X10_refuse_124 rfl (bh_ck_spec h5) ⟨rfl, hd_X10_refuse⟩ rfl ⟨by decide, by decide⟩ rfl (Nat.le_of_ble_eq_true rfl) dX10_hours_27) (fun v6 σ7 h8 => ?_)
      exact bj_iret dX10_hours_30
  · refine bj_aload_nS dX10_hours_5 rfl 0 rfl ?_
    refine bj_bipush (v := (-4)) dX10_hours_6 (by decide) ?_
    refine bj_op (fun _ h9 => ?_)
    refine bj_callI (br_V (As := [.int (-4)]) (rest := []) (q := (RX10, TX10, 49)) (c_X10_refuse X this (-4) σ) rfl g_X10_hours_X10_refuse_124 rfl (bh_ck_spec h9) ⟨rfl, hd_X10_refuse⟩ rfl ⟨by decide, by decide⟩ rfl (Nat.le_of_ble_eq_true rfl) dX10_hours_8) (fun v10 σ11 h12 => ?_)
    exact bj_iret dX10_hours_11
/-! BeetHouseModel.owed(I)I -/
set_option maxRecDepth 100000 in
theorem g_X10_owed_X10_isIn_120 : GoodIn wsX10_owed (va_wsS yX10_owed.cls 120 yX10_isIn wsX10_isIn) := goodIn_r _ [2, 3, 4, 5] rfl (by decide +kernel)
set_option maxRecDepth 100000 in
theorem g_X10_owed_X10_refuse_124 : GoodIn wsX10_owed (wsV yX10_owed.cls 124 RX10 yX10_refuse wsX10_refuse) := goodIn_r _ [14, 15, 16, 4, 17, 18, 19, 20, 21, 22, 23, 24, 25, 26, 27, 28, 29, 30, 31, 32, 33, 34, 35, 36, 37, 38, 39, 40, 41, 42, 43, 44, 45, 46, 47, 48, 49, 50, 51, 52, 53, 54, 55, 56, 57, 58, 59, 60, 61, 62, 63, 64, 65, 66, 67] rfl (by decide +kernel)
set_option maxRecDepth 100000 in
theorem g_X10_owed_X10_owedOf_151 : GoodIn wsX10_owed (wsV yX10_owed.cls 151 RX10 yX10_owedOf wsX10_owedOf) := goodIn_r _ [6, 7, 8, 4, 9, 10, 11, 12, 13, 19, 20, 21, 22, 23, 24, 25, 26, 27, 28, 29, 30, 31, 32, 33, 34, 35, 36, 37, 38, 39, 40, 41, 42, 43, 44, 45, 46, 47, 48, 49, 50, 51, 52, 53, 54, 55, 56, 57, 58, 59, 60, 61, 62, 63, 64, 65, 66, 67] rfl (by decide +kernel)
def f_X10_owed (N : Nat) (this : Nat) (p1 : Int32) (σ : bh_S) : Option (Int32 × bh_S) :=
  bh_bnd (f_X10_isIn p1 6 σ) fun v1 σ2 =>
  if v1 = 0 then
    (bh_ck σ2 this 11).bind fun _ =>
    bh_bnd (f_X10_refuse this (-1) σ2) fun v6 σ7 =>
    some (v6, σ7)
  else
    (bh_ck σ2 this 11).bind fun _ =>
    bh_bnd (f_X10_owedOf N this p1 σ2) fun v10 σ11 =>
    some (v10 + 1000000000, σ11)
set_option maxHeartbeats 4000000 in
set_option maxRecDepth 100000 in
theorem c_X10_owed (X : bh_X) (N : Nat) (this : Nat) (p1 : Int32) (σ : bh_S) : bh_MX eI X yX10_owed wsX10_owed 1 24 [.ref this, .int p1] σ (f_X10_owed N this p1 σ) := by
  refine bh_enter (cc := cX10_owed) (NL := 2) (ret := (some .int)) (by decide) rfl (Nat.le_of_ble_eq_true rfl) (fun X => ?_)
  show bh_J eI yX10_owed cX10_owed wsX10_owed (some .int) 2 1 24 X σ 0 [(0, .ref this), (1, .int p1)] [] _
  unfold f_X10_owed
  refine bj_iload_n dX10_owed_0 rfl 1 rfl ?_
  refine bj_bipush (v := 6) dX10_owed_1 (by decide) ?_
  refine bj_callI (br_S (As := [.int p1, .int 6]) (rest := []) (c_X10_isIn X p1 6 σ) rfl g_X10_owed_X10_isIn_120 hd_X10_isIn rfl ⟨by decide, by decide⟩ rfl (Nat.le_of_ble_eq_true rfl) dX10_owed_3) (fun v1 σ2 h3 => ?_)
  refine bj_if_eq (tgt := 20) dX10_owed_6 (by decide) (fun h4 => ?_) (fun h4 => ?_)
  · refine bj_aload_nS dX10_owed_20 rfl 0 rfl ?_
    refine bj_iconst (v := (-1)) dX10_owed_21 (by decide) ?_
    refine bj_op (fun _ h5 => ?_)
    refine bj_callI (br_V (As := [.int (-1)]) (rest := []) (q := (RX10, TX10, 49)) (c_X10_refuse X this (-1) σ2) rfl g_X10_owed_X10_refuse_124 rfl (bh_ck_spec h5) ⟨rfl, hd_X10_refuse⟩ rfl ⟨by decide, by decide⟩ rfl (Nat.le_of_ble_eq_true rfl) dX10_owed_22) (fun v6 σ7 h8 => ?_)
    exact bj_iret dX10_owed_25
  · refine bj_aload_nS dX10_owed_9 rfl 0 rfl ?_
    refine bj_iload_n dX10_owed_10 rfl 1 rfl ?_
    refine bj_op (fun _ h9 => ?_)
    refine bj_callI (br_V (As := [.int p1]) (rest := []) (q := (RX10, TX10, 49)) (c_X10_owedOf X N this p1 σ2) rfl g_X10_owed_X10_owedOf_151 rfl (bh_ck_spec h9) ⟨rfl, hd_X10_owedOf⟩ rfl ⟨by decide, by decide⟩ rfl (Nat.le_of_ble_eq_true rfl) dX10_owed_11) (fun v10 σ11 h12 => ?_)
    refine bj_ldc dX10_owed_14 (List.mem_of_getElem? (i := 1) rfl) ?_
    refine bj_iadd dX10_owed_16 ?_
    refine bj_goto (tgt := 25) dX10_owed_17 (by decide) ?_
    exact bj_iret dX10_owed_25
/-! BeetHouseModel.next()I -/
set_option maxRecDepth 100000 in
theorem g_X10_next_X10_nextOf_154 : GoodIn wsX10_next (wsV yX10_next.cls 154 RX10 yX10_nextOf wsX10_nextOf) := goodIn_r _ [1, 2, 3, 4, 5, 6, 7, 8, 9, 10, 4, 11, 12, 13, 14, 15, 16, 17, 18, 19, 20, 21, 22, 23, 24, 25, 26, 27, 28, 29, 30, 31, 32, 33, 34, 35, 36, 37, 38, 39, 40, 41, 42, 43, 44, 45, 46, 47, 48, 49, 50, 51, 52, 53, 54, 55, 56, 57, 58, 59, 60, 61, 62, 63, 64, 65, 66, 67, 68, 69, 70, 71] rfl (by decide +kernel)
def f_X10_next (N : Nat) (this : Nat) (σ : bh_S) : Option (Int32 × bh_S) :=
  (bh_ck σ this 11).bind fun _ =>
  bh_bnd (f_X10_nextOf N this σ) fun v2 σ3 =>
  some (v2, σ3)
set_option maxHeartbeats 4000000 in
set_option maxRecDepth 100000 in
theorem c_X10_next (X : bh_X) (N : Nat) (this : Nat) (σ : bh_S) : bh_MX eI X yX10_next wsX10_next 2 48 [.ref this] σ (f_X10_next N this σ) := by
  refine bh_enter (cc := cX10_next) (NL := 1) (ret := (some .int)) (by decide) rfl (Nat.le_of_ble_eq_true rfl) (fun X => ?_)
  show bh_J eI yX10_next cX10_next wsX10_next (some .int) 1 2 48 X σ 0 [(0, .ref this)] [] _
  unfold f_X10_next
  refine bj_aload_nS dX10_next_0 rfl 0 rfl ?_
  refine bj_op (fun _ h1 => ?_)
  refine bj_callI (br_V (As := []) (rest := []) (q := (RX10, TX10, 49)) (c_X10_nextOf X N this σ) rfl g_X10_next_X10_nextOf_154 rfl (bh_ck_spec h1) ⟨rfl, hd_X10_nextOf⟩ rfl ⟨by decide, by decide⟩ rfl (Nat.le_of_ble_eq_true rfl) dX10_next_1) (fun v2 σ3 h4 => ?_)
  exact bj_iret dX10_next_4
/-! BeetHouseModel.lies(II)I -/
theorem hi_X10_lies_X10 : ∀ w ∈ u_ws RX10 TX10 49, w ∈ wsX10_lies := fun _ h => (List.mem_cons_of_mem _ (List.mem_append_right _ h))
set_option maxRecDepth 100000 in
theorem fl_X10_lies_138 : bh_fl wsX10_lies yX10_lies.cls 138 "BeetHouseModel" "hour" "I" := Or.inl (List.mem_of_getElem? (i := 1) rfl)
set_option maxRecDepth 100000 in
theorem fl_X10_lies_221 : bh_fl wsX10_lies yX10_lies.cls 221 "BeetHouseModel" "heaps" "I" := Or.inl (List.mem_of_getElem? (i := 2) rfl)
set_option maxRecDepth 100000 in
theorem fl_X10_lies_111 : bh_fl wsX10_lies yX10_lies.cls 111 "BeetHouseModel" "heap" "[I" := Or.inl (List.mem_of_getElem? (i := 4) rfl)
set_option maxRecDepth 100000 in
theorem fl_X10_lies_47 : bh_fl wsX10_lies yX10_lies.cls 47 "BeetHouseModel" "sugar" "[I" := Or.inl (List.mem_of_getElem? (i := 5) rfl)
set_option maxRecDepth 100000 in
theorem fl_X10_lies_114 : bh_fl wsX10_lies yX10_lies.cls 114 "BeetHouseModel" "lasts" "[I" := Or.inl (List.mem_of_getElem? (i := 3) rfl)
set_option maxRecDepth 100000 in
theorem g_X10_lies_X10_wasteOf_195 : GoodIn wsX10_lies (wsV yX10_lies.cls 195 RX10 yX10_wasteOf wsX10_wasteOf) := goodIn_r _ [6, 7, 8, 9, 10, 11, 12, 13, 14, 15, 16, 17, 18, 19, 20, 21, 22, 23, 24, 25, 26, 27, 28, 29, 30, 31, 32, 33, 34, 35, 36, 37, 38, 39, 40, 41, 42, 43, 44, 45, 46, 47, 48, 49, 50, 51, 52, 53, 54, 55, 56, 57, 58, 59, 60, 61, 62, 63, 64, 65, 66, 67, 68, 69] rfl (by decide +kernel)
def f_X10_lies_b39 (N : Nat) (k8 : Nat → Int32 → Int32 → Int32 → Int32 → bh_S → Option (Int32 × bh_S)) (this : Nat) (x1 : Int32) (x2 : Int32) (x4 : Int32) (t0 : Int32) (t1 : Int32) (σ : bh_S) : Option (Int32 × bh_S) :=
  k8 this x1 x2 (t1 + t0) (x4 + 1) σ
set_option maxHeartbeats 4000000 in
set_option maxRecDepth 100000 in
theorem j_X10_lies_b39 (X : bh_X) (N : Nat) (k8 : Nat → Int32 → Int32 → Int32 → Int32 → bh_S → Option (Int32 × bh_S)) (hk8 : ∀ (this : Nat) (x1 : Int32) (x2 : Int32) (x3 : Int32) (x4 : Int32) (σ : bh_S), bh_J eI yX10_lies cX10_lies wsX10_lies (some .int) 7 2 37 X σ 8 [(0, .ref this), (1, .int x1), (2, .int x2), (3, .int x3), (4, .int x4)] [] (k8 this x1 x2 x3 x4 σ)) (this : Nat) (x1 : Int32) (x2 : Int32) (x4 : Int32) (t0 : Int32) (t1 : Int32) (σ : bh_S) : bh_J eI yX10_lies cX10_lies wsX10_lies (some .int) 7 2 37 X σ 39 [(0, .ref this), (1, .int x1), (2, .int x2), (4, .int x4)] [.int t0, .int t1] (f_X10_lies_b39 N k8 this x1 x2 x4 t0 t1 σ) := by
  unfold f_X10_lies_b39
  refine bj_iadd dX10_lies_39 ?_
  refine bj_istore_n (lv' := [(3, .int (t1 + t0)), (0, .ref this), (1, .int x1), (2, .int x2), (4, .int x4)]) dX10_lies_40 rfl (by decide) rfl ?_
  refine bj_iinc (v := x4 + 1) (lv' := [(4, .int (x4 + 1)), (3, .int (t1 + t0)), (0, .ref this), (1, .int x1), (2, .int x2)]) dX10_lies_41 4 rfl rfl (by decide) rfl ?_
  refine bj_goto (tgt := 8) dX10_lies_44 (by decide) ?_
  refine bj_sub (lv' := [(0, .ref this), (1, .int x1), (2, .int x2), (3, .int (t1 + t0)), (4, .int (x4 + 1))]) [2, 3, 4, 1, 0] rfl ?_
  exact hk8 this x1 x2 (t1 + t0) (x4 + 1) σ
def f_X10_lies_b118 (N : Nat) (this : Nat) (x4 : Int32) (x5 : Int32) (σ : bh_S) : Option (Int32 × bh_S) :=
  (bh_rdR σ 11 this 23).bind fun v1 =>
  (v1).bind fun a3 =>
  (bh_ldI σ 12 a3 x4).bind fun v5 =>
  some (v5 - x5, σ)
set_option maxHeartbeats 4000000 in
set_option maxRecDepth 100000 in
theorem j_X10_lies_b118 (X : bh_X) (N : Nat) (this : Nat) (x4 : Int32) (x5 : Int32) (σ : bh_S) : bh_J eI yX10_lies cX10_lies wsX10_lies (some .int) 7 2 37 X σ 118 [(0, .ref this), (4, .int x4), (5, .int x5)] [] (f_X10_lies_b118 N this x4 x5 σ) := by
  unfold f_X10_lies_b118
  refine bj_aload_nS dX10_lies_118 rfl 0 rfl ?_
  refine bj_getR (ci := 11) (k := 23) (C := RX10) (T := TX10) (N := 49) rfl hi_X10_lies_X10 (by decide) rfl fl_X10_lies_47 (Or.inl rfl) dX10_lies_119 (fun v1 h2 => ?_)
  refine bj_iload dX10_lies_122 1 rfl ?_
  refine bj_nn (fun a3 h4 => ?_)
  subst h4
  refine bj_iald dX10_lies_124 (fun v5 h6 => ?_)
  refine bj_iload dX10_lies_125 2 rfl ?_
  refine bj_isub dX10_lies_127 ?_
  exact bj_iret dX10_lies_128
def f_X10_lies_b78 (N : Nat) : Nat → Nat → Int32 → Int32 → Int32 → Int32 → bh_S → Option (Int32 × bh_S)
  | 0, _, _, _, _, _, _ => none
  | n + 1, this, x3, x4, x5, x6, σ =>
    if x3 < x6 then
      f_X10_lies_b118 N this x4 x5 σ
    else
      if 2400 < x6 then
        f_X10_lies_b118 N this x4 x5 σ
      else
        (bh_ck σ this 11).bind fun _ =>
        bh_bnd (f_X10_wasteOf this x4 x5 ((x6 / 24) - 1) σ) fun v4 σ5 =>
        f_X10_lies_b78 N n this x3 x4 (x5 - v4) (x6 + 24) σ5
set_option maxHeartbeats 4000000 in
set_option maxRecDepth 100000 in
theorem j_X10_lies_b78 (X : bh_X) (N : Nat) : ∀ (n : Nat) (this : Nat) (x3 : Int32) (x4 : Int32) (x5 : Int32) (x6 : Int32) (σ : bh_S), bh_J eI yX10_lies cX10_lies wsX10_lies (some .int) 7 2 37 X σ 78 [(0, .ref this), (3, .int x3), (4, .int x4), (5, .int x5), (6, .int x6)] [] (f_X10_lies_b78 N n this x3 x4 x5 x6 σ) := by
  intro n
  induction n with
  | zero => intro this x3 x4 x5 x6 σ; exact bj_none
  | succ n ih =>
    intro this x3 x4 x5 x6 σ
    unfold f_X10_lies_b78
    refine bj_iload dX10_lies_78 4 rfl ?_
    refine bj_iload_n dX10_lies_80 rfl 1 rfl ?_
    refine bj_icmp_gt (tgt := 118) dX10_lies_81 (by decide) (fun h1 => ?_) (fun h1 => ?_)
    · refine bj_sub (lv' := [(0, .ref this), (4, .int x4), (5, .int x5)]) [0, 2, 3] rfl ?_
      exact j_X10_lies_b118 X N this x4 x5 σ
    · refine bj_iload dX10_lies_84 4 rfl ?_
      refine bj_sipush (v := 2400) dX10_lies_86 (by decide) ?_
      refine bj_icmp_gt (tgt := 118) dX10_lies_89 (by decide) (fun h2 => ?_) (fun h2 => ?_)
      · refine bj_sub (lv' := [(0, .ref this), (4, .int x4), (5, .int x5)]) [0, 2, 3] rfl ?_
        exact j_X10_lies_b118 X N this x4 x5 σ
      · refine bj_iload dX10_lies_92 3 rfl ?_
        refine bj_aload_nS dX10_lies_94 rfl 0 rfl ?_
        refine bj_iload dX10_lies_95 2 rfl ?_
        refine bj_iload dX10_lies_97 3 rfl ?_
        refine bj_iload dX10_lies_99 4 rfl ?_
        refine bj_bipush (v := 24) dX10_lies_101 (by decide) ?_
        refine bj_idivC dX10_lies_103 (by decide) ?_
        refine bj_iconst (v := 1) dX10_lies_104 (by decide) ?_
        refine bj_isub dX10_lies_105 ?_
        refine bj_op (fun _ h3 => ?_)
        refine bj_callI (br_V (As := [.int x4, .int x5, .int ((x6 / 24) - 1)]) (rest := [.int x5]) (q := (RX10, TX10, 49)) (c_X10_wasteOf X this x4 x5 ((x6 / 24) - 1) σ) rfl g_X10_lies_X10_wasteOf_195 rfl (bh_ck_spec h3) ⟨rfl, hd_X10_wasteOf⟩ rfl ⟨by decide, by decide⟩ rfl (Nat.le_of_ble_eq_true rfl) dX10_lies_106) (fun v4 σ5 h6 => ?_)
        refine bj_isub dX10_lies_109 ?_
        refine bj_istore (lv' := [(5, .int (x5 - v4)), (0, .ref this), (3, .int x3), (4, .int x4), (6, .int x6)]) dX10_lies_110 (by decide) rfl ?_
        refine bj_iinc (v := x6 + 24) (lv' := [(6, .int (x6 + 24)), (5, .int (x5 - v4)), (0, .ref this), (3, .int x3), (4, .int x4)]) dX10_lies_112 4 rfl rfl (by decide) rfl ?_
        refine bj_goto (tgt := 78) dX10_lies_115 (by decide) ?_
        refine bj_sub (lv' := [(0, .ref this), (3, .int x3), (4, .int x4), (5, .int (x5 - v4)), (6, .int (x6 + 24))]) [2, 3, 4, 1, 0] rfl ?_
        exact ih this x3 x4 (x5 - v4) (x6 + 24) σ5
def f_X10_lies_b8 (N : Nat) : Nat → Nat → Int32 → Int32 → Int32 → Int32 → bh_S → Option (Int32 × bh_S)
  | 0, _, _, _, _, _, _ => none
  | n + 1, this, x1, x2, x3, x4, σ =>
    (bh_rdI σ 11 this 48).bind fun v1 =>
    if v1 ≤ x4 then
      (bh_rdR σ 11 this 45).bind fun v4 =>
      (v4).bind fun a6 =>
      (bh_ldI σ 12 a6 x2).bind fun v8 =>
      (bh_rdR σ 11 this 23).bind fun v10 =>
      (v10).bind fun a12 =>
      (bh_ldI σ 12 a12 v8).bind fun v14 =>
      (bh_rdI σ 11 this 6).bind fun v16 =>
      f_X10_lies_b78 N N this x3 v8 v14 (((v16 / 24) + 1) * 24) σ
    else
      if ((x1 >>> (x4 &&& 31)) &&& 1) = 1 then
        (bh_rdR σ 11 this 46).bind fun v19 =>
        (v19).bind fun a21 =>
        (bh_ldI σ 12 a21 x4).bind fun v23 =>
        f_X10_lies_b39 N (f_X10_lies_b8 N n) this x1 x2 x4 v23 x3 σ
      else
        f_X10_lies_b39 N (f_X10_lies_b8 N n) this x1 x2 x4 0 x3 σ
set_option maxHeartbeats 4000000 in
set_option maxRecDepth 100000 in
theorem j_X10_lies_b8 (X : bh_X) (N : Nat) : ∀ (n : Nat) (this : Nat) (x1 : Int32) (x2 : Int32) (x3 : Int32) (x4 : Int32) (σ : bh_S), bh_J eI yX10_lies cX10_lies wsX10_lies (some .int) 7 2 37 X σ 8 [(0, .ref this), (1, .int x1), (2, .int x2), (3, .int x3), (4, .int x4)] [] (f_X10_lies_b8 N n this x1 x2 x3 x4 σ) := by
  intro n
  induction n with
  | zero => intro this x1 x2 x3 x4 σ; exact bj_none
  | succ n ih =>
    intro this x1 x2 x3 x4 σ
    unfold f_X10_lies_b8
    refine bj_iload dX10_lies_8 4 rfl ?_
    refine bj_aload_nS dX10_lies_10 rfl 0 rfl ?_
    refine bj_getI (ci := 11) (k := 48) (C := RX10) (T := TX10) (N := 49) rfl hi_X10_lies_X10 (by decide) rfl fl_X10_lies_221 (Or.inl rfl) dX10_lies_11 (fun v1 h2 => ?_)
    refine bj_icmp_ge (tgt := 47) dX10_lies_14 (by decide) (fun h3 => ?_) (fun h3 => ?_)
    · refine bj_aload_nS dX10_lies_47 rfl 0 rfl ?_
      refine bj_getR (ci := 11) (k := 45) (C := RX10) (T := TX10) (N := 49) rfl hi_X10_lies_X10 (by decide) rfl fl_X10_lies_111 (Or.inl rfl) dX10_lies_48 (fun v4 h5 => ?_)
      refine bj_iload_n dX10_lies_51 rfl 2 rfl ?_
      refine bj_nn (fun a6 h7 => ?_)
      subst h7
      refine bj_iald dX10_lies_52 (fun v8 h9 => ?_)
      refine bj_istore (lv' := [(4, .int v8), (0, .ref this), (1, .int x1), (2, .int x2), (3, .int x3)]) dX10_lies_53 (by decide) rfl ?_
      refine bj_aload_nS dX10_lies_55 rfl 1 rfl ?_
      refine bj_getR (ci := 11) (k := 23) (C := RX10) (T := TX10) (N := 49) rfl hi_X10_lies_X10 (by decide) rfl fl_X10_lies_47 (Or.inl rfl) dX10_lies_56 (fun v10 h11 => ?_)
      refine bj_iload dX10_lies_59 0 rfl ?_
      refine bj_nn (fun a12 h13 => ?_)
      subst h13
      refine bj_iald dX10_lies_61 (fun v14 h15 => ?_)
      refine bj_istore (lv' := [(5, .int v14), (4, .int v8), (0, .ref this), (1, .int x1), (2, .int x2), (3, .int x3)]) dX10_lies_62 (by decide) rfl ?_
      refine bj_aload_nS dX10_lies_64 rfl 2 rfl ?_
      refine bj_getI (ci := 11) (k := 6) (C := RX10) (T := TX10) (N := 49) rfl hi_X10_lies_X10 (by decide) rfl fl_X10_lies_138 (Or.inl rfl) dX10_lies_65 (fun v16 h17 => ?_)
      refine bj_bipush (v := 24) dX10_lies_68 (by decide) ?_
      refine bj_idivC dX10_lies_70 (by decide) ?_
      refine bj_iconst (v := 1) dX10_lies_71 (by decide) ?_
      refine bj_iadd dX10_lies_72 ?_
      refine bj_bipush (v := 24) dX10_lies_73 (by decide) ?_
      refine bj_imul dX10_lies_75 ?_
      refine bj_istore (lv' := [(6, .int (((v16 / 24) + 1) * 24)), (5, .int v14), (4, .int v8), (0, .ref this), (1, .int x1), (2, .int x2), (3, .int x3)]) dX10_lies_76 (by decide) rfl ?_
      refine bj_sub (lv' := [(0, .ref this), (3, .int x3), (4, .int v8), (5, .int v14), (6, .int (((v16 / 24) + 1) * 24))]) [3, 6, 2, 1, 0] rfl ?_
      exact j_X10_lies_b78 X N N this x3 v8 v14 (((v16 / 24) + 1) * 24) σ
    · refine bj_iload_n dX10_lies_17 rfl 3 rfl ?_
      refine bj_iload_n dX10_lies_18 rfl 1 rfl ?_
      refine bj_iload dX10_lies_19 4 rfl ?_
      refine bj_ishr dX10_lies_21 ?_
      refine bj_iconst (v := 1) dX10_lies_22 (by decide) ?_
      refine bj_iand dX10_lies_23 ?_
      refine bj_iconst (v := 1) dX10_lies_24 (by decide) ?_
      refine bj_icmp_ne (tgt := 38) dX10_lies_25 (by decide) (fun h18 => ?_) (fun h18 => ?_)
      · refine bj_iconst (v := 0) dX10_lies_38 (by decide) ?_
        refine bj_sub (lv' := [(0, .ref this), (1, .int x1), (2, .int x2), (4, .int x4)]) [0, 1, 2, 4] rfl ?_
        exact j_X10_lies_b39 X N (f_X10_lies_b8 N n) ih this x1 x2 x4 0 x3 σ
      · refine bj_aload_nS dX10_lies_28 rfl 0 rfl ?_
        refine bj_getR (ci := 11) (k := 46) (C := RX10) (T := TX10) (N := 49) rfl hi_X10_lies_X10 (by decide) rfl fl_X10_lies_114 (Or.inl rfl) dX10_lies_29 (fun v19 h20 => ?_)
        refine bj_iload dX10_lies_32 4 rfl ?_
        refine bj_nn (fun a21 h22 => ?_)
        subst h22
        refine bj_iald dX10_lies_34 (fun v23 h24 => ?_)
        refine bj_goto (tgt := 39) dX10_lies_35 (by decide) ?_
        refine bj_sub (lv' := [(0, .ref this), (1, .int x1), (2, .int x2), (4, .int x4)]) [0, 1, 2, 4] rfl ?_
        exact j_X10_lies_b39 X N (f_X10_lies_b8 N n) ih this x1 x2 x4 v23 x3 σ
def f_X10_lies (N : Nat) (this : Nat) (p1 : Int32) (p2 : Int32) (σ : bh_S) : Option (Int32 × bh_S) :=
  (bh_rdI σ 11 this 6).bind fun v1 =>
  f_X10_lies_b8 N N this p1 p2 v1 0 σ
set_option maxHeartbeats 4000000 in
set_option maxRecDepth 100000 in
theorem c_X10_lies (X : bh_X) (N : Nat) (this : Nat) (p1 : Int32) (p2 : Int32) (σ : bh_S) : bh_MX eI X yX10_lies wsX10_lies 2 37 [.ref this, .int p1, .int p2] σ (f_X10_lies N this p1 p2 σ) := by
  refine bh_enter (cc := cX10_lies) (NL := 7) (ret := (some .int)) (by decide) rfl (Nat.le_of_ble_eq_true rfl) (fun X => ?_)
  show bh_J eI yX10_lies cX10_lies wsX10_lies (some .int) 7 2 37 X σ 0 [(0, .ref this), (1, .int p1), (2, .int p2)] [] _
  unfold f_X10_lies
  refine bj_aload_nS dX10_lies_0 rfl 0 rfl ?_
  refine bj_getI (ci := 11) (k := 6) (C := RX10) (T := TX10) (N := 49) rfl hi_X10_lies_X10 (by decide) rfl fl_X10_lies_138 (Or.inl rfl) dX10_lies_1 (fun v1 h2 => ?_)
  refine bj_istore_n (lv' := [(3, .int v1), (0, .ref this), (1, .int p1), (2, .int p2)]) dX10_lies_4 rfl (by decide) rfl ?_
  refine bj_iconst (v := 0) dX10_lies_5 (by decide) ?_
  refine bj_istore (lv' := [(4, .int 0), (3, .int v1), (0, .ref this), (1, .int p1), (2, .int p2)]) dX10_lies_6 (by decide) rfl ?_
  refine bj_sub (lv' := [(0, .ref this), (1, .int p1), (2, .int p2), (3, .int v1), (4, .int 0)]) [2, 3, 4, 1, 0] rfl ?_
  exact j_X10_lies_b8 X N N this p1 p2 v1 0 σ
/-! BeetHouseModel.knows()Z -/
theorem hi_X10_knows_X10 : ∀ w ∈ u_ws RX10 TX10 49, w ∈ wsX10_knows := fun _ h => (List.mem_cons_of_mem _ (List.mem_append_right _ h))
set_option maxRecDepth 100000 in
theorem fl_X10_knows_221 : bh_fl wsX10_knows yX10_knows.cls 221 "BeetHouseModel" "heaps" "I" := Or.inl (List.mem_of_getElem? (i := 1) rfl)
set_option maxRecDepth 100000 in
theorem fl_X10_knows_128 : bh_fl wsX10_knows yX10_knows.cls 128 "BeetHouseModel" "fields" "I" := Or.inl (List.mem_of_getElem? (i := 2) rfl)
set_option maxRecDepth 100000 in
theorem fl_X10_knows_158 : bh_fl wsX10_knows yX10_knows.cls 158 "BeetHouseModel" "rate" "I" := Or.inl (List.mem_of_getElem? (i := 5) rfl)
set_option maxRecDepth 100000 in
theorem fl_X10_knows_44 : bh_fl wsX10_knows yX10_knows.cls 44 "BeetHouseModel" "roots" "[I" := Or.inl (List.mem_of_getElem? (i := 3) rfl)
set_option maxRecDepth 100000 in
theorem fl_X10_knows_111 : bh_fl wsX10_knows yX10_knows.cls 111 "BeetHouseModel" "heap" "[I" := Or.inl (List.mem_of_getElem? (i := 4) rfl)
set_option maxRecDepth 100000 in
theorem fl_X10_knows_117 : bh_fl wsX10_knows yX10_knows.cls 117 "BeetHouseModel" "least" "[I" := Or.inl (List.mem_of_getElem? (i := 8) rfl)
set_option maxRecDepth 100000 in
theorem fl_X10_knows_62 : bh_fl wsX10_knows yX10_knows.cls 62 "BeetHouseModel" "stony" "[Z" := Or.inl (List.mem_of_getElem? (i := 6) rfl)
set_option maxRecDepth 100000 in
theorem fl_X10_knows_114 : bh_fl wsX10_knows yX10_knows.cls 114 "BeetHouseModel" "lasts" "[I" := Or.inl (List.mem_of_getElem? (i := 7) rfl)
set_option maxRecDepth 100000 in
theorem g_X10_knows_X10_lies_224 : GoodIn wsX10_knows (wsV yX10_knows.cls 224 RX10 yX10_lies wsX10_lies) := goodIn_r _ [9, 10, 11, 12, 13, 14, 1, 7, 4, 15, 16, 17, 18, 12, 19, 20, 21, 22, 23, 24, 25, 26, 27, 28, 29, 30, 31, 32, 33, 34, 35, 36, 37, 38, 39, 40, 41, 42, 43, 44, 45, 46, 47, 48, 49, 50, 51, 52, 53, 54, 55, 56, 57, 58, 59, 60, 61, 62, 63, 64, 65, 66, 67, 68, 69, 70, 71, 72, 73, 74, 75, 76, 77, 78] rfl (by decide +kernel)
def f_X10_knows_b58 (N : Nat) (k7 : Nat → Int32 → bh_S → Option (Int32 × bh_S)) (this : Nat) (x1 : Int32) (σ : bh_S) : Option (Int32 × bh_S) :=
  k7 this (x1 + 1) σ
set_option maxHeartbeats 4000000 in
set_option maxRecDepth 100000 in
theorem j_X10_knows_b58 (X : bh_X) (N : Nat) (k7 : Nat → Int32 → bh_S → Option (Int32 × bh_S)) (hk7 : ∀ (this : Nat) (x1 : Int32) (σ : bh_S), bh_J eI yX10_knows cX10_knows wsX10_knows (some .boolean) 5 3 63 X σ 7 [(0, .ref this), (1, .int x1)] [] (k7 this x1 σ)) (this : Nat) (x1 : Int32) (σ : bh_S) : bh_J eI yX10_knows cX10_knows wsX10_knows (some .boolean) 5 3 63 X σ 58 [(0, .ref this), (1, .int x1)] [] (f_X10_knows_b58 N k7 this x1 σ) := by
  unfold f_X10_knows_b58
  refine bj_iinc (v := x1 + 1) (lv' := [(1, .int (x1 + 1)), (0, .ref this)]) dX10_knows_58 1 rfl rfl (by decide) rfl ?_
  refine bj_goto (tgt := 7) dX10_knows_61 (by decide) ?_
  refine bj_sub (lv' := [(0, .ref this), (1, .int (x1 + 1))]) [1, 0] rfl ?_
  exact hk7 this (x1 + 1) σ
def f_X10_knows_b113 (N : Nat) (k75 : Nat → Int32 → bh_S → Option (Int32 × bh_S)) (this : Nat) (x1 : Int32) (t0 : Int32) (t1 : Int32) (σ : bh_S) : Option (Int32 × bh_S) :=
  (bh_rdR σ 11 this 46).bind fun v1 =>
  (bh_rdI σ 11 this 10).bind fun v3 =>
  (bh_rdI σ 11 this 10).bind fun v5 =>
  (bh_nz v5).bind fun _ =>
  (v1).bind fun a8 =>
  (bh_stI σ 12 a8 x1 ((((t1 * t0) + v3) - 1) / v5)).bind fun σ10 =>
  k75 this (x1 + 1) σ10
set_option maxHeartbeats 4000000 in
set_option maxRecDepth 100000 in
theorem j_X10_knows_b113 (X : bh_X) (N : Nat) (k75 : Nat → Int32 → bh_S → Option (Int32 × bh_S)) (hk75 : ∀ (this : Nat) (x1 : Int32) (σ : bh_S), bh_J eI yX10_knows cX10_knows wsX10_knows (some .boolean) 5 3 63 X σ 75 [(0, .ref this), (1, .int x1)] [] (k75 this x1 σ)) (this : Nat) (x1 : Int32) (t0 : Int32) (t1 : Int32) (σ : bh_S) : bh_J eI yX10_knows cX10_knows wsX10_knows (some .boolean) 5 3 63 X σ 113 [(0, .ref this), (1, .int x1)] [.int t0, .int t1] (f_X10_knows_b113 N k75 this x1 t0 t1 σ) := by
  unfold f_X10_knows_b113
  refine bj_imul dX10_knows_113 ?_
  refine bj_istore_n (lv' := [(2, .int (t1 * t0)), (0, .ref this), (1, .int x1)]) dX10_knows_114 rfl (by decide) rfl ?_
  refine bj_aload_nS dX10_knows_115 rfl 1 rfl ?_
  refine bj_getR (ci := 11) (k := 46) (C := RX10) (T := TX10) (N := 49) rfl hi_X10_knows_X10 (by decide) rfl fl_X10_knows_114 (Or.inl rfl) dX10_knows_116 (fun v1 h2 => ?_)
  refine bj_iload_n dX10_knows_119 rfl 2 rfl ?_
  refine bj_iload_n dX10_knows_120 rfl 0 rfl ?_
  refine bj_aload_nS dX10_knows_121 rfl 1 rfl ?_
  refine bj_getI (ci := 11) (k := 10) (C := RX10) (T := TX10) (N := 49) rfl hi_X10_knows_X10 (by decide) rfl fl_X10_knows_158 (Or.inl rfl) dX10_knows_122 (fun v3 h4 => ?_)
  refine bj_iadd dX10_knows_125 ?_
  refine bj_iconst (v := 1) dX10_knows_126 (by decide) ?_
  refine bj_isub dX10_knows_127 ?_
  refine bj_aload_nS dX10_knows_128 rfl 1 rfl ?_
  refine bj_getI (ci := 11) (k := 10) (C := RX10) (T := TX10) (N := 49) rfl hi_X10_knows_X10 (by decide) rfl fl_X10_knows_158 (Or.inl rfl) dX10_knows_129 (fun v5 h6 => ?_)
  refine bj_op (fun _ h7 => ?_)
  refine bj_idivC dX10_knows_132 (bh_nz_spec h7) ?_
  refine bj_nn (fun a8 h9 => ?_)
  subst h9
  refine bj_iast dX10_knows_133 (fun σ10 h11 => ?_)
  refine bj_iinc (v := x1 + 1) (lv' := [(1, .int (x1 + 1)), (2, .int (t1 * t0)), (0, .ref this)]) dX10_knows_134 2 rfl rfl (by decide) rfl ?_
  refine bj_goto (tgt := 75) dX10_knows_137 (by decide) ?_
  refine bj_sub (lv' := [(0, .ref this), (1, .int (x1 + 1))]) [2, 0] rfl ?_
  exact hk75 this (x1 + 1) σ10
def f_X10_knows_b227 (N : Nat) (k163 : Nat → Int32 → bh_S → Option (Int32 × bh_S)) (k171 : Nat → Int32 → Int32 → Int32 → bh_S → Option (Int32 × bh_S)) (this : Nat) (x1 : Int32) (x2 : Int32) (x3 : Int32) (σ : bh_S) : Option (Int32 × bh_S) :=
  k171 this x1 x2 (x3 + 1) σ
set_option maxHeartbeats 4000000 in
set_option maxRecDepth 100000 in
theorem j_X10_knows_b227 (X : bh_X) (N : Nat) (k163 : Nat → Int32 → bh_S → Option (Int32 × bh_S)) (hk163 : ∀ (this : Nat) (x1 : Int32) (σ : bh_S), bh_J eI yX10_knows cX10_knows wsX10_knows (some .boolean) 5 3 63 X σ 163 [(0, .ref this), (1, .int x1)] [] (k163 this x1 σ)) (k171 : Nat → Int32 → Int32 → Int32 → bh_S → Option (Int32 × bh_S)) (hk171 : ∀ (this : Nat) (x1 : Int32) (x2 : Int32) (x3 : Int32) (σ : bh_S), bh_J eI yX10_knows cX10_knows wsX10_knows (some .boolean) 5 3 63 X σ 171 [(0, .ref this), (1, .int x1), (2, .int x2), (3, .int x3)] [] (k171 this x1 x2 x3 σ)) (this : Nat) (x1 : Int32) (x2 : Int32) (x3 : Int32) (σ : bh_S) : bh_J eI yX10_knows cX10_knows wsX10_knows (some .boolean) 5 3 63 X σ 227 [(0, .ref this), (1, .int x1), (2, .int x2), (3, .int x3)] [] (f_X10_knows_b227 N k163 k171 this x1 x2 x3 σ) := by
  unfold f_X10_knows_b227
  refine bj_iinc (v := x3 + 1) (lv' := [(3, .int (x3 + 1)), (0, .ref this), (1, .int x1), (2, .int x2)]) dX10_knows_227 3 rfl rfl (by decide) rfl ?_
  refine bj_goto (tgt := 171) dX10_knows_230 (by decide) ?_
  refine bj_sub (lv' := [(0, .ref this), (1, .int x1), (2, .int x2), (3, .int (x3 + 1))]) [1, 2, 3, 0] rfl ?_
  exact hk171 this x1 x2 (x3 + 1) σ
def f_X10_knows_b226 (N : Nat) (k163 : Nat → Int32 → bh_S → Option (Int32 × bh_S)) (k171 : Nat → Int32 → Int32 → Int32 → bh_S → Option (Int32 × bh_S)) (this : Nat) (x1 : Int32) (x3 : Int32) (t0 : Int32) (σ : bh_S) : Option (Int32 × bh_S) :=
  f_X10_knows_b227 N k163 k171 this x1 t0 x3 σ
set_option maxHeartbeats 4000000 in
set_option maxRecDepth 100000 in
theorem j_X10_knows_b226 (X : bh_X) (N : Nat) (k163 : Nat → Int32 → bh_S → Option (Int32 × bh_S)) (hk163 : ∀ (this : Nat) (x1 : Int32) (σ : bh_S), bh_J eI yX10_knows cX10_knows wsX10_knows (some .boolean) 5 3 63 X σ 163 [(0, .ref this), (1, .int x1)] [] (k163 this x1 σ)) (k171 : Nat → Int32 → Int32 → Int32 → bh_S → Option (Int32 × bh_S)) (hk171 : ∀ (this : Nat) (x1 : Int32) (x2 : Int32) (x3 : Int32) (σ : bh_S), bh_J eI yX10_knows cX10_knows wsX10_knows (some .boolean) 5 3 63 X σ 171 [(0, .ref this), (1, .int x1), (2, .int x2), (3, .int x3)] [] (k171 this x1 x2 x3 σ)) (this : Nat) (x1 : Int32) (x3 : Int32) (t0 : Int32) (σ : bh_S) : bh_J eI yX10_knows cX10_knows wsX10_knows (some .boolean) 5 3 63 X σ 226 [(0, .ref this), (1, .int x1), (3, .int x3)] [.int t0] (f_X10_knows_b226 N k163 k171 this x1 x3 t0 σ) := by
  unfold f_X10_knows_b226
  refine bj_istore_n (lv' := [(2, .int t0), (0, .ref this), (1, .int x1), (3, .int x3)]) dX10_knows_226 rfl (by decide) rfl ?_
  refine bj_sub (lv' := [(0, .ref this), (1, .int x1), (2, .int t0), (3, .int x3)]) [1, 2, 0, 3] rfl ?_
  exact j_X10_knows_b227 X N k163 hk163 k171 hk171 this x1 t0 x3 σ
def f_X10_knows_b220 (N : Nat) (k163 : Nat → Int32 → bh_S → Option (Int32 × bh_S)) (k171 : Nat → Int32 → Int32 → Int32 → bh_S → Option (Int32 × bh_S)) (this : Nat) (x1 : Int32) (x3 : Int32) (x4 : Int32) (σ : bh_S) : Option (Int32 × bh_S) :=
  f_X10_knows_b226 N k163 k171 this x1 x3 x4 σ
set_option maxHeartbeats 4000000 in
set_option maxRecDepth 100000 in
theorem j_X10_knows_b220 (X : bh_X) (N : Nat) (k163 : Nat → Int32 → bh_S → Option (Int32 × bh_S)) (hk163 : ∀ (this : Nat) (x1 : Int32) (σ : bh_S), bh_J eI yX10_knows cX10_knows wsX10_knows (some .boolean) 5 3 63 X σ 163 [(0, .ref this), (1, .int x1)] [] (k163 this x1 σ)) (k171 : Nat → Int32 → Int32 → Int32 → bh_S → Option (Int32 × bh_S)) (hk171 : ∀ (this : Nat) (x1 : Int32) (x2 : Int32) (x3 : Int32) (σ : bh_S), bh_J eI yX10_knows cX10_knows wsX10_knows (some .boolean) 5 3 63 X σ 171 [(0, .ref this), (1, .int x1), (2, .int x2), (3, .int x3)] [] (k171 this x1 x2 x3 σ)) (this : Nat) (x1 : Int32) (x3 : Int32) (x4 : Int32) (σ : bh_S) : bh_J eI yX10_knows cX10_knows wsX10_knows (some .boolean) 5 3 63 X σ 220 [(0, .ref this), (1, .int x1), (3, .int x3), (4, .int x4)] [] (f_X10_knows_b220 N k163 k171 this x1 x3 x4 σ) := by
  unfold f_X10_knows_b220
  refine bj_iload dX10_knows_220 3 rfl ?_
  refine bj_goto (tgt := 226) dX10_knows_222 (by decide) ?_
  refine bj_sub (lv' := [(0, .ref this), (1, .int x1), (3, .int x3)]) [0, 1, 2] rfl ?_
  exact j_X10_knows_b226 X N k163 hk163 k171 hk171 this x1 x3 x4 σ
def f_X10_knows_b171 (N : Nat) (k163 : Nat → Int32 → bh_S → Option (Int32 × bh_S)) : Nat → Nat → Int32 → Int32 → Int32 → bh_S → Option (Int32 × bh_S)
  | 0, _, _, _, _, _ => none
  | n + 1, this, x1, x2, x3, σ =>
    (bh_rdI σ 11 this 48).bind fun v1 =>
    if v1 ≤ x3 then
      (bh_rdR σ 11 this 47).bind fun v4 =>
      (v4).bind fun a6 =>
      (bh_stI σ 12 a6 x1 x2).bind fun σ8 =>
      k163 this (x1 + (-1)) σ8
    else
      if ((x1 >>> (x3 &&& 31)) &&& 1) = 1 then
        f_X10_knows_b227 N k163 (f_X10_knows_b171 N k163 n) this x1 x2 x3 σ
      else
        (bh_ck σ this 11).bind fun _ =>
        bh_bnd (f_X10_lies N this x1 x3 σ) fun v12 σ13 =>
        (bh_rdR σ13 11 this 47).bind fun v15 =>
        (v15).bind fun a17 =>
        (bh_ldI σ13 12 a17 (x1 ||| (1 <<< (x3 &&& 31)))).bind fun v19 =>
        if x2 < 0 then
          f_X10_knows_b220 N k163 (f_X10_knows_b171 N k163 n) this x1 x3 (v12 + v19) σ13
        else
          if x2 ≤ (v12 + v19) then
            f_X10_knows_b226 N k163 (f_X10_knows_b171 N k163 n) this x1 x3 x2 σ13
          else
            f_X10_knows_b220 N k163 (f_X10_knows_b171 N k163 n) this x1 x3 (v12 + v19) σ13
set_option maxHeartbeats 4000000 in
set_option maxRecDepth 100000 in
theorem j_X10_knows_b171 (X : bh_X) (N : Nat) (k163 : Nat → Int32 → bh_S → Option (Int32 × bh_S)) (hk163 : ∀ (this : Nat) (x1 : Int32) (σ : bh_S), bh_J eI yX10_knows cX10_knows wsX10_knows (some .boolean) 5 3 63 X σ 163 [(0, .ref this), (1, .int x1)] [] (k163 this x1 σ)) : ∀ (n : Nat) (this : Nat) (x1 : Int32) (x2 : Int32) (x3 : Int32) (σ : bh_S), bh_J eI yX10_knows cX10_knows wsX10_knows (some .boolean) 5 3 63 X σ 171 [(0, .ref this), (1, .int x1), (2, .int x2), (3, .int x3)] [] (f_X10_knows_b171 N k163 n this x1 x2 x3 σ) := by
  intro n
  induction n with
  | zero => intro this x1 x2 x3 σ; exact bj_none
  | succ n ih =>
    intro this x1 x2 x3 σ
    unfold f_X10_knows_b171
    refine bj_iload_n dX10_knows_171 rfl 3 rfl ?_
    refine bj_aload_nS dX10_knows_172 rfl 0 rfl ?_
    refine bj_getI (ci := 11) (k := 48) (C := RX10) (T := TX10) (N := 49) rfl hi_X10_knows_X10 (by decide) rfl fl_X10_knows_221 (Or.inl rfl) dX10_knows_173 (fun v1 h2 => ?_)
    refine bj_icmp_ge (tgt := 233) dX10_knows_176 (by decide) (fun h3 => ?_) (fun h3 => ?_)
    · refine bj_aload_nS dX10_knows_233 rfl 0 rfl ?_
      refine bj_getR (ci := 11) (k := 47) (C := RX10) (T := TX10) (N := 49) rfl hi_X10_knows_X10 (by decide) rfl fl_X10_knows_117 (Or.inl rfl) dX10_knows_234 (fun v4 h5 => ?_)
      refine bj_iload_n dX10_knows_237 rfl 1 rfl ?_
      refine bj_iload_n dX10_knows_238 rfl 2 rfl ?_
      refine bj_nn (fun a6 h7 => ?_)
      subst h7
      refine bj_iast dX10_knows_239 (fun σ8 h9 => ?_)
      refine bj_iinc (v := x1 + (-1)) (lv' := [(1, .int (x1 + (-1))), (0, .ref this), (2, .int x2), (3, .int x3)]) dX10_knows_240 1 rfl rfl (by decide) rfl ?_
      refine bj_goto (tgt := 163) dX10_knows_243 (by decide) ?_
      refine bj_sub (lv' := [(0, .ref this), (1, .int (x1 + (-1)))]) [1, 0] rfl ?_
      exact hk163 this (x1 + (-1)) σ8
    · refine bj_iload_n dX10_knows_179 rfl 1 rfl ?_
      refine bj_iload_n dX10_knows_180 rfl 3 rfl ?_
      refine bj_ishr dX10_knows_181 ?_
      refine bj_iconst (v := 1) dX10_knows_182 (by decide) ?_
      refine bj_iand dX10_knows_183 ?_
      refine bj_iconst (v := 1) dX10_knows_184 (by decide) ?_
      refine bj_icmp_ne (tgt := 191) dX10_knows_185 (by decide) (fun h10 => ?_) (fun h10 => ?_)
      · refine bj_aload_nS dX10_knows_191 rfl 0 rfl ?_
        refine bj_iload_n dX10_knows_192 rfl 1 rfl ?_
        refine bj_iload_n dX10_knows_193 rfl 3 rfl ?_
        refine bj_op (fun _ h11 => ?_)
        refine bj_callI (br_V (As := [.int x1, .int x3]) (rest := []) (q := (RX10, TX10, 49)) (c_X10_lies X N this x1 x3 σ) rfl g_X10_knows_X10_lies_224 rfl (bh_ck_spec h11) ⟨rfl, hd_X10_lies⟩ rfl ⟨by decide, by decide⟩ rfl (Nat.le_of_ble_eq_true rfl) dX10_knows_194) (fun v12 σ13 h14 => ?_)
        refine bj_aload_nS dX10_knows_197 rfl 0 rfl ?_
        refine bj_getR (ci := 11) (k := 47) (C := RX10) (T := TX10) (N := 49) rfl hi_X10_knows_X10 (by decide) rfl fl_X10_knows_117 (Or.inl rfl) dX10_knows_198 (fun v15 h16 => ?_)
        refine bj_iload_n dX10_knows_201 rfl 1 rfl ?_
        refine bj_iconst (v := 1) dX10_knows_202 (by decide) ?_
        refine bj_iload_n dX10_knows_203 rfl 3 rfl ?_
        refine bj_ishl dX10_knows_204 ?_
        refine bj_ior dX10_knows_205 ?_
        refine bj_nn (fun a17 h18 => ?_)
        subst h18
        refine bj_iald dX10_knows_206 (fun v19 h20 => ?_)
        refine bj_iadd dX10_knows_207 ?_
        refine bj_istore (lv' := [(4, .int (v12 + v19)), (0, .ref this), (1, .int x1), (2, .int x2), (3, .int x3)]) dX10_knows_208 (by decide) rfl ?_
        refine bj_iload_n dX10_knows_210 rfl 3 rfl ?_
        refine bj_if_lt (tgt := 220) dX10_knows_211 (by decide) (fun h21 => ?_) (fun h21 => ?_)
        · refine bj_sub (lv' := [(0, .ref this), (1, .int x1), (3, .int x3), (4, .int (v12 + v19))]) [1, 2, 4, 0] rfl ?_
          exact j_X10_knows_b220 X N k163 hk163 (f_X10_knows_b171 N k163 n) ih this x1 x3 (v12 + v19) σ13
        · refine bj_iload dX10_knows_214 0 rfl ?_
          refine bj_iload_n dX10_knows_216 rfl 3 rfl ?_
          refine bj_icmp_ge (tgt := 225) dX10_knows_217 (by decide) (fun h22 => ?_) (fun h22 => ?_)
          · refine bj_iload_n dX10_knows_225 rfl 3 rfl ?_
            refine bj_sub (lv' := [(0, .ref this), (1, .int x1), (3, .int x3)]) [1, 2, 4] rfl ?_
            exact j_X10_knows_b226 X N k163 hk163 (f_X10_knows_b171 N k163 n) ih this x1 x3 x2 σ13
          · refine bj_sub (lv' := [(0, .ref this), (1, .int x1), (3, .int x3), (4, .int (v12 + v19))]) [1, 2, 4, 0] rfl ?_
            exact j_X10_knows_b220 X N k163 hk163 (f_X10_knows_b171 N k163 n) ih this x1 x3 (v12 + v19) σ13
      · refine bj_goto (tgt := 227) dX10_knows_188 (by decide) ?_
        refine bj_sub (lv' := [(0, .ref this), (1, .int x1), (2, .int x2), (3, .int x3)]) [0, 1, 2, 3] rfl ?_
        exact j_X10_knows_b227 X N k163 hk163 (f_X10_knows_b171 N k163 n) ih this x1 x2 x3 σ
def f_X10_knows_b163 (N : Nat) : Nat → Nat → Int32 → bh_S → Option (Int32 × bh_S)
  | 0, _, _, _ => none
  | n + 1, this, x1, σ =>
    if x1 < 0 then
      bh_retZ σ 1
    else
      f_X10_knows_b171 N (f_X10_knows_b163 N n) N this x1 (-1) 0 σ
set_option maxHeartbeats 4000000 in
set_option maxRecDepth 100000 in
theorem j_X10_knows_b163 (X : bh_X) (N : Nat) : ∀ (n : Nat) (this : Nat) (x1 : Int32) (σ : bh_S), bh_J eI yX10_knows cX10_knows wsX10_knows (some .boolean) 5 3 63 X σ 163 [(0, .ref this), (1, .int x1)] [] (f_X10_knows_b163 N n this x1 σ) := by
  intro n
  induction n with
  | zero => intro this x1 σ; exact bj_none
  | succ n ih =>
    intro this x1 σ
    unfold f_X10_knows_b163
    refine bj_iload_n dX10_knows_163 rfl 1 rfl ?_
    refine bj_if_lt (tgt := 246) dX10_knows_164 (by decide) (fun h1 => ?_) (fun h1 => ?_)
    · refine bj_iconst (v := 1) dX10_knows_246 (by decide) ?_
      exact bj_zret dX10_knows_247
    · refine bj_iconst (v := (-1)) dX10_knows_167 (by decide) ?_
      refine bj_istore_n (lv' := [(2, .int (-1)), (0, .ref this), (1, .int x1)]) dX10_knows_168 rfl (by decide) rfl ?_
      refine bj_iconst (v := 0) dX10_knows_169 (by decide) ?_
      refine bj_istore_n (lv' := [(3, .int 0), (2, .int (-1)), (0, .ref this), (1, .int x1)]) dX10_knows_170 rfl (by decide) rfl ?_
      refine bj_sub (lv' := [(0, .ref this), (1, .int x1), (2, .int (-1)), (3, .int 0)]) [2, 3, 1, 0] rfl ?_
      exact j_X10_knows_b171 X N (f_X10_knows_b163 N n) ih N this x1 (-1) 0 σ
def f_X10_knows_b75 (N : Nat) : Nat → Nat → Int32 → bh_S → Option (Int32 × bh_S)
  | 0, _, _, _ => none
  | n + 1, this, x1, σ =>
    (bh_rdI σ 11 this 48).bind fun v1 =>
    if v1 ≤ x1 then
      (bh_rdR σ 11 this 47).bind fun v4 =>
      (bh_rdI σ 11 this 48).bind fun v6 =>
      (v4).bind fun a8 =>
      (bh_stI σ 12 a8 ((1 <<< (v6 &&& 31)) - 1) 0).bind fun σ10 =>
      (bh_rdI σ10 11 this 48).bind fun v12 =>
      f_X10_knows_b163 N N this ((1 <<< (v12 &&& 31)) - 2) σ10
    else
      (bh_rdR σ 11 this 22).bind fun v14 =>
      (bh_rdR σ 11 this 45).bind fun v16 =>
      (v16).bind fun a18 =>
      (bh_ldI σ 12 a18 x1).bind fun v20 =>
      (v14).bind fun a22 =>
      (bh_ldI σ 12 a22 v20).bind fun v24 =>
      (bh_rdR σ 11 this 28).bind fun v26 =>
      (bh_rdR σ 11 this 45).bind fun v28 =>
      (v28).bind fun a30 =>
      (bh_ldI σ 12 a30 x1).bind fun v32 =>
      (v26).bind fun a34 =>
      (bh_ldI σ 13 a34 v32).bind fun v36 =>
      if v36 = 0 then
        f_X10_knows_b113 N (f_X10_knows_b75 N n) this x1 1 v24 σ
      else
        f_X10_knows_b113 N (f_X10_knows_b75 N n) this x1 2 v24 σ
set_option maxHeartbeats 4000000 in
set_option maxRecDepth 100000 in
theorem j_X10_knows_b75 (X : bh_X) (N : Nat) : ∀ (n : Nat) (this : Nat) (x1 : Int32) (σ : bh_S), bh_J eI yX10_knows cX10_knows wsX10_knows (some .boolean) 5 3 63 X σ 75 [(0, .ref this), (1, .int x1)] [] (f_X10_knows_b75 N n this x1 σ) := by
  intro n
  induction n with
  | zero => intro this x1 σ; exact bj_none
  | succ n ih =>
    intro this x1 σ
    unfold f_X10_knows_b75
    refine bj_iload_n dX10_knows_75 rfl 1 rfl ?_
    refine bj_aload_nS dX10_knows_76 rfl 0 rfl ?_
    refine bj_getI (ci := 11) (k := 48) (C := RX10) (T := TX10) (N := 49) rfl hi_X10_knows_X10 (by decide) rfl fl_X10_knows_221 (Or.inl rfl) dX10_knows_77 (fun v1 h2 => ?_)
    refine bj_icmp_ge (tgt := 140) dX10_knows_80 (by decide) (fun h3 => ?_) (fun h3 => ?_)
    · refine bj_aload_nS dX10_knows_140 rfl 0 rfl ?_
      refine bj_getR (ci := 11) (k := 47) (C := RX10) (T := TX10) (N := 49) rfl hi_X10_knows_X10 (by decide) rfl fl_X10_knows_117 (Or.inl rfl) dX10_knows_141 (fun v4 h5 => ?_)
      refine bj_iconst (v := 1) dX10_knows_144 (by decide) ?_
      refine bj_aload_nS dX10_knows_145 rfl 0 rfl ?_
      refine bj_getI (ci := 11) (k := 48) (C := RX10) (T := TX10) (N := 49) rfl hi_X10_knows_X10 (by decide) rfl fl_X10_knows_221 (Or.inl rfl) dX10_knows_146 (fun v6 h7 => ?_)
      refine bj_ishl dX10_knows_149 ?_
      refine bj_iconst (v := 1) dX10_knows_150 (by decide) ?_
      refine bj_isub dX10_knows_151 ?_
      refine bj_iconst (v := 0) dX10_knows_152 (by decide) ?_
      refine bj_nn (fun a8 h9 => ?_)
      subst h9
      refine bj_iast dX10_knows_153 (fun σ10 h11 => ?_)
      refine bj_iconst (v := 1) dX10_knows_154 (by decide) ?_
      refine bj_aload_nS dX10_knows_155 rfl 0 rfl ?_
      refine bj_getI (ci := 11) (k := 48) (C := RX10) (T := TX10) (N := 49) rfl hi_X10_knows_X10 (by decide) rfl fl_X10_knows_221 (Or.inl rfl) dX10_knows_156 (fun v12 h13 => ?_)
      refine bj_ishl dX10_knows_159 ?_
      refine bj_iconst (v := 2) dX10_knows_160 (by decide) ?_
      refine bj_isub dX10_knows_161 ?_
      refine bj_istore_n (lv' := [(1, .int ((1 <<< (v12 &&& 31)) - 2)), (0, .ref this)]) dX10_knows_162 rfl (by decide) rfl ?_
      refine bj_sub (lv' := [(0, .ref this), (1, .int ((1 <<< (v12 &&& 31)) - 2))]) [1, 0] rfl ?_
      exact j_X10_knows_b163 X N N this ((1 <<< (v12 &&& 31)) - 2) σ10
    · refine bj_aload_nS dX10_knows_83 rfl 0 rfl ?_
      refine bj_getR (ci := 11) (k := 22) (C := RX10) (T := TX10) (N := 49) rfl hi_X10_knows_X10 (by decide) rfl fl_X10_knows_44 (Or.inl rfl) dX10_knows_84 (fun v14 h15 => ?_)
      refine bj_aload_nS dX10_knows_87 rfl 0 rfl ?_
      refine bj_getR (ci := 11) (k := 45) (C := RX10) (T := TX10) (N := 49) rfl hi_X10_knows_X10 (by decide) rfl fl_X10_knows_111 (Or.inl rfl) dX10_knows_88 (fun v16 h17 => ?_)
      refine bj_iload_n dX10_knows_91 rfl 1 rfl ?_
      refine bj_nn (fun a18 h19 => ?_)
      subst h19
      refine bj_iald dX10_knows_92 (fun v20 h21 => ?_)
      refine bj_nn (fun a22 h23 => ?_)
      subst h23
      refine bj_iald dX10_knows_93 (fun v24 h25 => ?_)
      refine bj_aload_nS dX10_knows_94 rfl 0 rfl ?_
      refine bj_getR (ci := 11) (k := 28) (C := RX10) (T := TX10) (N := 49) rfl hi_X10_knows_X10 (by decide) rfl fl_X10_knows_62 (Or.inl rfl) dX10_knows_95 (fun v26 h27 => ?_)
      refine bj_aload_nS dX10_knows_98 rfl 0 rfl ?_
      refine bj_getR (ci := 11) (k := 45) (C := RX10) (T := TX10) (N := 49) rfl hi_X10_knows_X10 (by decide) rfl fl_X10_knows_111 (Or.inl rfl) dX10_knows_99 (fun v28 h29 => ?_)
      refine bj_iload_n dX10_knows_102 rfl 1 rfl ?_
      refine bj_nn (fun a30 h31 => ?_)
      subst h31
      refine bj_iald dX10_knows_103 (fun v32 h33 => ?_)
      refine bj_nn (fun a34 h35 => ?_)
      subst h35
      refine bj_zald dX10_knows_104 (fun v36 h37 => ?_)
      refine bj_if_eq (tgt := 112) dX10_knows_105 (by decide) (fun h38 => ?_) (fun h38 => ?_)
      · refine bj_iconst (v := 1) dX10_knows_112 (by decide) ?_
        refine bj_sub (lv' := [(0, .ref this), (1, .int x1)]) [0, 1] rfl ?_
        exact j_X10_knows_b113 X N (f_X10_knows_b75 N n) ih this x1 1 v24 σ
      · refine bj_iconst (v := 2) dX10_knows_108 (by decide) ?_
        refine bj_goto (tgt := 113) dX10_knows_109 (by decide) ?_
        refine bj_sub (lv' := [(0, .ref this), (1, .int x1)]) [0, 1] rfl ?_
        exact j_X10_knows_b113 X N (f_X10_knows_b75 N n) ih this x1 2 v24 σ
def f_X10_knows_b7 (N : Nat) : Nat → Nat → Int32 → bh_S → Option (Int32 × bh_S)
  | 0, _, _, _ => none
  | n + 1, this, x1, σ =>
    (bh_rdI σ 11 this 7).bind fun v1 =>
    if v1 ≤ x1 then
      (bh_rdI σ 11 this 10).bind fun v4 =>
      if v4 = 0 then
        bh_retZ σ 0
      else
        f_X10_knows_b75 N N this 0 σ
    else
      (bh_rdR σ 11 this 22).bind fun v7 =>
      (v7).bind fun a9 =>
      (bh_ldI σ 12 a9 x1).bind fun v11 =>
      if v11 = 0 then
        f_X10_knows_b58 N (f_X10_knows_b7 N n) this x1 σ
      else
        (bh_rdI σ 11 this 48).bind fun v14 =>
        if v14 = 8 then
          bh_retZ σ 0
        else
          (bh_rdR σ 11 this 45).bind fun v17 =>
          (bh_rdI σ 11 this 48).bind fun v19 =>
          (v17).bind fun a21 =>
          (bh_stI σ 12 a21 v19 x1).bind fun σ23 =>
          (bh_rdI σ23 11 this 48).bind fun v25 =>
          (bh_wrI σ23 11 this 48 (v25 + 1)).bind fun σ27 =>
          f_X10_knows_b58 N (f_X10_knows_b7 N n) this x1 σ27
set_option maxHeartbeats 4000000 in
set_option maxRecDepth 100000 in
theorem j_X10_knows_b7 (X : bh_X) (N : Nat) : ∀ (n : Nat) (this : Nat) (x1 : Int32) (σ : bh_S), bh_J eI yX10_knows cX10_knows wsX10_knows (some .boolean) 5 3 63 X σ 7 [(0, .ref this), (1, .int x1)] [] (f_X10_knows_b7 N n this x1 σ) := by
  intro n
  induction n with
  | zero => intro this x1 σ; exact bj_none
  | succ n ih =>
    intro this x1 σ
    unfold f_X10_knows_b7
    refine bj_iload_n dX10_knows_7 rfl 1 rfl ?_
    refine bj_aload_nS dX10_knows_8 rfl 0 rfl ?_
    refine bj_getI (ci := 11) (k := 7) (C := RX10) (T := TX10) (N := 49) rfl hi_X10_knows_X10 (by decide) rfl fl_X10_knows_128 (Or.inl rfl) dX10_knows_9 (fun v1 h2 => ?_)
    refine bj_icmp_ge (tgt := 64) dX10_knows_12 (by decide) (fun h3 => ?_) (fun h3 => ?_)
    · refine bj_aload_nS dX10_knows_64 rfl 0 rfl ?_
      refine bj_getI (ci := 11) (k := 10) (C := RX10) (T := TX10) (N := 49) rfl hi_X10_knows_X10 (by decide) rfl fl_X10_knows_158 (Or.inl rfl) dX10_knows_65 (fun v4 h5 => ?_)
      refine bj_if_ne (tgt := 73) dX10_knows_68 (by decide) (fun h6 => ?_) (fun h6 => ?_)
      · refine bj_iconst (v := 0) dX10_knows_73 (by decide) ?_
        refine bj_istore_n (lv' := [(1, .int 0), (0, .ref this)]) dX10_knows_74 rfl (by decide) rfl ?_
        refine bj_sub (lv' := [(0, .ref this), (1, .int 0)]) [1, 0] rfl ?_
        exact j_X10_knows_b75 X N N this 0 σ
      · refine bj_iconst (v := 0) dX10_knows_71 (by decide) ?_
        exact bj_zret dX10_knows_72
    · refine bj_aload_nS dX10_knows_15 rfl 0 rfl ?_
      refine bj_getR (ci := 11) (k := 22) (C := RX10) (T := TX10) (N := 49) rfl hi_X10_knows_X10 (by decide) rfl fl_X10_knows_44 (Or.inl rfl) dX10_knows_16 (fun v7 h8 => ?_)
      refine bj_iload_n dX10_knows_19 rfl 1 rfl ?_
      refine bj_nn (fun a9 h10 => ?_)
      subst h10
      refine bj_iald dX10_knows_20 (fun v11 h12 => ?_)
      refine bj_if_ne (tgt := 27) dX10_knows_21 (by decide) (fun h13 => ?_) (fun h13 => ?_)
      · refine bj_aload_nS dX10_knows_27 rfl 0 rfl ?_
        refine bj_getI (ci := 11) (k := 48) (C := RX10) (T := TX10) (N := 49) rfl hi_X10_knows_X10 (by decide) rfl fl_X10_knows_221 (Or.inl rfl) dX10_knows_28 (fun v14 h15 => ?_)
        refine bj_bipush (v := 8) dX10_knows_31 (by decide) ?_
        refine bj_icmp_ne (tgt := 38) dX10_knows_33 (by decide) (fun h16 => ?_) (fun h16 => ?_)
        · refine bj_aload_nS dX10_knows_38 rfl 0 rfl ?_
          refine bj_getR (ci := 11) (k := 45) (C := RX10) (T := TX10) (N := 49) rfl hi_X10_knows_X10 (by decide) rfl fl_X10_knows_111 (Or.inl rfl) dX10_knows_39 (fun v17 h18 => ?_)
          refine bj_aload_nS dX10_knows_42 rfl 0 rfl ?_
          refine bj_getI (ci := 11) (k := 48) (C := RX10) (T := TX10) (N := 49) rfl hi_X10_knows_X10 (by decide) rfl fl_X10_knows_221 (Or.inl rfl) dX10_knows_43 (fun v19 h20 => ?_)
          refine bj_iload_n dX10_knows_46 rfl 1 rfl ?_
          refine bj_nn (fun a21 h22 => ?_)
          subst h22
          refine bj_iast dX10_knows_47 (fun σ23 h24 => ?_)
          refine bj_aload_nS dX10_knows_48 rfl 0 rfl ?_
          refine bj_dup dX10_knows_49 rfl ?_
          refine bj_getI (ci := 11) (k := 48) (C := RX10) (T := TX10) (N := 49) rfl hi_X10_knows_X10 (by decide) rfl fl_X10_knows_221 (Or.inl rfl) dX10_knows_50 (fun v25 h26 => ?_)
          refine bj_iconst (v := 1) dX10_knows_53 (by decide) ?_
          refine bj_iadd dX10_knows_54 ?_
          refine bj_putI (ci := 11) (k := 48) (C := RX10) (T := TX10) (N := 49) rfl hi_X10_knows_X10 (by decide) rfl fl_X10_knows_221 (Or.inl rfl) tyX10 tyX10_ok nmX10 rfl (Or.inl rfl) dX10_knows_55 (fun σ27 h28 => ?_)
          refine bj_sub (lv' := [(0, .ref this), (1, .int x1)]) [0, 1] rfl ?_
          exact j_X10_knows_b58 X N (f_X10_knows_b7 N n) ih this x1 σ27
        · refine bj_iconst (v := 0) dX10_knows_36 (by decide) ?_
          exact bj_zret dX10_knows_37
      · refine bj_goto (tgt := 58) dX10_knows_24 (by decide) ?_
        refine bj_sub (lv' := [(0, .ref this), (1, .int x1)]) [0, 1] rfl ?_
        exact j_X10_knows_b58 X N (f_X10_knows_b7 N n) ih this x1 σ
def f_X10_knows (N : Nat) (this : Nat) (σ : bh_S) : Option (Int32 × bh_S) :=
  (bh_wrI σ 11 this 48 0).bind fun σ1 =>
  f_X10_knows_b7 N N this 0 σ1
set_option maxHeartbeats 4000000 in
set_option maxRecDepth 100000 in
theorem c_X10_knows (X : bh_X) (N : Nat) (this : Nat) (σ : bh_S) : bh_MX eI X yX10_knows wsX10_knows 3 63 [.ref this] σ (f_X10_knows N this σ) := by
  refine bh_enter (cc := cX10_knows) (NL := 5) (ret := (some .boolean)) (by decide) rfl (Nat.le_of_ble_eq_true rfl) (fun X => ?_)
  show bh_J eI yX10_knows cX10_knows wsX10_knows (some .boolean) 5 3 63 X σ 0 [(0, .ref this)] [] _
  unfold f_X10_knows
  refine bj_aload_nS dX10_knows_0 rfl 0 rfl ?_
  refine bj_iconst (v := 0) dX10_knows_1 (by decide) ?_
  refine bj_putI (ci := 11) (k := 48) (C := RX10) (T := TX10) (N := 49) rfl hi_X10_knows_X10 (by decide) rfl fl_X10_knows_221 (Or.inl rfl) tyX10 tyX10_ok nmX10 rfl (Or.inl rfl) dX10_knows_2 (fun σ1 h2 => ?_)
  refine bj_iconst (v := 0) dX10_knows_5 (by decide) ?_
  refine bj_istore_n (lv' := [(1, .int 0), (0, .ref this)]) dX10_knows_6 rfl (by decide) rfl ?_
  refine bj_sub (lv' := [(0, .ref this), (1, .int 0)]) [1, 0] rfl ?_
  exact j_X10_knows_b7 X N N this 0 σ1
/-! BeetHouseModel.best()I -/
set_option maxRecDepth 100000 in
theorem g_X10_best_X10_knows_227 : GoodIn wsX10_best (wsV yX10_best.cls 227 RX10 yX10_knows wsX10_knows) := goodIn_r _ [2, 3, 4, 5, 6, 7, 8, 9, 10, 11, 12, 13, 1, 14, 15, 16, 5, 17, 18, 19, 20, 21, 22, 23, 24, 25, 26, 27, 28, 29, 30, 31, 32, 33, 39, 40, 41, 42, 43, 44, 45, 46, 47, 48, 49, 50, 51, 52, 53, 54, 55, 56, 57, 58, 59, 60, 61, 62, 63, 64, 65, 66, 67, 68, 69, 70, 71, 72, 73, 74, 75, 76, 77, 78, 79, 80, 81, 82, 83, 84, 85, 86, 87] rfl (by decide +kernel)
set_option maxRecDepth 100000 in
theorem g_X10_best_X10_refuse_124 : GoodIn wsX10_best (wsV yX10_best.cls 124 RX10 yX10_refuse wsX10_refuse) := goodIn_r _ [34, 35, 36, 5, 37, 38, 39, 40, 41, 42, 43, 44, 45, 46, 47, 48, 49, 50, 51, 52, 53, 54, 55, 56, 57, 58, 59, 60, 61, 62, 63, 64, 65, 66, 67, 68, 69, 70, 71, 72, 73, 74, 75, 76, 77, 78, 79, 80, 81, 82, 83, 84, 85, 86, 87] rfl (by decide +kernel)
theorem hi_X10_best_X10 : ∀ w ∈ u_ws RX10 TX10 49, w ∈ wsX10_best := fun _ h => (List.mem_cons_of_mem _ (List.mem_append_right _ h))
set_option maxRecDepth 100000 in
theorem fl_X10_best_117 : bh_fl wsX10_best yX10_best.cls 117 "BeetHouseModel" "least" "[I" := Or.inl (List.mem_of_getElem? (i := 1) rfl)
def f_X10_best (N : Nat) (this : Nat) (σ : bh_S) : Option (Int32 × bh_S) :=
  (bh_ck σ this 11).bind fun _ =>
  bh_bnd (f_X10_knows N this σ) fun v2 σ3 =>
  if v2 = 0 then
    (bh_ck σ3 this 11).bind fun _ =>
    bh_bnd (f_X10_refuse this (-3) σ3) fun v7 σ8 =>
    some (v7, σ8)
  else
    (bh_rdR σ3 11 this 47).bind fun v10 =>
    (v10).bind fun a12 =>
    (bh_ldI σ3 12 a12 0).bind fun v14 =>
    some (v14, σ3)
set_option maxHeartbeats 4000000 in
set_option maxRecDepth 100000 in
theorem c_X10_best (X : bh_X) (N : Nat) (this : Nat) (σ : bh_S) : bh_MX eI X yX10_best wsX10_best 4 87 [.ref this] σ (f_X10_best N this σ) := by
  refine bh_enter (cc := cX10_best) (NL := 1) (ret := (some .int)) (by decide) rfl (Nat.le_of_ble_eq_true rfl) (fun X => ?_)
  show bh_J eI yX10_best cX10_best wsX10_best (some .int) 1 4 87 X σ 0 [(0, .ref this)] [] _
  unfold f_X10_best
  refine bj_aload_nS dX10_best_0 rfl 0 rfl ?_
  refine bj_op (fun _ h1 => ?_)
  refine bj_callI (br_V (As := []) (rest := []) (q := (RX10, TX10, 49)) (c_X10_knows X N this σ) rfl g_X10_best_X10_knows_227 rfl (bh_ck_spec h1) ⟨rfl, hd_X10_knows⟩ rfl ⟨by decide, by decide⟩ rfl (Nat.le_of_ble_eq_true rfl) dX10_best_1) (fun v2 σ3 h4 => ?_)
  refine bj_if_eq (tgt := 16) dX10_best_4 (by decide) (fun h5 => ?_) (fun h5 => ?_)
  · refine bj_aload_nS dX10_best_16 rfl 0 rfl ?_
    refine bj_bipush (v := (-3)) dX10_best_17 (by decide) ?_
    refine bj_op (fun _ h6 => ?_)
    refine bj_callI (br_V (As := [.int (-3)]) (rest := []) (q := (RX10, TX10, 49)) (c_X10_refuse X this (-3) σ3) rfl g_X10_best_X10_refuse_124 rfl (bh_ck_spec h6) ⟨rfl, hd_X10_refuse⟩ rfl ⟨by decide, by decide⟩ rfl (Nat.le_of_ble_eq_true rfl) dX10_best_19) (fun v7 σ8 h9 => ?_)
    exact bj_iret dX10_best_22
  · refine bj_aload_nS dX10_best_7 rfl 0 rfl ?_
    refine bj_getR (ci := 11) (k := 47) (C := RX10) (T := TX10) (N := 49) rfl hi_X10_best_X10 (by decide) rfl fl_X10_best_117 (Or.inl rfl) dX10_best_8 (fun v10 h11 => ?_)
    refine bj_iconst (v := 0) dX10_best_11 (by decide) ?_
    refine bj_nn (fun a12 h13 => ?_)
    subst h13
    refine bj_iald dX10_best_12 (fun v14 h15 => ?_)
    refine bj_goto (tgt := 22) dX10_best_13 (by decide) ?_
    exact bj_iret dX10_best_22
/-! BeetHouseModel.order(I)I -/
set_option maxRecDepth 100000 in
theorem g_X10_order_X10_knows_227 : GoodIn wsX10_order (wsV yX10_order.cls 227 RX10 yX10_knows wsX10_knows) := goodIn_r _ [4, 5, 6, 7, 8, 1, 9, 10, 3, 11, 12, 13, 2, 14, 15, 16, 7, 17, 18, 19, 20, 21, 22, 23, 24, 25, 26, 27, 28, 29, 30, 31, 32, 33, 42, 43, 44, 45, 46, 47, 48, 49, 50, 51, 52, 53, 54, 55, 56, 57, 58, 59, 60, 61, 62, 63, 64, 65, 66, 67, 68, 69, 70, 71, 72, 73, 74, 75, 76, 77, 78, 79, 80, 81, 82, 83, 84, 85, 86, 87, 88, 89, 90] rfl (by decide +kernel)
theorem hi_X10_order_X10 : ∀ w ∈ u_ws RX10 TX10 49, w ∈ wsX10_order := fun _ h => (List.mem_cons_of_mem _ (List.mem_append_right _ h))
set_option maxRecDepth 100000 in
theorem fl_X10_order_221 : bh_fl wsX10_order yX10_order.cls 221 "BeetHouseModel" "heaps" "I" := Or.inl (List.mem_of_getElem? (i := 1) rfl)
set_option maxRecDepth 100000 in
theorem g_X10_order_X10_isIn_120 : GoodIn wsX10_order (va_wsS yX10_order.cls 120 yX10_isIn wsX10_isIn) := goodIn_r _ [39, 40, 7, 41] rfl (by decide +kernel)
set_option maxRecDepth 100000 in
theorem g_X10_order_X10_refuse_124 : GoodIn wsX10_order (wsV yX10_order.cls 124 RX10 yX10_refuse wsX10_refuse) := goodIn_r _ [34, 35, 36, 7, 37, 38, 42, 43, 44, 45, 46, 47, 48, 49, 50, 51, 52, 53, 54, 55, 56, 57, 58, 59, 60, 61, 62, 63, 64, 65, 66, 67, 68, 69, 70, 71, 72, 73, 74, 75, 76, 77, 78, 79, 80, 81, 82, 83, 84, 85, 86, 87, 88, 89, 90] rfl (by decide +kernel)
set_option maxRecDepth 100000 in
theorem g_X10_order_X10_lies_224 : GoodIn wsX10_order (wsV yX10_order.cls 224 RX10 yX10_lies wsX10_lies) := goodIn_r _ [14, 15, 16, 7, 17, 18, 1, 13, 3, 19, 20, 21, 22, 7, 23, 24, 25, 26, 27, 28, 29, 30, 31, 32, 33, 42, 43, 44, 45, 46, 47, 48, 49, 50, 51, 52, 53, 54, 55, 56, 57, 58, 59, 60, 61, 62, 63, 64, 65, 66, 67, 68, 69, 70, 71, 72, 73, 74, 75, 76, 77, 78, 79, 80, 81, 82, 83, 84, 85, 86, 87, 88, 89, 90] rfl (by decide +kernel)
set_option maxRecDepth 100000 in
theorem fl_X10_order_117 : bh_fl wsX10_order yX10_order.cls 117 "BeetHouseModel" "least" "[I" := Or.inl (List.mem_of_getElem? (i := 2) rfl)
set_option maxRecDepth 100000 in
theorem fl_X10_order_111 : bh_fl wsX10_order yX10_order.cls 111 "BeetHouseModel" "heap" "[I" := Or.inl (List.mem_of_getElem? (i := 3) rfl)
def f_X10_order_b83 (N : Nat) (k36 : Nat → Int32 → Int32 → Int32 → Int32 → bh_S → Option (Int32 × bh_S)) (k45 : Nat → Int32 → Int32 → Int32 → Int32 → bh_S → Option (Int32 × bh_S)) (this : Nat) (x1 : Int32) (x2 : Int32) (x4 : Int32) (x5 : Int32) (σ : bh_S) : Option (Int32 × bh_S) :=
  k45 this x1 x2 x4 (x5 + 1) σ
set_option maxHeartbeats 4000000 in
set_option maxRecDepth 100000 in
theorem j_X10_order_b83 (X : bh_X) (N : Nat) (k36 : Nat → Int32 → Int32 → Int32 → Int32 → bh_S → Option (Int32 × bh_S)) (hk36 : ∀ (this : Nat) (x1 : Int32) (x2 : Int32) (x3 : Int32) (x4 : Int32) (σ : bh_S), bh_J eI yX10_order cX10_order wsX10_order (some .int) 6 4 87 X σ 36 [(0, .ref this), (1, .int x1), (2, .int x2), (3, .int x3), (4, .int x4)] [] (k36 this x1 x2 x3 x4 σ)) (k45 : Nat → Int32 → Int32 → Int32 → Int32 → bh_S → Option (Int32 × bh_S)) (hk45 : ∀ (this : Nat) (x1 : Int32) (x2 : Int32) (x4 : Int32) (x5 : Int32) (σ : bh_S), bh_J eI yX10_order cX10_order wsX10_order (some .int) 6 4 87 X σ 45 [(0, .ref this), (1, .int x1), (2, .int x2), (4, .int x4), (5, .int x5)] [] (k45 this x1 x2 x4 x5 σ)) (this : Nat) (x1 : Int32) (x2 : Int32) (x4 : Int32) (x5 : Int32) (σ : bh_S) : bh_J eI yX10_order cX10_order wsX10_order (some .int) 6 4 87 X σ 83 [(0, .ref this), (1, .int x1), (2, .int x2), (4, .int x4), (5, .int x5)] [] (f_X10_order_b83 N k36 k45 this x1 x2 x4 x5 σ) := by
  unfold f_X10_order_b83
  refine bj_iinc (v := x5 + 1) (lv' := [(5, .int (x5 + 1)), (0, .ref this), (1, .int x1), (2, .int x2), (4, .int x4)]) dX10_order_83 4 rfl rfl (by decide) rfl ?_
  refine bj_goto (tgt := 45) dX10_order_86 (by decide) ?_
  refine bj_sub (lv' := [(0, .ref this), (1, .int x1), (2, .int x2), (4, .int x4), (5, .int (x5 + 1))]) [1, 2, 3, 4, 0] rfl ?_
  exact hk45 this x1 x2 x4 (x5 + 1) σ
def f_X10_order_b45 (N : Nat) (k36 : Nat → Int32 → Int32 → Int32 → Int32 → bh_S → Option (Int32 × bh_S)) : Nat → Nat → Int32 → Int32 → Int32 → Int32 → bh_S → Option (Int32 × bh_S)
  | 0, _, _, _, _, _, _ => none
  | n + 1, this, x1, x2, x4, x5, σ =>
    if ((x2 >>> (x5 &&& 31)) &&& 1) = 1 then
      f_X10_order_b83 N k36 (f_X10_order_b45 N k36 n) this x1 x2 x4 x5 σ
    else
      (bh_ck σ this 11).bind fun _ =>
      bh_bnd (f_X10_lies N this x2 x5 σ) fun v3 σ4 =>
      (bh_rdR σ4 11 this 47).bind fun v6 =>
      (v6).bind fun a8 =>
      (bh_ldI σ4 12 a8 (x2 ||| (1 <<< (x5 &&& 31)))).bind fun v10 =>
      (bh_rdR σ4 11 this 47).bind fun v12 =>
      (v12).bind fun a14 =>
      (bh_ldI σ4 12 a14 x2).bind fun v16 =>
      if (v3 + v10) = v16 then
        (bh_rdR σ4 11 this 45).bind fun v19 =>
        (v19).bind fun a21 =>
        (bh_ldI σ4 12 a21 x5).bind fun v23 =>
        k36 this x1 (x2 ||| (1 <<< (x5 &&& 31))) v23 (x4 + 1) σ4
      else
        f_X10_order_b83 N k36 (f_X10_order_b45 N k36 n) this x1 x2 x4 x5 σ4
set_option maxHeartbeats 4000000 in
set_option maxRecDepth 100000 in
theorem j_X10_order_b45 (X : bh_X) (N : Nat) (k36 : Nat → Int32 → Int32 → Int32 → Int32 → bh_S → Option (Int32 × bh_S)) (hk36 : ∀ (this : Nat) (x1 : Int32) (x2 : Int32) (x3 : Int32) (x4 : Int32) (σ : bh_S), bh_J eI yX10_order cX10_order wsX10_order (some .int) 6 4 87 X σ 36 [(0, .ref this), (1, .int x1), (2, .int x2), (3, .int x3), (4, .int x4)] [] (k36 this x1 x2 x3 x4 σ)) : ∀ (n : Nat) (this : Nat) (x1 : Int32) (x2 : Int32) (x4 : Int32) (x5 : Int32) (σ : bh_S), bh_J eI yX10_order cX10_order wsX10_order (some .int) 6 4 87 X σ 45 [(0, .ref this), (1, .int x1), (2, .int x2), (4, .int x4), (5, .int x5)] [] (f_X10_order_b45 N k36 n this x1 x2 x4 x5 σ) := by
  intro n
  induction n with
  | zero => intro this x1 x2 x4 x5 σ; exact bj_none
  | succ n ih =>
    intro this x1 x2 x4 x5 σ
    unfold f_X10_order_b45
    refine bj_iload_n dX10_order_45 rfl 2 rfl ?_
    refine bj_iload dX10_order_46 4 rfl ?_
    refine bj_ishr dX10_order_48 ?_
    refine bj_iconst (v := 1) dX10_order_49 (by decide) ?_
    refine bj_iand dX10_order_50 ?_
    refine bj_iconst (v := 1) dX10_order_51 (by decide) ?_
    refine bj_icmp_eq (tgt := 83) dX10_order_52 (by decide) (fun h1 => ?_) (fun h1 => ?_)
    · refine bj_sub (lv' := [(0, .ref this), (1, .int x1), (2, .int x2), (4, .int x4), (5, .int x5)]) [0, 1, 2, 3, 4] rfl ?_
      exact j_X10_order_b83 X N k36 hk36 (f_X10_order_b45 N k36 n) ih this x1 x2 x4 x5 σ
    · refine bj_aload_nS dX10_order_55 rfl 0 rfl ?_
      refine bj_iload_n dX10_order_56 rfl 2 rfl ?_
      refine bj_iload dX10_order_57 4 rfl ?_
      refine bj_op (fun _ h2 => ?_)
      refine bj_callI (br_V (As := [.int x2, .int x5]) (rest := []) (q := (RX10, TX10, 49)) (c_X10_lies X N this x2 x5 σ) rfl g_X10_order_X10_lies_224 rfl (bh_ck_spec h2) ⟨rfl, hd_X10_lies⟩ rfl ⟨by decide, by decide⟩ rfl (Nat.le_of_ble_eq_true rfl) dX10_order_59) (fun v3 σ4 h5 => ?_)
      refine bj_aload_nS dX10_order_62 rfl 0 rfl ?_
      refine bj_getR (ci := 11) (k := 47) (C := RX10) (T := TX10) (N := 49) rfl hi_X10_order_X10 (by decide) rfl fl_X10_order_117 (Or.inl rfl) dX10_order_63 (fun v6 h7 => ?_)
      refine bj_iload_n dX10_order_66 rfl 2 rfl ?_
      refine bj_iconst (v := 1) dX10_order_67 (by decide) ?_
      refine bj_iload dX10_order_68 4 rfl ?_
      refine bj_ishl dX10_order_70 ?_
      refine bj_ior dX10_order_71 ?_
      refine bj_nn (fun a8 h9 => ?_)
      subst h9
      refine bj_iald dX10_order_72 (fun v10 h11 => ?_)
      refine bj_iadd dX10_order_73 ?_
      refine bj_aload_nS dX10_order_74 rfl 0 rfl ?_
      refine bj_getR (ci := 11) (k := 47) (C := RX10) (T := TX10) (N := 49) rfl hi_X10_order_X10 (by decide) rfl fl_X10_order_117 (Or.inl rfl) dX10_order_75 (fun v12 h13 => ?_)
      refine bj_iload_n dX10_order_78 rfl 2 rfl ?_
      refine bj_nn (fun a14 h15 => ?_)
      subst h15
      refine bj_iald dX10_order_79 (fun v16 h17 => ?_)
      refine bj_icmp_eq (tgt := 89) dX10_order_80 (by decide) (fun h18 => ?_) (fun h18 => ?_)
      · refine bj_aload_nS dX10_order_89 rfl 0 rfl ?_
        refine bj_getR (ci := 11) (k := 45) (C := RX10) (T := TX10) (N := 49) rfl hi_X10_order_X10 (by decide) rfl fl_X10_order_111 (Or.inl rfl) dX10_order_90 (fun v19 h20 => ?_)
        refine bj_iload dX10_order_93 4 rfl ?_
        refine bj_nn (fun a21 h22 => ?_)
        subst h22
        refine bj_iald dX10_order_95 (fun v23 h24 => ?_)
        refine bj_istore_n (lv' := [(3, .int v23), (0, .ref this), (1, .int x1), (2, .int x2), (4, .int x4), (5, .int x5)]) dX10_order_96 rfl (by decide) rfl ?_
        refine bj_iload_n dX10_order_97 rfl 3 rfl ?_
        refine bj_iconst (v := 1) dX10_order_98 (by decide) ?_
        refine bj_iload dX10_order_99 5 rfl ?_
        refine bj_ishl dX10_order_101 ?_
        refine bj_ior dX10_order_102 ?_
        refine bj_istore_n (lv' := [(2, .int (x2 ||| (1 <<< (x5 &&& 31)))), (3, .int v23), (0, .ref this), (1, .int x1), (4, .int x4), (5, .int x5)]) dX10_order_103 rfl (by decide) rfl ?_
        refine bj_iinc (v := x4 + 1) (lv' := [(4, .int (x4 + 1)), (2, .int (x2 ||| (1 <<< (x5 &&& 31)))), (3, .int v23), (0, .ref this), (1, .int x1), (5, .int x5)]) dX10_order_104 4 rfl rfl (by decide) rfl ?_
        refine bj_goto (tgt := 36) dX10_order_107 (by decide) ?_
        refine bj_sub (lv' := [(0, .ref this), (1, .int x1), (2, .int (x2 ||| (1 <<< (x5 &&& 31)))), (3, .int v23), (4, .int (x4 + 1))]) [3, 4, 1, 2, 0] rfl ?_
        exact hk36 this x1 (x2 ||| (1 <<< (x5 &&& 31))) v23 (x4 + 1) σ4
      · refine bj_sub (lv' := [(0, .ref this), (1, .int x1), (2, .int x2), (4, .int x4), (5, .int x5)]) [0, 1, 2, 3, 4] rfl ?_
        exact j_X10_order_b83 X N k36 hk36 (f_X10_order_b45 N k36 n) ih this x1 x2 x4 x5 σ4
def f_X10_order_b36 (N : Nat) : Nat → Nat → Int32 → Int32 → Int32 → Int32 → bh_S → Option (Int32 × bh_S)
  | 0, _, _, _, _, _, _ => none
  | n + 1, this, x1, x2, x3, x4, σ =>
    if x1 < x4 then
      some (x3, σ)
    else
      f_X10_order_b45 N (f_X10_order_b36 N n) N this x1 x2 x4 0 σ
set_option maxHeartbeats 4000000 in
set_option maxRecDepth 100000 in
theorem j_X10_order_b36 (X : bh_X) (N : Nat) : ∀ (n : Nat) (this : Nat) (x1 : Int32) (x2 : Int32) (x3 : Int32) (x4 : Int32) (σ : bh_S), bh_J eI yX10_order cX10_order wsX10_order (some .int) 6 4 87 X σ 36 [(0, .ref this), (1, .int x1), (2, .int x2), (3, .int x3), (4, .int x4)] [] (f_X10_order_b36 N n this x1 x2 x3 x4 σ) := by
  intro n
  induction n with
  | zero => intro this x1 x2 x3 x4 σ; exact bj_none
  | succ n ih =>
    intro this x1 x2 x3 x4 σ
    unfold f_X10_order_b36
    refine bj_iload dX10_order_36 4 rfl ?_
    refine bj_iload_n dX10_order_38 rfl 1 rfl ?_
    refine bj_icmp_gt (tgt := 110) dX10_order_39 (by decide) (fun h1 => ?_) (fun h1 => ?_)
    · refine bj_iload_n dX10_order_110 rfl 3 rfl ?_
      exact bj_iret dX10_order_111
    · refine bj_iconst (v := 0) dX10_order_42 (by decide) ?_
      refine bj_istore (lv' := [(5, .int 0), (0, .ref this), (1, .int x1), (2, .int x2), (3, .int x3), (4, .int x4)]) dX10_order_43 (by decide) rfl ?_
      refine bj_sub (lv' := [(0, .ref this), (1, .int x1), (2, .int x2), (4, .int x4), (5, .int 0)]) [1, 2, 3, 5, 0] rfl ?_
      exact j_X10_order_b45 X N (f_X10_order_b36 N n) ih N this x1 x2 x4 0 σ
def f_X10_order (N : Nat) (this : Nat) (p1 : Int32) (σ : bh_S) : Option (Int32 × bh_S) :=
  (bh_ck σ this 11).bind fun _ =>
  bh_bnd (f_X10_knows N this σ) fun v2 σ3 =>
  if v2 = 0 then
    (bh_ck σ3 this 11).bind fun _ =>
    bh_bnd (f_X10_refuse this (-3) σ3) fun v13 σ14 =>
    some (v13, σ14)
  else
    (bh_rdI σ3 11 this 48).bind fun v6 =>
    bh_bnd (f_X10_isIn p1 v6 σ3) fun v8 σ9 =>
    if v8 = 0 then
      some ((-9), σ9)
    else
      f_X10_order_b36 N N this p1 0 (-9) 0 σ9
set_option maxHeartbeats 4000000 in
set_option maxRecDepth 100000 in
theorem c_X10_order (X : bh_X) (N : Nat) (this : Nat) (p1 : Int32) (σ : bh_S) : bh_MX eI X yX10_order wsX10_order 4 87 [.ref this, .int p1] σ (f_X10_order N this p1 σ) := by
  refine bh_enter (cc := cX10_order) (NL := 6) (ret := (some .int)) (by decide) rfl (Nat.le_of_ble_eq_true rfl) (fun X => ?_)
  show bh_J eI yX10_order cX10_order wsX10_order (some .int) 6 4 87 X σ 0 [(0, .ref this), (1, .int p1)] [] _
  unfold f_X10_order
  refine bj_aload_nS dX10_order_0 rfl 0 rfl ?_
  refine bj_op (fun _ h1 => ?_)
  refine bj_callI (br_V (As := []) (rest := []) (q := (RX10, TX10, 49)) (c_X10_knows X N this σ) rfl g_X10_order_X10_knows_227 rfl (bh_ck_spec h1) ⟨rfl, hd_X10_knows⟩ rfl ⟨by decide, by decide⟩ rfl (Nat.le_of_ble_eq_true rfl) dX10_order_1) (fun v2 σ3 h4 => ?_)
  refine bj_if_ne (tgt := 14) dX10_order_4 (by decide) (fun h5 => ?_) (fun h5 => ?_)
  · refine bj_iload_n dX10_order_14 rfl 1 rfl ?_
    refine bj_aload_nS dX10_order_15 rfl 0 rfl ?_
    refine bj_getI (ci := 11) (k := 48) (C := RX10) (T := TX10) (N := 49) rfl hi_X10_order_X10 (by decide) rfl fl_X10_order_221 (Or.inl rfl) dX10_order_16 (fun v6 h7 => ?_)
    refine bj_callI (br_S (As := [.int p1, .int v6]) (rest := []) (c_X10_isIn X p1 v6 σ3) rfl g_X10_order_X10_isIn_120 hd_X10_isIn rfl ⟨by decide, by decide⟩ rfl (Nat.le_of_ble_eq_true rfl) dX10_order_19) (fun v8 σ9 h10 => ?_)
    refine bj_if_ne (tgt := 28) dX10_order_22 (by decide) (fun h11 => ?_) (fun h11 => ?_)
    · refine bj_iconst (v := 0) dX10_order_28 (by decide) ?_
      refine bj_istore_n (lv' := [(2, .int 0), (0, .ref this), (1, .int p1)]) dX10_order_29 rfl (by decide) rfl ?_
      refine bj_bipush (v := (-9)) dX10_order_30 (by decide) ?_
      refine bj_istore_n (lv' := [(3, .int (-9)), (2, .int 0), (0, .ref this), (1, .int p1)]) dX10_order_32 rfl (by decide) rfl ?_
      refine bj_iconst (v := 0) dX10_order_33 (by decide) ?_
      refine bj_istore (lv' := [(4, .int 0), (3, .int (-9)), (2, .int 0), (0, .ref this), (1, .int p1)]) dX10_order_34 (by decide) rfl ?_
      refine bj_sub (lv' := [(0, .ref this), (1, .int p1), (2, .int 0), (3, .int (-9)), (4, .int 0)]) [3, 4, 2, 1, 0] rfl ?_
      exact j_X10_order_b36 X N N this p1 0 (-9) 0 σ9
    · refine bj_bipush (v := (-9)) dX10_order_25 (by decide) ?_
      exact bj_iret dX10_order_27
  · refine bj_aload_nS dX10_order_7 rfl 0 rfl ?_
    refine bj_bipush (v := (-3)) dX10_order_8 (by decide) ?_
    refine bj_op (fun _ h12 => ?_)
    refine bj_callI (br_V (As := [.int (-3)]) (rest := []) (q := (RX10, TX10, 49)) (c_X10_refuse X this (-3) σ3) rfl g_X10_order_X10_refuse_124 rfl (bh_ck_spec h12) ⟨rfl, hd_X10_refuse⟩ rfl ⟨by decide, by decide⟩ rfl (Nat.le_of_ble_eq_true rfl) dX10_order_10) (fun v13 σ14 h15 => ?_)
    exact bj_iret dX10_order_13
/-! BeetHouseModel.fieldOf(II)I -/
set_option maxRecDepth 100000 in
theorem g_X10_fieldOf_X10_isField_134 : GoodIn wsX10_fieldOf (wsV yX10_fieldOf.cls 134 RX10 yX10_isField wsX10_isField) := goodIn_r _ [14, 15, 16, 17, 18, 19, 20, 21, 17, 22, 28, 29, 30, 31, 32, 33, 34, 35, 36, 37, 38, 39, 40, 41, 42, 43, 44, 45, 46, 47, 48, 49, 50, 51, 52, 53, 54, 55, 56, 57, 58, 59, 60, 61, 62, 63, 64, 65, 66, 67, 68, 69, 70, 71, 72, 73, 74, 75, 76] rfl (by decide +kernel)
theorem hi_X10_fieldOf_X10 : ∀ w ∈ u_ws RX10 TX10 49, w ∈ wsX10_fieldOf := fun _ h => (List.mem_cons_of_mem _ (List.mem_append_right _ h))
set_option maxRecDepth 100000 in
theorem fl_X10_fieldOf_35 : bh_fl wsX10_fieldOf yX10_fieldOf.cls 35 "BeetHouseModel" "ground" "[I" := Or.inl (List.mem_of_getElem? (i := 1) rfl)
set_option maxRecDepth 100000 in
theorem fl_X10_fieldOf_44 : bh_fl wsX10_fieldOf yX10_fieldOf.cls 44 "BeetHouseModel" "roots" "[I" := Or.inl (List.mem_of_getElem? (i := 2) rfl)
set_option maxRecDepth 100000 in
theorem fl_X10_fieldOf_47 : bh_fl wsX10_fieldOf yX10_fieldOf.cls 47 "BeetHouseModel" "sugar" "[I" := Or.inl (List.mem_of_getElem? (i := 3) rfl)
set_option maxRecDepth 100000 in
theorem fl_X10_fieldOf_66 : bh_fl wsX10_fieldOf yX10_fieldOf.cls 66 "BeetHouseModel" "covered" "[Z" := Or.inl (List.mem_of_getElem? (i := 4) rfl)
set_option maxRecDepth 100000 in
theorem fl_X10_fieldOf_69 : bh_fl wsX10_fieldOf yX10_fieldOf.cls 69 "BeetHouseModel" "frozen" "[Z" := Or.inl (List.mem_of_getElem? (i := 5) rfl)
set_option maxRecDepth 100000 in
theorem fl_X10_fieldOf_50 : bh_fl wsX10_fieldOf yX10_fieldOf.cls 50 "BeetHouseModel" "thawed" "[I" := Or.inl (List.mem_of_getElem? (i := 6) rfl)
set_option maxRecDepth 100000 in
theorem fl_X10_fieldOf_53 : bh_fl wsX10_fieldOf yX10_fieldOf.cls 53 "BeetHouseModel" "waste" "[I" := Or.inl (List.mem_of_getElem? (i := 7) rfl)
set_option maxRecDepth 100000 in
theorem fl_X10_fieldOf_56 : bh_fl wsX10_fieldOf yX10_fieldOf.cls 56 "BeetHouseModel" "gone" "[I" := Or.inl (List.mem_of_getElem? (i := 8) rfl)
set_option maxRecDepth 100000 in
theorem fl_X10_fieldOf_59 : bh_fl wsX10_fieldOf yX10_fieldOf.cls 59 "BeetHouseModel" "came" "[I" := Or.inl (List.mem_of_getElem? (i := 9) rfl)
set_option maxRecDepth 100000 in
theorem fl_X10_fieldOf_32 : bh_fl wsX10_fieldOf yX10_fieldOf.cls 32 "BeetHouseModel" "farmer" "[I" := Or.inl (List.mem_of_getElem? (i := 10) rfl)
set_option maxRecDepth 100000 in
theorem g_X10_fieldOf_X10_refuse_124 : GoodIn wsX10_fieldOf (wsV yX10_fieldOf.cls 124 RX10 yX10_refuse wsX10_refuse) := goodIn_r _ [23, 24, 25, 17, 26, 27, 28, 29, 30, 31, 32, 33, 34, 35, 36, 37, 38, 39, 40, 41, 42, 43, 44, 45, 46, 47, 48, 49, 50, 51, 52, 53, 54, 55, 56, 57, 58, 59, 60, 61, 62, 63, 64, 65, 66, 67, 68, 69, 70, 71, 72, 73, 74, 75, 76] rfl (by decide +kernel)
set_option maxRecDepth 100000 in
theorem fl_X10_fieldOf_131 : bh_fl wsX10_fieldOf yX10_fieldOf.cls 131 "BeetHouseModel" "lorries" "I" := Or.inl (List.mem_of_getElem? (i := 11) rfl)
set_option maxRecDepth 100000 in
theorem fl_X10_fieldOf_81 : bh_fl wsX10_fieldOf yX10_fieldOf.cls 81 "BeetHouseModel" "does" "[I" := Or.inl (List.mem_of_getElem? (i := 12) rfl)
set_option maxRecDepth 100000 in
theorem fl_X10_fieldOf_84 : bh_fl wsX10_fieldOf yX10_fieldOf.cls 84 "BeetHouseModel" "to" "[I" := Or.inl (List.mem_of_getElem? (i := 13) rfl)
def f_X10_fieldOf_b202 (N : Nat) (k165 : Nat → Int32 → Int32 → Int32 → bh_S → Option (Int32 × bh_S)) (this : Nat) (x1 : Int32) (x4 : Int32) (t0 : Int32) (t1 : Int32) (σ : bh_S) : Option (Int32 × bh_S) :=
  k165 this x1 (t1 + t0) (x4 + 1) σ
set_option maxHeartbeats 4000000 in
set_option maxRecDepth 100000 in
theorem j_X10_fieldOf_b202 (X : bh_X) (N : Nat) (k165 : Nat → Int32 → Int32 → Int32 → bh_S → Option (Int32 × bh_S)) (hk165 : ∀ (this : Nat) (x1 : Int32) (x3 : Int32) (x4 : Int32) (σ : bh_S), bh_J eI yX10_fieldOf cX10_fieldOf wsX10_fieldOf (some .int) 5 2 42 X σ 165 [(0, .ref this), (1, .int x1), (3, .int x3), (4, .int x4)] [] (k165 this x1 x3 x4 σ)) (this : Nat) (x1 : Int32) (x4 : Int32) (t0 : Int32) (t1 : Int32) (σ : bh_S) : bh_J eI yX10_fieldOf cX10_fieldOf wsX10_fieldOf (some .int) 5 2 42 X σ 202 [(0, .ref this), (1, .int x1), (4, .int x4)] [.int t0, .int t1] (f_X10_fieldOf_b202 N k165 this x1 x4 t0 t1 σ) := by
  unfold f_X10_fieldOf_b202
  refine bj_iadd dX10_fieldOf_202 ?_
  refine bj_istore_n (lv' := [(3, .int (t1 + t0)), (0, .ref this), (1, .int x1), (4, .int x4)]) dX10_fieldOf_203 rfl (by decide) rfl ?_
  refine bj_iinc (v := x4 + 1) (lv' := [(4, .int (x4 + 1)), (3, .int (t1 + t0)), (0, .ref this), (1, .int x1)]) dX10_fieldOf_204 3 rfl rfl (by decide) rfl ?_
  refine bj_goto (tgt := 165) dX10_fieldOf_207 (by decide) ?_
  refine bj_sub (lv' := [(0, .ref this), (1, .int x1), (3, .int (t1 + t0)), (4, .int (x4 + 1))]) [2, 3, 1, 0] rfl ?_
  exact hk165 this x1 (t1 + t0) (x4 + 1) σ
def f_X10_fieldOf_b201 (N : Nat) (k165 : Nat → Int32 → Int32 → Int32 → bh_S → Option (Int32 × bh_S)) (this : Nat) (x1 : Int32) (x4 : Int32) (t0 : Int32) (σ : bh_S) : Option (Int32 × bh_S) :=
  f_X10_fieldOf_b202 N k165 this x1 x4 0 t0 σ
set_option maxHeartbeats 4000000 in
set_option maxRecDepth 100000 in
theorem j_X10_fieldOf_b201 (X : bh_X) (N : Nat) (k165 : Nat → Int32 → Int32 → Int32 → bh_S → Option (Int32 × bh_S)) (hk165 : ∀ (this : Nat) (x1 : Int32) (x3 : Int32) (x4 : Int32) (σ : bh_S), bh_J eI yX10_fieldOf cX10_fieldOf wsX10_fieldOf (some .int) 5 2 42 X σ 165 [(0, .ref this), (1, .int x1), (3, .int x3), (4, .int x4)] [] (k165 this x1 x3 x4 σ)) (this : Nat) (x1 : Int32) (x4 : Int32) (t0 : Int32) (σ : bh_S) : bh_J eI yX10_fieldOf cX10_fieldOf wsX10_fieldOf (some .int) 5 2 42 X σ 201 [(0, .ref this), (1, .int x1), (4, .int x4)] [.int t0] (f_X10_fieldOf_b201 N k165 this x1 x4 t0 σ) := by
  unfold f_X10_fieldOf_b201
  refine bj_iconst (v := 0) dX10_fieldOf_201 (by decide) ?_
  refine bj_sub (lv' := [(0, .ref this), (1, .int x1), (4, .int x4)]) [0, 1, 2] rfl ?_
  exact j_X10_fieldOf_b202 X N k165 hk165 this x1 x4 0 t0 σ
def f_X10_fieldOf_b165 (N : Nat) : Nat → Nat → Int32 → Int32 → Int32 → bh_S → Option (Int32 × bh_S)
  | 0, _, _, _, _, _ => none
  | n + 1, this, x1, x3, x4, σ =>
    (bh_rdI σ 11 this 8).bind fun v1 =>
    if v1 ≤ x4 then
      some (x3, σ)
    else
      (bh_rdR σ 11 this 34).bind fun v4 =>
      (v4).bind fun a6 =>
      (bh_ldI σ 12 a6 x4).bind fun v8 =>
      if v8 = 1 then
        (bh_rdR σ 11 this 35).bind fun v11 =>
        (v11).bind fun a13 =>
        (bh_ldI σ 12 a13 x4).bind fun v15 =>
        if v15 = x1 then
          f_X10_fieldOf_b202 N (f_X10_fieldOf_b165 N n) this x1 x4 1 x3 σ
        else
          f_X10_fieldOf_b201 N (f_X10_fieldOf_b165 N n) this x1 x4 x3 σ
      else
        f_X10_fieldOf_b201 N (f_X10_fieldOf_b165 N n) this x1 x4 x3 σ
set_option maxHeartbeats 4000000 in
set_option maxRecDepth 100000 in
theorem j_X10_fieldOf_b165 (X : bh_X) (N : Nat) : ∀ (n : Nat) (this : Nat) (x1 : Int32) (x3 : Int32) (x4 : Int32) (σ : bh_S), bh_J eI yX10_fieldOf cX10_fieldOf wsX10_fieldOf (some .int) 5 2 42 X σ 165 [(0, .ref this), (1, .int x1), (3, .int x3), (4, .int x4)] [] (f_X10_fieldOf_b165 N n this x1 x3 x4 σ) := by
  intro n
  induction n with
  | zero => intro this x1 x3 x4 σ; exact bj_none
  | succ n ih =>
    intro this x1 x3 x4 σ
    unfold f_X10_fieldOf_b165
    refine bj_iload dX10_fieldOf_165 3 rfl ?_
    refine bj_aload_nS dX10_fieldOf_167 rfl 0 rfl ?_
    refine bj_getI (ci := 11) (k := 8) (C := RX10) (T := TX10) (N := 49) rfl hi_X10_fieldOf_X10 (by decide) rfl fl_X10_fieldOf_131 (Or.inl rfl) dX10_fieldOf_168 (fun v1 h2 => ?_)
    refine bj_icmp_ge (tgt := 210) dX10_fieldOf_171 (by decide) (fun h3 => ?_) (fun h3 => ?_)
    · refine bj_iload_n dX10_fieldOf_210 rfl 2 rfl ?_
      exact bj_iret dX10_fieldOf_211
    · refine bj_iload_n dX10_fieldOf_174 rfl 2 rfl ?_
      refine bj_aload_nS dX10_fieldOf_175 rfl 0 rfl ?_
      refine bj_getR (ci := 11) (k := 34) (C := RX10) (T := TX10) (N := 49) rfl hi_X10_fieldOf_X10 (by decide) rfl fl_X10_fieldOf_81 (Or.inl rfl) dX10_fieldOf_176 (fun v4 h5 => ?_)
      refine bj_iload dX10_fieldOf_179 3 rfl ?_
      refine bj_nn (fun a6 h7 => ?_)
      subst h7
      refine bj_iald dX10_fieldOf_181 (fun v8 h9 => ?_)
      refine bj_iconst (v := 1) dX10_fieldOf_182 (by decide) ?_
      refine bj_icmp_ne (tgt := 201) dX10_fieldOf_183 (by decide) (fun h10 => ?_) (fun h10 => ?_)
      · refine bj_sub (lv' := [(0, .ref this), (1, .int x1), (4, .int x4)]) [0, 1, 3] rfl ?_
        exact j_X10_fieldOf_b201 X N (f_X10_fieldOf_b165 N n) ih this x1 x4 x3 σ
      · refine bj_aload_nS dX10_fieldOf_186 rfl 0 rfl ?_
        refine bj_getR (ci := 11) (k := 35) (C := RX10) (T := TX10) (N := 49) rfl hi_X10_fieldOf_X10 (by decide) rfl fl_X10_fieldOf_84 (Or.inl rfl) dX10_fieldOf_187 (fun v11 h12 => ?_)
        refine bj_iload dX10_fieldOf_190 3 rfl ?_
        refine bj_nn (fun a13 h14 => ?_)
        subst h14
        refine bj_iald dX10_fieldOf_192 (fun v15 h16 => ?_)
        refine bj_iload_n dX10_fieldOf_193 rfl 1 rfl ?_
        refine bj_icmp_ne (tgt := 201) dX10_fieldOf_194 (by decide) (fun h17 => ?_) (fun h17 => ?_)
        · refine bj_sub (lv' := [(0, .ref this), (1, .int x1), (4, .int x4)]) [0, 1, 3] rfl ?_
          exact j_X10_fieldOf_b201 X N (f_X10_fieldOf_b165 N n) ih this x1 x4 x3 σ
        · refine bj_iconst (v := 1) dX10_fieldOf_197 (by decide) ?_
          refine bj_goto (tgt := 202) dX10_fieldOf_198 (by decide) ?_
          refine bj_sub (lv' := [(0, .ref this), (1, .int x1), (4, .int x4)]) [0, 1, 3] rfl ?_
          exact j_X10_fieldOf_b202 X N (f_X10_fieldOf_b165 N n) ih this x1 x4 1 x3 σ
def f_X10_fieldOf (N : Nat) (this : Nat) (p1 : Int32) (p2 : Int32) (σ : bh_S) : Option (Int32 × bh_S) :=
  (bh_ck σ this 11).bind fun _ =>
  bh_bnd (f_X10_isField this p1 σ) fun v2 σ3 =>
  if v2 = 0 then
    (bh_ck σ3 this 11).bind fun _ =>
    bh_bnd (f_X10_refuse this (-1) σ3) fun v84 σ85 =>
    some (v84, σ85)
  else
    if p2 = 0 then
      (bh_rdR σ3 11 this 19).bind fun v7 =>
      (v7).bind fun a9 =>
      (bh_ldI σ3 12 a9 p1).bind fun v11 =>
      some (v11, σ3)
    else
    if p2 = 1 then
      (bh_rdR σ3 11 this 22).bind fun v14 =>
      (v14).bind fun a16 =>
      (bh_ldI σ3 12 a16 p1).bind fun v18 =>
      some (v18, σ3)
    else
    if p2 = 2 then
      (bh_rdR σ3 11 this 23).bind fun v21 =>
      (v21).bind fun a23 =>
      (bh_ldI σ3 12 a23 p1).bind fun v25 =>
      some (v25, σ3)
    else
    if p2 = 3 then
      (bh_rdR σ3 11 this 29).bind fun v28 =>
      (v28).bind fun a30 =>
      (bh_ldI σ3 13 a30 p1).bind fun v32 =>
      if v32 = 0 then
        some (0, σ3)
      else
        some (1, σ3)
    else
    if p2 = 4 then
      (bh_rdR σ3 11 this 30).bind fun v36 =>
      (v36).bind fun a38 =>
      (bh_ldI σ3 13 a38 p1).bind fun v40 =>
      if v40 = 0 then
        some (0, σ3)
      else
        some (1, σ3)
    else
    if p2 = 5 then
      (bh_rdR σ3 11 this 24).bind fun v44 =>
      (v44).bind fun a46 =>
      (bh_ldI σ3 12 a46 p1).bind fun v48 =>
      some (v48, σ3)
    else
    if p2 = 6 then
      (bh_rdR σ3 11 this 25).bind fun v51 =>
      (v51).bind fun a53 =>
      (bh_ldI σ3 12 a53 p1).bind fun v55 =>
      some (v55, σ3)
    else
    if p2 = 7 then
      (bh_rdR σ3 11 this 26).bind fun v58 =>
      (v58).bind fun a60 =>
      (bh_ldI σ3 12 a60 p1).bind fun v62 =>
      some (v62, σ3)
    else
    if p2 = 8 then
      (bh_rdR σ3 11 this 27).bind fun v65 =>
      (v65).bind fun a67 =>
      (bh_ldI σ3 12 a67 p1).bind fun v69 =>
      some (v69, σ3)
    else
    if p2 = 9 then
      (bh_rdR σ3 11 this 18).bind fun v72 =>
      (v72).bind fun a74 =>
      (bh_ldI σ3 12 a74 p1).bind fun v76 =>
      some (v76, σ3)
    else
    if p2 = 10 then
      f_X10_fieldOf_b165 N N this p1 0 0 σ3
    else
      (bh_ck σ3 this 11).bind fun _ =>
      bh_bnd (f_X10_refuse this (-2) σ3) fun v80 σ81 =>
      some (v80, σ81)
set_option maxHeartbeats 4000000 in
set_option maxRecDepth 100000 in
theorem c_X10_fieldOf (X : bh_X) (N : Nat) (this : Nat) (p1 : Int32) (p2 : Int32) (σ : bh_S) : bh_MX eI X yX10_fieldOf wsX10_fieldOf 2 42 [.ref this, .int p1, .int p2] σ (f_X10_fieldOf N this p1 p2 σ) := by
  refine bh_enter (cc := cX10_fieldOf) (NL := 5) (ret := (some .int)) (by decide) rfl (Nat.le_of_ble_eq_true rfl) (fun X => ?_)
  show bh_J eI yX10_fieldOf cX10_fieldOf wsX10_fieldOf (some .int) 5 2 42 X σ 0 [(0, .ref this), (1, .int p1), (2, .int p2)] [] _
  unfold f_X10_fieldOf
  refine bj_aload_nS dX10_fieldOf_0 rfl 0 rfl ?_
  refine bj_iload_n dX10_fieldOf_1 rfl 1 rfl ?_
  refine bj_op (fun _ h1 => ?_)
  refine bj_callI (br_V (As := [.int p1]) (rest := []) (q := (RX10, TX10, 49)) (c_X10_isField X this p1 σ) rfl g_X10_fieldOf_X10_isField_134 rfl (bh_ck_spec h1) ⟨rfl, hd_X10_isField⟩ rfl ⟨by decide, by decide⟩ rfl (Nat.le_of_ble_eq_true rfl) dX10_fieldOf_2) (fun v2 σ3 h4 => ?_)
  refine bj_if_ne (tgt := 14) dX10_fieldOf_5 (by decide) (fun h5 => ?_) (fun h5 => ?_)
  · refine bj_iconst (v := 0) dX10_fieldOf_14 (by decide) ?_
    refine bj_istore_n (lv' := [(3, .int 0), (0, .ref this), (1, .int p1), (2, .int p2)]) dX10_fieldOf_15 rfl (by decide) rfl ?_
    refine bj_iload_n dX10_fieldOf_16 rfl 3 rfl ?_
    refine bj_ite (fun h6 => ?_) (fun h6 => ?_)
    · refine bj_tblIn (tgt := 76) (kv := 0) (off := 59) dX10_fieldOf_17 h6 (by decide) (by decide) rfl (by decide) ?_
      refine bj_aload_nS dX10_fieldOf_76 rfl 1 rfl ?_
      refine bj_getR (ci := 11) (k := 19) (C := RX10) (T := TX10) (N := 49) rfl hi_X10_fieldOf_X10 (by decide) rfl fl_X10_fieldOf_35 (Or.inl rfl) dX10_fieldOf_77 (fun v7 h8 => ?_)
      refine bj_iload_n dX10_fieldOf_80 rfl 2 rfl ?_
      refine bj_nn (fun a9 h10 => ?_)
      subst h10
      refine bj_iald dX10_fieldOf_81 (fun v11 h12 => ?_)
      exact bj_iret dX10_fieldOf_82
    refine bj_ite (fun h13 => ?_) (fun h13 => ?_)
    · refine bj_tblIn (tgt := 83) (kv := 1) (off := 66) dX10_fieldOf_17 h13 (by decide) (by decide) rfl (by decide) ?_
      refine bj_aload_nS dX10_fieldOf_83 rfl 1 rfl ?_
      refine bj_getR (ci := 11) (k := 22) (C := RX10) (T := TX10) (N := 49) rfl hi_X10_fieldOf_X10 (by decide) rfl fl_X10_fieldOf_44 (Or.inl rfl) dX10_fieldOf_84 (fun v14 h15 => ?_)
      refine bj_iload_n dX10_fieldOf_87 rfl 2 rfl ?_
      refine bj_nn (fun a16 h17 => ?_)
      subst h17
      refine bj_iald dX10_fieldOf_88 (fun v18 h19 => ?_)
      exact bj_iret dX10_fieldOf_89
    refine bj_ite (fun h20 => ?_) (fun h20 => ?_)
    · refine bj_tblIn (tgt := 90) (kv := 2) (off := 73) dX10_fieldOf_17 h20 (by decide) (by decide) rfl (by decide) ?_
      refine bj_aload_nS dX10_fieldOf_90 rfl 1 rfl ?_
      refine bj_getR (ci := 11) (k := 23) (C := RX10) (T := TX10) (N := 49) rfl hi_X10_fieldOf_X10 (by decide) rfl fl_X10_fieldOf_47 (Or.inl rfl) dX10_fieldOf_91 (fun v21 h22 => ?_)
      refine bj_iload_n dX10_fieldOf_94 rfl 2 rfl ?_
      refine bj_nn (fun a23 h24 => ?_)
      subst h24
      refine bj_iald dX10_fieldOf_95 (fun v25 h26 => ?_)
      exact bj_iret dX10_fieldOf_96
    refine bj_ite (fun h27 => ?_) (fun h27 => ?_)
    · refine bj_tblIn (tgt := 97) (kv := 3) (off := 80) dX10_fieldOf_17 h27 (by decide) (by decide) rfl (by decide) ?_
      refine bj_aload_nS dX10_fieldOf_97 rfl 1 rfl ?_
      refine bj_getR (ci := 11) (k := 29) (C := RX10) (T := TX10) (N := 49) rfl hi_X10_fieldOf_X10 (by decide) rfl fl_X10_fieldOf_66 (Or.inl rfl) dX10_fieldOf_98 (fun v28 h29 => ?_)
      refine bj_iload_n dX10_fieldOf_101 rfl 2 rfl ?_
      refine bj_nn (fun a30 h31 => ?_)
      subst h31
      refine bj_zald dX10_fieldOf_102 (fun v32 h33 => ?_)
      refine bj_if_eq (tgt := 110) dX10_fieldOf_103 (by decide) (fun h34 => ?_) (fun h34 => ?_)
      · refine bj_iconst (v := 0) dX10_fieldOf_110 (by decide) ?_
        exact bj_iret dX10_fieldOf_111
      · refine bj_iconst (v := 1) dX10_fieldOf_106 (by decide) ?_
        refine bj_goto (tgt := 111) dX10_fieldOf_107 (by decide) ?_
        exact bj_iret dX10_fieldOf_111
    refine bj_ite (fun h35 => ?_) (fun h35 => ?_)
    · refine bj_tblIn (tgt := 112) (kv := 4) (off := 95) dX10_fieldOf_17 h35 (by decide) (by decide) rfl (by decide) ?_
      refine bj_aload_nS dX10_fieldOf_112 rfl 1 rfl ?_
      refine bj_getR (ci := 11) (k := 30) (C := RX10) (T := TX10) (N := 49) rfl hi_X10_fieldOf_X10 (by decide) rfl fl_X10_fieldOf_69 (Or.inl rfl) dX10_fieldOf_113 (fun v36 h37 => ?_)
      refine bj_iload_n dX10_fieldOf_116 rfl 2 rfl ?_
      refine bj_nn (fun a38 h39 => ?_)
      subst h39
      refine bj_zald dX10_fieldOf_117 (fun v40 h41 => ?_)
      refine bj_if_eq (tgt := 125) dX10_fieldOf_118 (by decide) (fun h42 => ?_) (fun h42 => ?_)
      · refine bj_iconst (v := 0) dX10_fieldOf_125 (by decide) ?_
        exact bj_iret dX10_fieldOf_126
      · refine bj_iconst (v := 1) dX10_fieldOf_121 (by decide) ?_
        refine bj_goto (tgt := 126) dX10_fieldOf_122 (by decide) ?_
        exact bj_iret dX10_fieldOf_126
    refine bj_ite (fun h43 => ?_) (fun h43 => ?_)
    · refine bj_tblIn (tgt := 127) (kv := 5) (off := 110) dX10_fieldOf_17 h43 (by decide) (by decide) rfl (by decide) ?_
      refine bj_aload_nS dX10_fieldOf_127 rfl 1 rfl ?_
      refine bj_getR (ci := 11) (k := 24) (C := RX10) (T := TX10) (N := 49) rfl hi_X10_fieldOf_X10 (by decide) rfl fl_X10_fieldOf_50 (Or.inl rfl) dX10_fieldOf_128 (fun v44 h45 => ?_)
      refine bj_iload_n dX10_fieldOf_131 rfl 2 rfl ?_
      refine bj_nn (fun a46 h47 => ?_)
      subst h47
      refine bj_iald dX10_fieldOf_132 (fun v48 h49 => ?_)
      exact bj_iret dX10_fieldOf_133
    refine bj_ite (fun h50 => ?_) (fun h50 => ?_)
    · refine bj_tblIn (tgt := 134) (kv := 6) (off := 117) dX10_fieldOf_17 h50 (by decide) (by decide) rfl (by decide) ?_
      refine bj_aload_nS dX10_fieldOf_134 rfl 1 rfl ?_
      refine bj_getR (ci := 11) (k := 25) (C := RX10) (T := TX10) (N := 49) rfl hi_X10_fieldOf_X10 (by decide) rfl fl_X10_fieldOf_53 (Or.inl rfl) dX10_fieldOf_135 (fun v51 h52 => ?_)
      refine bj_iload_n dX10_fieldOf_138 rfl 2 rfl ?_
      refine bj_nn (fun a53 h54 => ?_)
      subst h54
      refine bj_iald dX10_fieldOf_139 (fun v55 h56 => ?_)
      exact bj_iret dX10_fieldOf_140
    refine bj_ite (fun h57 => ?_) (fun h57 => ?_)
    · refine bj_tblIn (tgt := 141) (kv := 7) (off := 124) dX10_fieldOf_17 h57 (by decide) (by decide) rfl (by decide) ?_
      refine bj_aload_nS dX10_fieldOf_141 rfl 1 rfl ?_
      refine bj_getR (ci := 11) (k := 26) (C := RX10) (T := TX10) (N := 49) rfl hi_X10_fieldOf_X10 (by decide) rfl fl_X10_fieldOf_56 (Or.inl rfl) dX10_fieldOf_142 (fun v58 h59 => ?_)
      refine bj_iload_n dX10_fieldOf_145 rfl 2 rfl ?_
      refine bj_nn (fun a60 h61 => ?_)
      subst h61
      refine bj_iald dX10_fieldOf_146 (fun v62 h63 => ?_)
      exact bj_iret dX10_fieldOf_147
    refine bj_ite (fun h64 => ?_) (fun h64 => ?_)
    · refine bj_tblIn (tgt := 148) (kv := 8) (off := 131) dX10_fieldOf_17 h64 (by decide) (by decide) rfl (by decide) ?_
      refine bj_aload_nS dX10_fieldOf_148 rfl 1 rfl ?_
      refine bj_getR (ci := 11) (k := 27) (C := RX10) (T := TX10) (N := 49) rfl hi_X10_fieldOf_X10 (by decide) rfl fl_X10_fieldOf_59 (Or.inl rfl) dX10_fieldOf_149 (fun v65 h66 => ?_)
      refine bj_iload_n dX10_fieldOf_152 rfl 2 rfl ?_
      refine bj_nn (fun a67 h68 => ?_)
      subst h68
      refine bj_iald dX10_fieldOf_153 (fun v69 h70 => ?_)
      exact bj_iret dX10_fieldOf_154
    refine bj_ite (fun h71 => ?_) (fun h71 => ?_)
    · refine bj_tblIn (tgt := 155) (kv := 9) (off := 138) dX10_fieldOf_17 h71 (by decide) (by decide) rfl (by decide) ?_
      refine bj_aload_nS dX10_fieldOf_155 rfl 1 rfl ?_
      refine bj_getR (ci := 11) (k := 18) (C := RX10) (T := TX10) (N := 49) rfl hi_X10_fieldOf_X10 (by decide) rfl fl_X10_fieldOf_32 (Or.inl rfl) dX10_fieldOf_156 (fun v72 h73 => ?_)
      refine bj_iload_n dX10_fieldOf_159 rfl 2 rfl ?_
      refine bj_nn (fun a74 h75 => ?_)
      subst h75
      refine bj_iald dX10_fieldOf_160 (fun v76 h77 => ?_)
      exact bj_iret dX10_fieldOf_161
    refine bj_ite (fun h78 => ?_) (fun h78 => ?_)
    · refine bj_tblIn (tgt := 162) (kv := 10) (off := 145) dX10_fieldOf_17 h78 (by decide) (by decide) rfl (by decide) ?_
      refine bj_iconst (v := 0) dX10_fieldOf_162 (by decide) ?_
      refine bj_istore (lv' := [(4, .int 0), (3, .int 0), (0, .ref this), (1, .int p1), (2, .int p2)]) dX10_fieldOf_163 (by decide) rfl ?_
      refine bj_sub (lv' := [(0, .ref this), (1, .int p1), (3, .int 0), (4, .int 0)]) [2, 3, 1, 0] rfl ?_
      exact j_X10_fieldOf_b165 X N N this p1 0 0 σ3
    refine bj_tblOut (tgt := 212) dX10_fieldOf_17 (by have h6n := lv_neT h6 (show (0 : Int32).toInt = 0 by decide); have h13n := lv_neT h13 (show (1 : Int32).toInt = 1 by decide); have h20n := lv_neT h20 (show (2 : Int32).toInt = 2 by decide); have h27n := lv_neT h27 (show (3 : Int32).toInt = 3 by decide); have h35n := lv_neT h35 (show (4 : Int32).toInt = 4 by decide); have h43n := lv_neT h43 (show (5 : Int32).toInt = 5 by decide); have h50n := lv_neT h50 (show (6 : Int32).toInt = 6 by decide); have h57n := lv_neT h57 (show (7 : Int32).toInt = 7 by decide); have h64n := lv_neT h64 (show (8 : Int32).toInt = 8 by decide); have h71n := lv_neT h71 (show (9 : Int32).toInt = 9 by decide); have h78n := lv_neT h78 (show (10 : Int32).toInt = 10 by decide); omega) (by decide) ?_
    refine bj_aload_nS dX10_fieldOf_212 rfl 1 rfl ?_
    refine bj_bipush (v := (-2)) dX10_fieldOf_213 (by decide) ?_
    refine bj_op (fun _ h79 => ?_)
    refine bj_callI (br_V (As := [.int (-2)]) (rest := []) (q := (RX10, TX10, 49)) (c_X10_refuse X this (-2) σ3) rfl g_X10_fieldOf_X10_refuse_124 rfl (bh_ck_spec h79) ⟨rfl, hd_X10_refuse⟩ rfl ⟨by decide, by decide⟩ rfl (Nat.le_of_ble_eq_true rfl) dX10_fieldOf_215) (fun v80 σ81 h82 => ?_)
    exact bj_iret dX10_fieldOf_218
  · refine bj_aload_nS dX10_fieldOf_8 rfl 0 rfl ?_
    refine bj_iconst (v := (-1)) dX10_fieldOf_9 (by decide) ?_
    refine bj_op (fun _ h83 => ?_)
    refine bj_callI (br_V (As := [.int (-1)]) (rest := []) (q := (RX10, TX10, 49)) (c_X10_refuse X this (-1) σ3) rfl g_X10_fieldOf_X10_refuse_124 rfl (bh_ck_spec h83) ⟨rfl, hd_X10_refuse⟩ rfl ⟨by decide, by decide⟩ rfl (Nat.le_of_ble_eq_true rfl) dX10_fieldOf_10) (fun v84 σ85 h86 => ?_)
    exact bj_iret dX10_fieldOf_13
/-! BeetHouseModel.lorryOf(II)I -/
set_option maxRecDepth 100000 in
theorem g_X10_lorryOf_X10_isLorry_141 : GoodIn wsX10_lorryOf (wsV yX10_lorryOf.cls 141 RX10 yX10_isLorry wsX10_isLorry) := goodIn_r _ [8, 9, 10, 11, 12, 13, 14, 15, 11, 16, 22, 23, 24, 25, 26, 27, 28, 29, 30, 31, 32, 33, 34, 35, 36, 37, 38, 39, 40, 41, 42, 43, 44, 45, 46, 47, 48, 49, 50, 51, 52, 53, 54, 55, 56, 57, 58, 59, 60, 61, 62, 63, 64, 65, 66, 67, 68, 69, 70] rfl (by decide +kernel)
theorem hi_X10_lorryOf_X10 : ∀ w ∈ u_ws RX10 TX10 49, w ∈ wsX10_lorryOf := fun _ h => (List.mem_cons_of_mem _ (List.mem_append_right _ h))
set_option maxRecDepth 100000 in
theorem fl_X10_lorryOf_81 : bh_fl wsX10_lorryOf yX10_lorryOf.cls 81 "BeetHouseModel" "does" "[I" := Or.inl (List.mem_of_getElem? (i := 1) rfl)
set_option maxRecDepth 100000 in
theorem fl_X10_lorryOf_84 : bh_fl wsX10_lorryOf yX10_lorryOf.cls 84 "BeetHouseModel" "to" "[I" := Or.inl (List.mem_of_getElem? (i := 2) rfl)
set_option maxRecDepth 100000 in
theorem fl_X10_lorryOf_90 : bh_fl wsX10_lorryOf yX10_lorryOf.cls 90 "BeetHouseModel" "has" "[I" := Or.inl (List.mem_of_getElem? (i := 4) rfl)
set_option maxRecDepth 100000 in
theorem fl_X10_lorryOf_93 : bh_fl wsX10_lorryOf yX10_lorryOf.cls 93 "BeetHouseModel" "hasSugar" "[I" := Or.inl (List.mem_of_getElem? (i := 5) rfl)
set_option maxRecDepth 100000 in
theorem fl_X10_lorryOf_96 : bh_fl wsX10_lorryOf yX10_lorryOf.cls 96 "BeetHouseModel" "drowned" "[I" := Or.inl (List.mem_of_getElem? (i := 6) rfl)
set_option maxRecDepth 100000 in
theorem fl_X10_lorryOf_99 : bh_fl wsX10_lorryOf yX10_lorryOf.cls 99 "BeetHouseModel" "brought" "[I" := Or.inl (List.mem_of_getElem? (i := 7) rfl)
set_option maxRecDepth 100000 in
theorem g_X10_lorryOf_X10_refuse_124 : GoodIn wsX10_lorryOf (wsV yX10_lorryOf.cls 124 RX10 yX10_refuse wsX10_refuse) := goodIn_r _ [17, 18, 19, 11, 20, 21, 22, 23, 24, 25, 26, 27, 28, 29, 30, 31, 32, 33, 34, 35, 36, 37, 38, 39, 40, 41, 42, 43, 44, 45, 46, 47, 48, 49, 50, 51, 52, 53, 54, 55, 56, 57, 58, 59, 60, 61, 62, 63, 64, 65, 66, 67, 68, 69, 70] rfl (by decide +kernel)
set_option maxRecDepth 100000 in
theorem fl_X10_lorryOf_87 : bh_fl wsX10_lorryOf yX10_lorryOf.cls 87 "BeetHouseModel" "there" "[I" := Or.inl (List.mem_of_getElem? (i := 3) rfl)
def f_X10_lorryOf_b90 (this : Nat) (x1 : Int32) (σ : bh_S) : Option (Int32 × bh_S) :=
  (bh_rdR σ 11 this 36).bind fun v1 =>
  (v1).bind fun a3 =>
  (bh_ldI σ 12 a3 x1).bind fun v5 =>
  some (v5, σ)
set_option maxHeartbeats 4000000 in
set_option maxRecDepth 100000 in
theorem j_X10_lorryOf_b90 (X : bh_X) (this : Nat) (x1 : Int32) (σ : bh_S) : bh_J eI yX10_lorryOf cX10_lorryOf wsX10_lorryOf (some .int) 3 2 42 X σ 90 [(0, .ref this), (1, .int x1)] [] (f_X10_lorryOf_b90 this x1 σ) := by
  unfold f_X10_lorryOf_b90
  refine bj_aload_nS dX10_lorryOf_90 rfl 0 rfl ?_
  refine bj_getR (ci := 11) (k := 36) (C := RX10) (T := TX10) (N := 49) rfl hi_X10_lorryOf_X10 (by decide) rfl fl_X10_lorryOf_87 (Or.inl rfl) dX10_lorryOf_91 (fun v1 h2 => ?_)
  refine bj_iload_n dX10_lorryOf_94 rfl 1 rfl ?_
  refine bj_nn (fun a3 h4 => ?_)
  subst h4
  refine bj_iald dX10_lorryOf_95 (fun v5 h6 => ?_)
  refine bj_goto (tgt := 101) dX10_lorryOf_96 (by decide) ?_
  exact bj_iret dX10_lorryOf_101
def f_X10_lorryOf (this : Nat) (p1 : Int32) (p2 : Int32) (σ : bh_S) : Option (Int32 × bh_S) :=
  (bh_ck σ this 11).bind fun _ =>
  bh_bnd (f_X10_isLorry this p1 σ) fun v2 σ3 =>
  if v2 = 0 then
    (bh_ck σ3 this 11).bind fun _ =>
    bh_bnd (f_X10_refuse this (-1) σ3) fun v68 σ69 =>
    some (v68, σ69)
  else
    if p2 = 0 then
      (bh_rdR σ3 11 this 34).bind fun v7 =>
      (v7).bind fun a9 =>
      (bh_ldI σ3 12 a9 p1).bind fun v11 =>
      some (v11, σ3)
    else
    if p2 = 1 then
      (bh_rdR σ3 11 this 35).bind fun v14 =>
      (v14).bind fun a16 =>
      (bh_ldI σ3 12 a16 p1).bind fun v18 =>
      some (v18, σ3)
    else
    if p2 = 2 then
      (bh_rdR σ3 11 this 34).bind fun v21 =>
      (v21).bind fun a23 =>
      (bh_ldI σ3 12 a23 p1).bind fun v25 =>
      if v25 = 1 then
        f_X10_lorryOf_b90 this p1 σ3
      else
        (bh_rdR σ3 11 this 34).bind fun v28 =>
        (v28).bind fun a30 =>
        (bh_ldI σ3 12 a30 p1).bind fun v32 =>
        if v32 = 2 then
          f_X10_lorryOf_b90 this p1 σ3
        else
          some ((-9), σ3)
    else
    if p2 = 3 then
      (bh_rdR σ3 11 this 37).bind fun v36 =>
      (v36).bind fun a38 =>
      (bh_ldI σ3 12 a38 p1).bind fun v40 =>
      some (v40, σ3)
    else
    if p2 = 4 then
      (bh_rdR σ3 11 this 38).bind fun v43 =>
      (v43).bind fun a45 =>
      (bh_ldI σ3 12 a45 p1).bind fun v47 =>
      some (v47, σ3)
    else
    if p2 = 5 then
      (bh_rdR σ3 11 this 39).bind fun v50 =>
      (v50).bind fun a52 =>
      (bh_ldI σ3 12 a52 p1).bind fun v54 =>
      some (v54, σ3)
    else
    if p2 = 6 then
      (bh_rdR σ3 11 this 40).bind fun v57 =>
      (v57).bind fun a59 =>
      (bh_ldI σ3 12 a59 p1).bind fun v61 =>
      some (v61, σ3)
    else
      (bh_ck σ3 this 11).bind fun _ =>
      bh_bnd (f_X10_refuse this (-2) σ3) fun v64 σ65 =>
      some (v64, σ65)
set_option maxHeartbeats 4000000 in
set_option maxRecDepth 100000 in
theorem c_X10_lorryOf (X : bh_X) (this : Nat) (p1 : Int32) (p2 : Int32) (σ : bh_S) : bh_MX eI X yX10_lorryOf wsX10_lorryOf 2 42 [.ref this, .int p1, .int p2] σ (f_X10_lorryOf this p1 p2 σ) := by
  refine bh_enter (cc := cX10_lorryOf) (NL := 3) (ret := (some .int)) (by decide) rfl (Nat.le_of_ble_eq_true rfl) (fun X => ?_)
  show bh_J eI yX10_lorryOf cX10_lorryOf wsX10_lorryOf (some .int) 3 2 42 X σ 0 [(0, .ref this), (1, .int p1), (2, .int p2)] [] _
  unfold f_X10_lorryOf
  refine bj_aload_nS dX10_lorryOf_0 rfl 0 rfl ?_
  refine bj_iload_n dX10_lorryOf_1 rfl 1 rfl ?_
  refine bj_op (fun _ h1 => ?_)
  refine bj_callI (br_V (As := [.int p1]) (rest := []) (q := (RX10, TX10, 49)) (c_X10_isLorry X this p1 σ) rfl g_X10_lorryOf_X10_isLorry_141 rfl (bh_ck_spec h1) ⟨rfl, hd_X10_isLorry⟩ rfl ⟨by decide, by decide⟩ rfl (Nat.le_of_ble_eq_true rfl) dX10_lorryOf_2) (fun v2 σ3 h4 => ?_)
  refine bj_if_ne (tgt := 14) dX10_lorryOf_5 (by decide) (fun h5 => ?_) (fun h5 => ?_)
  · refine bj_iload_n dX10_lorryOf_14 rfl 2 rfl ?_
    refine bj_ite (fun h6 => ?_) (fun h6 => ?_)
    · refine bj_tblIn (tgt := 56) (kv := 0) (off := 41) dX10_lorryOf_15 h6 (by decide) (by decide) rfl (by decide) ?_
      refine bj_aload_nS dX10_lorryOf_56 rfl 0 rfl ?_
      refine bj_getR (ci := 11) (k := 34) (C := RX10) (T := TX10) (N := 49) rfl hi_X10_lorryOf_X10 (by decide) rfl fl_X10_lorryOf_81 (Or.inl rfl) dX10_lorryOf_57 (fun v7 h8 => ?_)
      refine bj_iload_n dX10_lorryOf_60 rfl 1 rfl ?_
      refine bj_nn (fun a9 h10 => ?_)
      subst h10
      refine bj_iald dX10_lorryOf_61 (fun v11 h12 => ?_)
      exact bj_iret dX10_lorryOf_62
    refine bj_ite (fun h13 => ?_) (fun h13 => ?_)
    · refine bj_tblIn (tgt := 63) (kv := 1) (off := 48) dX10_lorryOf_15 h13 (by decide) (by decide) rfl (by decide) ?_
      refine bj_aload_nS dX10_lorryOf_63 rfl 0 rfl ?_
      refine bj_getR (ci := 11) (k := 35) (C := RX10) (T := TX10) (N := 49) rfl hi_X10_lorryOf_X10 (by decide) rfl fl_X10_lorryOf_84 (Or.inl rfl) dX10_lorryOf_64 (fun v14 h15 => ?_)
      refine bj_iload_n dX10_lorryOf_67 rfl 1 rfl ?_
      refine bj_nn (fun a16 h17 => ?_)
      subst h17
      refine bj_iald dX10_lorryOf_68 (fun v18 h19 => ?_)
      exact bj_iret dX10_lorryOf_69
    refine bj_ite (fun h20 => ?_) (fun h20 => ?_)
    · refine bj_tblIn (tgt := 70) (kv := 2) (off := 55) dX10_lorryOf_15 h20 (by decide) (by decide) rfl (by decide) ?_
      refine bj_aload_nS dX10_lorryOf_70 rfl 0 rfl ?_
      refine bj_getR (ci := 11) (k := 34) (C := RX10) (T := TX10) (N := 49) rfl hi_X10_lorryOf_X10 (by decide) rfl fl_X10_lorryOf_81 (Or.inl rfl) dX10_lorryOf_71 (fun v21 h22 => ?_)
      refine bj_iload_n dX10_lorryOf_74 rfl 1 rfl ?_
      refine bj_nn (fun a23 h24 => ?_)
      subst h24
      refine bj_iald dX10_lorryOf_75 (fun v25 h26 => ?_)
      refine bj_iconst (v := 1) dX10_lorryOf_76 (by decide) ?_
      refine bj_icmp_eq (tgt := 90) dX10_lorryOf_77 (by decide) (fun h27 => ?_) (fun h27 => ?_)
      · refine bj_sub (lv' := [(0, .ref this), (1, .int p1)]) [0, 1] rfl ?_
        exact j_X10_lorryOf_b90 X this p1 σ3
      · refine bj_aload_nS dX10_lorryOf_80 rfl 0 rfl ?_
        refine bj_getR (ci := 11) (k := 34) (C := RX10) (T := TX10) (N := 49) rfl hi_X10_lorryOf_X10 (by decide) rfl fl_X10_lorryOf_81 (Or.inl rfl) dX10_lorryOf_81 (fun v28 h29 => ?_)
        refine bj_iload_n dX10_lorryOf_84 rfl 1 rfl ?_
        refine bj_nn (fun a30 h31 => ?_)
        subst h31
        refine bj_iald dX10_lorryOf_85 (fun v32 h33 => ?_)
        refine bj_iconst (v := 2) dX10_lorryOf_86 (by decide) ?_
        refine bj_icmp_ne (tgt := 99) dX10_lorryOf_87 (by decide) (fun h34 => ?_) (fun h34 => ?_)
        · refine bj_bipush (v := (-9)) dX10_lorryOf_99 (by decide) ?_
          exact bj_iret dX10_lorryOf_101
        · refine bj_sub (lv' := [(0, .ref this), (1, .int p1)]) [0, 1] rfl ?_
          exact j_X10_lorryOf_b90 X this p1 σ3
    refine bj_ite (fun h35 => ?_) (fun h35 => ?_)
    · refine bj_tblIn (tgt := 102) (kv := 3) (off := 87) dX10_lorryOf_15 h35 (by decide) (by decide) rfl (by decide) ?_
      refine bj_aload_nS dX10_lorryOf_102 rfl 0 rfl ?_
      refine bj_getR (ci := 11) (k := 37) (C := RX10) (T := TX10) (N := 49) rfl hi_X10_lorryOf_X10 (by decide) rfl fl_X10_lorryOf_90 (Or.inl rfl) dX10_lorryOf_103 (fun v36 h37 => ?_)
      refine bj_iload_n dX10_lorryOf_106 rfl 1 rfl ?_
      refine bj_nn (fun a38 h39 => ?_)
      subst h39
      refine bj_iald dX10_lorryOf_107 (fun v40 h41 => ?_)
      exact bj_iret dX10_lorryOf_108
    refine bj_ite (fun h42 => ?_) (fun h42 => ?_)
    · refine bj_tblIn (tgt := 109) (kv := 4) (off := 94) dX10_lorryOf_15 h42 (by decide) (by decide) rfl (by decide) ?_
      refine bj_aload_nS dX10_lorryOf_109 rfl 0 rfl ?_
      refine bj_getR (ci := 11) (k := 38) (C := RX10) (T := TX10) (N := 49) rfl hi_X10_lorryOf_X10 (by decide) rfl fl_X10_lorryOf_93 (Or.inl rfl) dX10_lorryOf_110 (fun v43 h44 => ?_)
      refine bj_iload_n dX10_lorryOf_113 rfl 1 rfl ?_
      refine bj_nn (fun a45 h46 => ?_)
      subst h46
      refine bj_iald dX10_lorryOf_114 (fun v47 h48 => ?_)
      exact bj_iret dX10_lorryOf_115
    refine bj_ite (fun h49 => ?_) (fun h49 => ?_)
    · refine bj_tblIn (tgt := 116) (kv := 5) (off := 101) dX10_lorryOf_15 h49 (by decide) (by decide) rfl (by decide) ?_
      refine bj_aload_nS dX10_lorryOf_116 rfl 0 rfl ?_
      refine bj_getR (ci := 11) (k := 39) (C := RX10) (T := TX10) (N := 49) rfl hi_X10_lorryOf_X10 (by decide) rfl fl_X10_lorryOf_96 (Or.inl rfl) dX10_lorryOf_117 (fun v50 h51 => ?_)
      refine bj_iload_n dX10_lorryOf_120 rfl 1 rfl ?_
      refine bj_nn (fun a52 h53 => ?_)
      subst h53
      refine bj_iald dX10_lorryOf_121 (fun v54 h55 => ?_)
      exact bj_iret dX10_lorryOf_122
    refine bj_ite (fun h56 => ?_) (fun h56 => ?_)
    · refine bj_tblIn (tgt := 123) (kv := 6) (off := 108) dX10_lorryOf_15 h56 (by decide) (by decide) rfl (by decide) ?_
      refine bj_aload_nS dX10_lorryOf_123 rfl 0 rfl ?_
      refine bj_getR (ci := 11) (k := 40) (C := RX10) (T := TX10) (N := 49) rfl hi_X10_lorryOf_X10 (by decide) rfl fl_X10_lorryOf_99 (Or.inl rfl) dX10_lorryOf_124 (fun v57 h58 => ?_)
      refine bj_iload_n dX10_lorryOf_127 rfl 1 rfl ?_
      refine bj_nn (fun a59 h60 => ?_)
      subst h60
      refine bj_iald dX10_lorryOf_128 (fun v61 h62 => ?_)
      exact bj_iret dX10_lorryOf_129
    refine bj_tblOut (tgt := 130) dX10_lorryOf_15 (by have h6n := lv_neT h6 (show (0 : Int32).toInt = 0 by decide); have h13n := lv_neT h13 (show (1 : Int32).toInt = 1 by decide); have h20n := lv_neT h20 (show (2 : Int32).toInt = 2 by decide); have h35n := lv_neT h35 (show (3 : Int32).toInt = 3 by decide); have h42n := lv_neT h42 (show (4 : Int32).toInt = 4 by decide); have h49n := lv_neT h49 (show (5 : Int32).toInt = 5 by decide); have h56n := lv_neT h56 (show (6 : Int32).toInt = 6 by decide); omega) (by decide) ?_
    refine bj_aload_nS dX10_lorryOf_130 rfl 0 rfl ?_
    refine bj_bipush (v := (-2)) dX10_lorryOf_131 (by decide) ?_
    refine bj_op (fun _ h63 => ?_)
    refine bj_callI (br_V (As := [.int (-2)]) (rest := []) (q := (RX10, TX10, 49)) (c_X10_refuse X this (-2) σ3) rfl g_X10_lorryOf_X10_refuse_124 rfl (bh_ck_spec h63) ⟨rfl, hd_X10_refuse⟩ rfl ⟨by decide, by decide⟩ rfl (Nat.le_of_ble_eq_true rfl) dX10_lorryOf_133) (fun v64 σ65 h66 => ?_)
    exact bj_iret dX10_lorryOf_136
  · refine bj_aload_nS dX10_lorryOf_8 rfl 0 rfl ?_
    refine bj_iconst (v := (-1)) dX10_lorryOf_9 (by decide) ?_
    refine bj_op (fun _ h67 => ?_)
    refine bj_callI (br_V (As := [.int (-1)]) (rest := []) (q := (RX10, TX10, 49)) (c_X10_refuse X this (-1) σ3) rfl g_X10_lorryOf_X10_refuse_124 rfl (bh_ck_spec h67) ⟨rfl, hd_X10_refuse⟩ rfl ⟨by decide, by decide⟩ rfl (Nat.le_of_ble_eq_true rfl) dX10_lorryOf_10) (fun v68 σ69 h70 => ?_)
    exact bj_iret dX10_lorryOf_13
/-! BeetHouseModel.load(II)I -/
theorem hi_X10_load_X10 : ∀ w ∈ u_ws RX10 TX10 49, w ∈ wsX10_load := fun _ h => (List.mem_cons_of_mem _ (List.mem_append_right _ h))
set_option maxRecDepth 100000 in
theorem fl_X10_load_165 : bh_fl wsX10_load yX10_load.cls 165 "BeetHouseModel" "loads" "I" := Or.inl (List.mem_of_getElem? (i := 1) rfl)
set_option maxRecDepth 100000 in
theorem g_X10_load_X10_isIn_120 : GoodIn wsX10_load (va_wsS yX10_load.cls 120 yX10_isIn wsX10_isIn) := goodIn_r _ [5, 6, 7, 8] rfl (by decide +kernel)
set_option maxRecDepth 100000 in
theorem fl_X10_load_108 : bh_fl wsX10_load yX10_load.cls 108 "BeetHouseModel" "loadSugar" "[I" := Or.inl (List.mem_of_getElem? (i := 4) rfl)
set_option maxRecDepth 100000 in
theorem fl_X10_load_105 : bh_fl wsX10_load yX10_load.cls 105 "BeetHouseModel" "loadRoots" "[I" := Or.inl (List.mem_of_getElem? (i := 3) rfl)
set_option maxRecDepth 100000 in
theorem fl_X10_load_102 : bh_fl wsX10_load yX10_load.cls 102 "BeetHouseModel" "loadField" "[I" := Or.inl (List.mem_of_getElem? (i := 2) rfl)
def f_X10_load (this : Nat) (p1 : Int32) (p2 : Int32) (σ : bh_S) : Option (Int32 × bh_S) :=
  (bh_rdI σ 11 this 44).bind fun v1 =>
  bh_bnd (f_X10_isIn p1 v1 σ) fun v3 σ4 =>
  if v3 = 0 then
    some ((-9), σ4)
  else
    if p2 = 0 then
      (bh_rdR σ4 11 this 41).bind fun v22 =>
      (v22).bind fun a24 =>
      (bh_ldI σ4 12 a24 p1).bind fun v26 =>
      some (v26, σ4)
    else
      if p2 = 1 then
        (bh_rdR σ4 11 this 42).bind fun v16 =>
        (v16).bind fun a18 =>
        (bh_ldI σ4 12 a18 p1).bind fun v20 =>
        some (v20, σ4)
      else
        if p2 = 2 then
          (bh_rdR σ4 11 this 43).bind fun v10 =>
          (v10).bind fun a12 =>
          (bh_ldI σ4 12 a12 p1).bind fun v14 =>
          some (v14, σ4)
        else
          some ((-9), σ4)
set_option maxHeartbeats 4000000 in
set_option maxRecDepth 100000 in
theorem c_X10_load (X : bh_X) (this : Nat) (p1 : Int32) (p2 : Int32) (σ : bh_S) : bh_MX eI X yX10_load wsX10_load 1 21 [.ref this, .int p1, .int p2] σ (f_X10_load this p1 p2 σ) := by
  refine bh_enter (cc := cX10_load) (NL := 3) (ret := (some .int)) (by decide) rfl (Nat.le_of_ble_eq_true rfl) (fun X => ?_)
  show bh_J eI yX10_load cX10_load wsX10_load (some .int) 3 1 21 X σ 0 [(0, .ref this), (1, .int p1), (2, .int p2)] [] _
  unfold f_X10_load
  refine bj_iload_n dX10_load_0 rfl 1 rfl ?_
  refine bj_aload_nS dX10_load_1 rfl 0 rfl ?_
  refine bj_getI (ci := 11) (k := 44) (C := RX10) (T := TX10) (N := 49) rfl hi_X10_load_X10 (by decide) rfl fl_X10_load_165 (Or.inl rfl) dX10_load_2 (fun v1 h2 => ?_)
  refine bj_callI (br_S (As := [.int p1, .int v1]) (rest := []) (c_X10_isIn X p1 v1 σ) rfl g_X10_load_X10_isIn_120 hd_X10_isIn rfl ⟨by decide, by decide⟩ rfl (Nat.le_of_ble_eq_true rfl) dX10_load_5) (fun v3 σ4 h5 => ?_)
  refine bj_if_ne (tgt := 14) dX10_load_8 (by decide) (fun h6 => ?_) (fun h6 => ?_)
  · refine bj_iload_n dX10_load_14 rfl 2 rfl ?_
    refine bj_if_ne (tgt := 27) dX10_load_15 (by decide) (fun h7 => ?_) (fun h7 => ?_)
    · refine bj_iload_n dX10_load_27 rfl 2 rfl ?_
      refine bj_iconst (v := 1) dX10_load_28 (by decide) ?_
      refine bj_icmp_ne (tgt := 41) dX10_load_29 (by decide) (fun h8 => ?_) (fun h8 => ?_)
      · refine bj_iload_n dX10_load_41 rfl 2 rfl ?_
        refine bj_iconst (v := 2) dX10_load_42 (by decide) ?_
        refine bj_icmp_ne (tgt := 55) dX10_load_43 (by decide) (fun h9 => ?_) (fun h9 => ?_)
        · refine bj_bipush (v := (-9)) dX10_load_55 (by decide) ?_
          exact bj_iret dX10_load_57
        · refine bj_aload_nS dX10_load_46 rfl 0 rfl ?_
          refine bj_getR (ci := 11) (k := 43) (C := RX10) (T := TX10) (N := 49) rfl hi_X10_load_X10 (by decide) rfl fl_X10_load_108 (Or.inl rfl) dX10_load_47 (fun v10 h11 => ?_)
          refine bj_iload_n dX10_load_50 rfl 1 rfl ?_
          refine bj_nn (fun a12 h13 => ?_)
          subst h13
          refine bj_iald dX10_load_51 (fun v14 h15 => ?_)
          refine bj_goto (tgt := 57) dX10_load_52 (by decide) ?_
          exact bj_iret dX10_load_57
      · refine bj_aload_nS dX10_load_32 rfl 0 rfl ?_
        refine bj_getR (ci := 11) (k := 42) (C := RX10) (T := TX10) (N := 49) rfl hi_X10_load_X10 (by decide) rfl fl_X10_load_105 (Or.inl rfl) dX10_load_33 (fun v16 h17 => ?_)
        refine bj_iload_n dX10_load_36 rfl 1 rfl ?_
        refine bj_nn (fun a18 h19 => ?_)
        subst h19
        refine bj_iald dX10_load_37 (fun v20 h21 => ?_)
        refine bj_goto (tgt := 57) dX10_load_38 (by decide) ?_
        exact bj_iret dX10_load_57
    · refine bj_aload_nS dX10_load_18 rfl 0 rfl ?_
      refine bj_getR (ci := 11) (k := 41) (C := RX10) (T := TX10) (N := 49) rfl hi_X10_load_X10 (by decide) rfl fl_X10_load_102 (Or.inl rfl) dX10_load_19 (fun v22 h23 => ?_)
      refine bj_iload_n dX10_load_22 rfl 1 rfl ?_
      refine bj_nn (fun a24 h25 => ?_)
      subst h25
      refine bj_iald dX10_load_23 (fun v26 h27 => ?_)
      refine bj_goto (tgt := 57) dX10_load_24 (by decide) ?_
      exact bj_iret dX10_load_57
  · refine bj_bipush (v := (-9)) dX10_load_11 (by decide) ?_
    exact bj_iret dX10_load_13
/-! BeetHouseModel.coins(I)I -/
set_option maxRecDepth 100000 in
theorem g_X10_coins_X10_isIn_120 : GoodIn wsX10_coins (va_wsS yX10_coins.cls 120 yX10_isIn wsX10_isIn) := goodIn_r _ [2, 3, 4, 5] rfl (by decide +kernel)
set_option maxRecDepth 100000 in
theorem g_X10_coins_X10_refuse_124 : GoodIn wsX10_coins (wsV yX10_coins.cls 124 RX10 yX10_refuse wsX10_refuse) := goodIn_r _ [6, 7, 8, 4, 9, 10, 11, 12, 13, 14, 15, 16, 17, 18, 19, 20, 21, 22, 23, 24, 25, 26, 27, 28, 29, 30, 31, 32, 33, 34, 35, 36, 37, 38, 39, 40, 41, 42, 43, 44, 45, 46, 47, 48, 49, 50, 51, 52, 53, 54, 55, 56, 57, 58, 59] rfl (by decide +kernel)
theorem hi_X10_coins_X10 : ∀ w ∈ u_ws RX10 TX10 49, w ∈ wsX10_coins := fun _ h => (List.mem_cons_of_mem _ (List.mem_append_right _ h))
set_option maxRecDepth 100000 in
theorem fl_X10_coins_16 : bh_fl wsX10_coins yX10_coins.cls 16 "BeetHouseModel" "coins" "[I" := Or.inl (List.mem_of_getElem? (i := 1) rfl)
def f_X10_coins (this : Nat) (p1 : Int32) (σ : bh_S) : Option (Int32 × bh_S) :=
  bh_bnd (f_X10_isIn p1 6 σ) fun v1 σ2 =>
  if v1 = 0 then
    (bh_ck σ2 this 11).bind fun _ =>
    bh_bnd (f_X10_refuse this (-1) σ2) fun v6 σ7 =>
    some (v6, σ7)
  else
    (bh_rdR σ2 11 this 2).bind fun v9 =>
    (v9).bind fun a11 =>
    (bh_ldI σ2 12 a11 p1).bind fun v13 =>
    some (v13, σ2)
set_option maxHeartbeats 4000000 in
set_option maxRecDepth 100000 in
theorem c_X10_coins (X : bh_X) (this : Nat) (p1 : Int32) (σ : bh_S) : bh_MX eI X yX10_coins wsX10_coins 1 21 [.ref this, .int p1] σ (f_X10_coins this p1 σ) := by
  refine bh_enter (cc := cX10_coins) (NL := 2) (ret := (some .int)) (by decide) rfl (Nat.le_of_ble_eq_true rfl) (fun X => ?_)
  show bh_J eI yX10_coins cX10_coins wsX10_coins (some .int) 2 1 21 X σ 0 [(0, .ref this), (1, .int p1)] [] _
  unfold f_X10_coins
  refine bj_iload_n dX10_coins_0 rfl 1 rfl ?_
  refine bj_bipush (v := 6) dX10_coins_1 (by decide) ?_
  refine bj_callI (br_S (As := [.int p1, .int 6]) (rest := []) (c_X10_isIn X p1 6 σ) rfl g_X10_coins_X10_isIn_120 hd_X10_isIn rfl ⟨by decide, by decide⟩ rfl (Nat.le_of_ble_eq_true rfl) dX10_coins_3) (fun v1 σ2 h3 => ?_)
  refine bj_if_eq (tgt := 18) dX10_coins_6 (by decide) (fun h4 => ?_) (fun h4 => ?_)
  · refine bj_aload_nS dX10_coins_18 rfl 0 rfl ?_
    refine bj_iconst (v := (-1)) dX10_coins_19 (by decide) ?_
    refine bj_op (fun _ h5 => ?_)
    refine bj_callI (br_V (As := [.int (-1)]) (rest := []) (q := (RX10, TX10, 49)) (c_X10_refuse X this (-1) σ2) rfl g_X10_coins_X10_refuse_124 rfl (bh_ck_spec h5) ⟨rfl, hd_X10_refuse⟩ rfl ⟨by decide, by decide⟩ rfl (Nat.le_of_ble_eq_true rfl) dX10_coins_20) (fun v6 σ7 h8 => ?_)
    exact bj_iret dX10_coins_23
  · refine bj_aload_nS dX10_coins_9 rfl 0 rfl ?_
    refine bj_getR (ci := 11) (k := 2) (C := RX10) (T := TX10) (N := 49) rfl hi_X10_coins_X10 (by decide) rfl fl_X10_coins_16 (Or.inl rfl) dX10_coins_10 (fun v9 h10 => ?_)
    refine bj_iload_n dX10_coins_13 rfl 1 rfl ?_
    refine bj_nn (fun a11 h12 => ?_)
    subst h12
    refine bj_iald dX10_coins_14 (fun v13 h14 => ?_)
    refine bj_goto (tgt := 23) dX10_coins_15 (by decide) ?_
    exact bj_iret dX10_coins_23
/-! BeetHouseModel.count(I)I -/
theorem hi_X10_count_X10 : ∀ w ∈ u_ws RX10 TX10 49, w ∈ wsX10_count := fun _ h => (List.mem_cons_of_mem _ (List.mem_append_right _ h))
set_option maxRecDepth 100000 in
theorem fl_X10_count_7 : bh_fl wsX10_count yX10_count.cls 7 "BeetHouseModel" "refusals" "[I" := Or.inl (List.mem_of_getElem? (i := 1) rfl)
set_option maxRecDepth 100000 in
theorem fl_X10_count_138 : bh_fl wsX10_count yX10_count.cls 138 "BeetHouseModel" "hour" "I" := Or.inl (List.mem_of_getElem? (i := 2) rfl)
set_option maxRecDepth 100000 in
theorem fl_X10_count_128 : bh_fl wsX10_count yX10_count.cls 128 "BeetHouseModel" "fields" "I" := Or.inl (List.mem_of_getElem? (i := 3) rfl)
set_option maxRecDepth 100000 in
theorem fl_X10_count_131 : bh_fl wsX10_count yX10_count.cls 131 "BeetHouseModel" "lorries" "I" := Or.inl (List.mem_of_getElem? (i := 4) rfl)
set_option maxRecDepth 100000 in
theorem g_X10_count_X10_inYard_174 : GoodIn wsX10_count (wsV yX10_count.cls 174 RX10 yX10_inYard wsX10_inYard) := goodIn_r _ [12, 13, 14, 15, 16, 17, 18, 19, 20, 21, 22, 23, 24, 25, 26, 27, 28, 29, 30, 31, 32, 33, 34, 35, 36, 37, 38, 39, 40, 41, 42, 43, 44, 45, 46, 47, 48, 49, 50, 51, 52, 53, 54, 55, 56, 57, 58, 59, 60, 61, 62, 63, 64, 65, 66, 67] rfl (by decide +kernel)
set_option maxRecDepth 100000 in
theorem fl_X10_count_190 : bh_fl wsX10_count yX10_count.cls 190 "BeetHouseModel" "eaten" "I" := Or.inl (List.mem_of_getElem? (i := 5) rfl)
set_option maxRecDepth 100000 in
theorem fl_X10_count_181 : bh_fl wsX10_count yX10_count.cls 181 "BeetHouseModel" "won" "I" := Or.inl (List.mem_of_getElem? (i := 6) rfl)
set_option maxRecDepth 100000 in
theorem fl_X10_count_187 : bh_fl wsX10_count yX10_count.cls 187 "BeetHouseModel" "stood" "I" := Or.inl (List.mem_of_getElem? (i := 7) rfl)
set_option maxRecDepth 100000 in
theorem fl_X10_count_184 : bh_fl wsX10_count yX10_count.cls 184 "BeetHouseModel" "lack" "I" := Or.inl (List.mem_of_getElem? (i := 8) rfl)
set_option maxRecDepth 100000 in
theorem fl_X10_count_199 : bh_fl wsX10_count yX10_count.cls 199 "BeetHouseModel" "wasted" "I" := Or.inl (List.mem_of_getElem? (i := 9) rfl)
set_option maxRecDepth 100000 in
theorem fl_X10_count_202 : bh_fl wsX10_count yX10_count.cls 202 "BeetHouseModel" "spoiled" "I" := Or.inl (List.mem_of_getElem? (i := 10) rfl)
set_option maxRecDepth 100000 in
theorem fl_X10_count_161 : bh_fl wsX10_count yX10_count.cls 161 "BeetHouseModel" "isFrost" "Z" := Or.inl (List.mem_of_getElem? (i := 11) rfl)
def f_X10_count_b22 (N : Nat) (this : Nat) (x1 : Int32) (σ : bh_S) : Option (Int32 × bh_S) :=
  if x1 = 0 then
    (bh_rdI σ 11 this 6).bind fun v2 =>
    some (v2, σ)
  else
  if x1 = 1 then
    (bh_rdI σ 11 this 7).bind fun v5 =>
    some (v5, σ)
  else
  if x1 = 2 then
    (bh_rdI σ 11 this 8).bind fun v8 =>
    some (v8, σ)
  else
  if x1 = 3 then
    (bh_ck σ this 11).bind fun _ =>
    bh_bnd (f_X10_inYard N this σ) fun v12 σ13 =>
    some (v12, σ13)
  else
  if x1 = 4 then
    (bh_rdI σ 11 this 11).bind fun v16 =>
    some (v16, σ)
  else
  if x1 = 5 then
    (bh_rdI σ 11 this 12).bind fun v19 =>
    some (v19, σ)
  else
  if x1 = 6 then
    (bh_rdI σ 11 this 13).bind fun v22 =>
    some (v22, σ)
  else
  if x1 = 7 then
    (bh_rdI σ 11 this 14).bind fun v25 =>
    some (v25, σ)
  else
  if x1 = 8 then
    (bh_rdI σ 11 this 15).bind fun v28 =>
    some (v28, σ)
  else
  if x1 = 9 then
    (bh_rdI σ 11 this 16).bind fun v31 =>
    some (v31, σ)
  else
  if x1 = 10 then
    some ((-9), σ)
  else
  if x1 = 11 then
    some ((-9), σ)
  else
  if x1 = 12 then
    some ((-9), σ)
  else
  if x1 = 13 then
    some ((-9), σ)
  else
  if x1 = 14 then
    some ((-9), σ)
  else
  if x1 = 15 then
    some ((-9), σ)
  else
  if x1 = 16 then
    some ((-9), σ)
  else
  if x1 = 17 then
    (bh_rdI σ 11 this 17).bind fun v41 =>
    if v41 = 0 then
      some (0, σ)
    else
      some (1, σ)
  else
    some ((-9), σ)
set_option maxHeartbeats 4000000 in
set_option maxRecDepth 100000 in
theorem j_X10_count_b22 (X : bh_X) (N : Nat) (this : Nat) (x1 : Int32) (σ : bh_S) : bh_J eI yX10_count cX10_count wsX10_count (some .int) 2 1 22 X σ 22 [(0, .ref this), (1, .int x1)] [] (f_X10_count_b22 N this x1 σ) := by
  unfold f_X10_count_b22
  refine bj_iload_n dX10_count_22 rfl 1 rfl ?_
  refine bj_ite (fun h1 => ?_) (fun h1 => ?_)
  · refine bj_tblIn (tgt := 108) (kv := 0) (off := 85) dX10_count_23 h1 (by decide) (by decide) rfl (by decide) ?_
    refine bj_aload_nS dX10_count_108 rfl 0 rfl ?_
    refine bj_getI (ci := 11) (k := 6) (C := RX10) (T := TX10) (N := 49) rfl hi_X10_count_X10 (by decide) rfl fl_X10_count_138 (Or.inl rfl) dX10_count_109 (fun v2 h3 => ?_)
    exact bj_iret dX10_count_112
  refine bj_ite (fun h4 => ?_) (fun h4 => ?_)
  · refine bj_tblIn (tgt := 113) (kv := 1) (off := 90) dX10_count_23 h4 (by decide) (by decide) rfl (by decide) ?_
    refine bj_aload_nS dX10_count_113 rfl 0 rfl ?_
    refine bj_getI (ci := 11) (k := 7) (C := RX10) (T := TX10) (N := 49) rfl hi_X10_count_X10 (by decide) rfl fl_X10_count_128 (Or.inl rfl) dX10_count_114 (fun v5 h6 => ?_)
    exact bj_iret dX10_count_117
  refine bj_ite (fun h7 => ?_) (fun h7 => ?_)
  · refine bj_tblIn (tgt := 118) (kv := 2) (off := 95) dX10_count_23 h7 (by decide) (by decide) rfl (by decide) ?_
    refine bj_aload_nS dX10_count_118 rfl 0 rfl ?_
    refine bj_getI (ci := 11) (k := 8) (C := RX10) (T := TX10) (N := 49) rfl hi_X10_count_X10 (by decide) rfl fl_X10_count_131 (Or.inl rfl) dX10_count_119 (fun v8 h9 => ?_)
    exact bj_iret dX10_count_122
  refine bj_ite (fun h10 => ?_) (fun h10 => ?_)
  · refine bj_tblIn (tgt := 123) (kv := 3) (off := 100) dX10_count_23 h10 (by decide) (by decide) rfl (by decide) ?_
    refine bj_aload_nS dX10_count_123 rfl 0 rfl ?_
    refine bj_op (fun _ h11 => ?_)
    refine bj_callI (br_V (As := []) (rest := []) (q := (RX10, TX10, 49)) (c_X10_inYard X N this σ) rfl g_X10_count_X10_inYard_174 rfl (bh_ck_spec h11) ⟨rfl, hd_X10_inYard⟩ rfl ⟨by decide, by decide⟩ rfl (Nat.le_of_ble_eq_true rfl) dX10_count_124) (fun v12 σ13 h14 => ?_)
    exact bj_iret dX10_count_127
  refine bj_ite (fun h15 => ?_) (fun h15 => ?_)
  · refine bj_tblIn (tgt := 128) (kv := 4) (off := 105) dX10_count_23 h15 (by decide) (by decide) rfl (by decide) ?_
    refine bj_aload_nS dX10_count_128 rfl 0 rfl ?_
    refine bj_getI (ci := 11) (k := 11) (C := RX10) (T := TX10) (N := 49) rfl hi_X10_count_X10 (by decide) rfl fl_X10_count_190 (Or.inl rfl) dX10_count_129 (fun v16 h17 => ?_)
    exact bj_iret dX10_count_132
  refine bj_ite (fun h18 => ?_) (fun h18 => ?_)
  · refine bj_tblIn (tgt := 133) (kv := 5) (off := 110) dX10_count_23 h18 (by decide) (by decide) rfl (by decide) ?_
    refine bj_aload_nS dX10_count_133 rfl 0 rfl ?_
    refine bj_getI (ci := 11) (k := 12) (C := RX10) (T := TX10) (N := 49) rfl hi_X10_count_X10 (by decide) rfl fl_X10_count_181 (Or.inl rfl) dX10_count_134 (fun v19 h20 => ?_)
    exact bj_iret dX10_count_137
  refine bj_ite (fun h21 => ?_) (fun h21 => ?_)
  · refine bj_tblIn (tgt := 138) (kv := 6) (off := 115) dX10_count_23 h21 (by decide) (by decide) rfl (by decide) ?_
    refine bj_aload_nS dX10_count_138 rfl 0 rfl ?_
    refine bj_getI (ci := 11) (k := 13) (C := RX10) (T := TX10) (N := 49) rfl hi_X10_count_X10 (by decide) rfl fl_X10_count_187 (Or.inl rfl) dX10_count_139 (fun v22 h23 => ?_)
    exact bj_iret dX10_count_142
  refine bj_ite (fun h24 => ?_) (fun h24 => ?_)
  · refine bj_tblIn (tgt := 143) (kv := 7) (off := 120) dX10_count_23 h24 (by decide) (by decide) rfl (by decide) ?_
    refine bj_aload_nS dX10_count_143 rfl 0 rfl ?_
    refine bj_getI (ci := 11) (k := 14) (C := RX10) (T := TX10) (N := 49) rfl hi_X10_count_X10 (by decide) rfl fl_X10_count_184 (Or.inl rfl) dX10_count_144 (fun v25 h26 => ?_)
    exact bj_iret dX10_count_147
  refine bj_ite (fun h27 => ?_) (fun h27 => ?_)
  · refine bj_tblIn (tgt := 148) (kv := 8) (off := 125) dX10_count_23 h27 (by decide) (by decide) rfl (by decide) ?_
    refine bj_aload_nS dX10_count_148 rfl 0 rfl ?_
    refine bj_getI (ci := 11) (k := 15) (C := RX10) (T := TX10) (N := 49) rfl hi_X10_count_X10 (by decide) rfl fl_X10_count_199 (Or.inl rfl) dX10_count_149 (fun v28 h29 => ?_)
    exact bj_iret dX10_count_152
  refine bj_ite (fun h30 => ?_) (fun h30 => ?_)
  · refine bj_tblIn (tgt := 153) (kv := 9) (off := 130) dX10_count_23 h30 (by decide) (by decide) rfl (by decide) ?_
    refine bj_aload_nS dX10_count_153 rfl 0 rfl ?_
    refine bj_getI (ci := 11) (k := 16) (C := RX10) (T := TX10) (N := 49) rfl hi_X10_count_X10 (by decide) rfl fl_X10_count_202 (Or.inl rfl) dX10_count_154 (fun v31 h32 => ?_)
    exact bj_iret dX10_count_157
  refine bj_ite (fun h33 => ?_) (fun h33 => ?_)
  · refine bj_tblIn (tgt := 171) (kv := 10) (off := 148) dX10_count_23 h33 (by decide) (by decide) rfl (by decide) ?_
    refine bj_bipush (v := (-9)) dX10_count_171 (by decide) ?_
    exact bj_iret dX10_count_173
  refine bj_ite (fun h34 => ?_) (fun h34 => ?_)
  · refine bj_tblIn (tgt := 171) (kv := 11) (off := 148) dX10_count_23 h34 (by decide) (by decide) rfl (by decide) ?_
    refine bj_bipush (v := (-9)) dX10_count_171 (by decide) ?_
    exact bj_iret dX10_count_173
  refine bj_ite (fun h35 => ?_) (fun h35 => ?_)
  · refine bj_tblIn (tgt := 171) (kv := 12) (off := 148) dX10_count_23 h35 (by decide) (by decide) rfl (by decide) ?_
    refine bj_bipush (v := (-9)) dX10_count_171 (by decide) ?_
    exact bj_iret dX10_count_173
  refine bj_ite (fun h36 => ?_) (fun h36 => ?_)
  · refine bj_tblIn (tgt := 171) (kv := 13) (off := 148) dX10_count_23 h36 (by decide) (by decide) rfl (by decide) ?_
    refine bj_bipush (v := (-9)) dX10_count_171 (by decide) ?_
    exact bj_iret dX10_count_173
  refine bj_ite (fun h37 => ?_) (fun h37 => ?_)
  · refine bj_tblIn (tgt := 171) (kv := 14) (off := 148) dX10_count_23 h37 (by decide) (by decide) rfl (by decide) ?_
    refine bj_bipush (v := (-9)) dX10_count_171 (by decide) ?_
    exact bj_iret dX10_count_173
  refine bj_ite (fun h38 => ?_) (fun h38 => ?_)
  · refine bj_tblIn (tgt := 171) (kv := 15) (off := 148) dX10_count_23 h38 (by decide) (by decide) rfl (by decide) ?_
    refine bj_bipush (v := (-9)) dX10_count_171 (by decide) ?_
    exact bj_iret dX10_count_173
  refine bj_ite (fun h39 => ?_) (fun h39 => ?_)
  · refine bj_tblIn (tgt := 171) (kv := 16) (off := 148) dX10_count_23 h39 (by decide) (by decide) rfl (by decide) ?_
    refine bj_bipush (v := (-9)) dX10_count_171 (by decide) ?_
    exact bj_iret dX10_count_173
  refine bj_ite (fun h40 => ?_) (fun h40 => ?_)
  · refine bj_tblIn (tgt := 158) (kv := 17) (off := 135) dX10_count_23 h40 (by decide) (by decide) rfl (by decide) ?_
    refine bj_aload_nS dX10_count_158 rfl 0 rfl ?_
    refine bj_getI (ci := 11) (k := 17) (C := RX10) (T := TX10) (N := 49) rfl hi_X10_count_X10 (by decide) rfl fl_X10_count_161 (Or.inl rfl) dX10_count_159 (fun v41 h42 => ?_)
    refine bj_if_eq (tgt := 169) dX10_count_162 (by decide) (fun h43 => ?_) (fun h43 => ?_)
    · refine bj_iconst (v := 0) dX10_count_169 (by decide) ?_
      exact bj_iret dX10_count_170
    · refine bj_iconst (v := 1) dX10_count_165 (by decide) ?_
      refine bj_goto (tgt := 170) dX10_count_166 (by decide) ?_
      exact bj_iret dX10_count_170
  refine bj_tblOut (tgt := 171) dX10_count_23 (by have h1n := lv_neT h1 (show (0 : Int32).toInt = 0 by decide); have h4n := lv_neT h4 (show (1 : Int32).toInt = 1 by decide); have h7n := lv_neT h7 (show (2 : Int32).toInt = 2 by decide); have h10n := lv_neT h10 (show (3 : Int32).toInt = 3 by decide); have h15n := lv_neT h15 (show (4 : Int32).toInt = 4 by decide); have h18n := lv_neT h18 (show (5 : Int32).toInt = 5 by decide); have h21n := lv_neT h21 (show (6 : Int32).toInt = 6 by decide); have h24n := lv_neT h24 (show (7 : Int32).toInt = 7 by decide); have h27n := lv_neT h27 (show (8 : Int32).toInt = 8 by decide); have h30n := lv_neT h30 (show (9 : Int32).toInt = 9 by decide); have h33n := lv_neT h33 (show (10 : Int32).toInt = 10 by decide); have h34n := lv_neT h34 (show (11 : Int32).toInt = 11 by decide); have h35n := lv_neT h35 (show (12 : Int32).toInt = 12 by decide); have h36n := lv_neT h36 (show (13 : Int32).toInt = 13 by decide); have h37n := lv_neT h37 (show (14 : Int32).toInt = 14 by decide); have h38n := lv_neT h38 (show (15 : Int32).toInt = 15 by decide); have h39n := lv_neT h39 (show (16 : Int32).toInt = 16 by decide); have h40n := lv_neT h40 (show (17 : Int32).toInt = 17 by decide); omega) (by decide) ?_
  refine bj_bipush (v := (-9)) dX10_count_171 (by decide) ?_
  exact bj_iret dX10_count_173
def f_X10_count (N : Nat) (this : Nat) (p1 : Int32) (σ : bh_S) : Option (Int32 × bh_S) :=
  if p1 ≤ 10 then
    f_X10_count_b22 N this p1 σ
  else
    if 17 ≤ p1 then
      f_X10_count_b22 N this p1 σ
    else
      (bh_rdR σ 11 this 0).bind fun v3 =>
      (v3).bind fun a5 =>
      (bh_ldI σ 12 a5 (p1 - 10)).bind fun v7 =>
      some (v7, σ)
set_option maxHeartbeats 4000000 in
set_option maxRecDepth 100000 in
theorem c_X10_count (X : bh_X) (N : Nat) (this : Nat) (p1 : Int32) (σ : bh_S) : bh_MX eI X yX10_count wsX10_count 1 22 [.ref this, .int p1] σ (f_X10_count N this p1 σ) := by
  refine bh_enter (cc := cX10_count) (NL := 2) (ret := (some .int)) (by decide) rfl (Nat.le_of_ble_eq_true rfl) (fun X => ?_)
  show bh_J eI yX10_count cX10_count wsX10_count (some .int) 2 1 22 X σ 0 [(0, .ref this), (1, .int p1)] [] _
  unfold f_X10_count
  refine bj_iload_n dX10_count_0 rfl 1 rfl ?_
  refine bj_bipush (v := 10) dX10_count_1 (by decide) ?_
  refine bj_icmp_le (tgt := 22) dX10_count_3 (by decide) (fun h1 => ?_) (fun h1 => ?_)
  · refine bj_sub (lv' := [(0, .ref this), (1, .int p1)]) [0, 1] rfl ?_
    exact j_X10_count_b22 X N this p1 σ
  · refine bj_iload_n dX10_count_6 rfl 1 rfl ?_
    refine bj_bipush (v := 17) dX10_count_7 (by decide) ?_
    refine bj_icmp_ge (tgt := 22) dX10_count_9 (by decide) (fun h2 => ?_) (fun h2 => ?_)
    · refine bj_sub (lv' := [(0, .ref this), (1, .int p1)]) [0, 1] rfl ?_
      exact j_X10_count_b22 X N this p1 σ
    · refine bj_aload_nS dX10_count_12 rfl 0 rfl ?_
      refine bj_getR (ci := 11) (k := 0) (C := RX10) (T := TX10) (N := 49) rfl hi_X10_count_X10 (by decide) rfl fl_X10_count_7 (Or.inl rfl) dX10_count_13 (fun v3 h4 => ?_)
      refine bj_iload_n dX10_count_16 rfl 1 rfl ?_
      refine bj_bipush (v := 10) dX10_count_17 (by decide) ?_
      refine bj_isub dX10_count_19 ?_
      refine bj_nn (fun a5 h6 => ?_)
      subst h6
      refine bj_iald dX10_count_20 (fun v7 h8 => ?_)
      exact bj_iret dX10_count_21
