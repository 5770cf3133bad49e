/-! BeetHouse.cover(IZ)I -/
set_option maxRecDepth 100000 in
theorem g_X9_cover_X9_plotAt_106 : GoodIn wsX9_cover (wsV yX9_cover.cls 106 RX9 yX9_plotAt wsX9_plotAt) := goodIn_r _ [1, 2, 3, 4, 5, 6, 7, 8, 9, 10, 11, 12, 13, 14, 15, 16, 17, 18, 19, 20, 21, 22, 23, 24, 25, 26, 27, 28, 29, 30, 50, 51, 52, 53, 54, 55, 56, 57, 58, 59, 60, 61, 62, 63, 64] rfl (by decide +kernel)
set_option maxRecDepth 100000 in
theorem g_X9_cover_X9_refuse_82 : GoodIn wsX9_cover (wsV yX9_cover.cls 82 RX9 yX9_refuse wsX9_refuse) := goodIn_r _ [31, 32, 33, 4, 34, 35, 50, 51, 52, 53, 54, 55, 56, 57, 58, 59, 60, 61] rfl (by decide +kernel)
theorem hi_X9_cover_X6 : ∀ w ∈ u_ws RX6 TX6 14, w ∈ wsX9_cover := fun _ h => (List.mem_cons_of_mem _ (List.mem_append_left _ (List.mem_append_left _ (List.mem_append_right _ h))))
set_option maxRecDepth 100000 in
theorem fl_X9_cover_163 : bh_fl wsX9_cover yX9_cover.cls 163 "BeetHouse$Plot" "roots" "I" := Or.inr ⟨"BeetHouse", List.mem_of_getElem? (i := 27) rfl⟩
set_option maxRecDepth 100000 in
theorem fl_X9_cover_166 : bh_fl wsX9_cover yX9_cover.cls 166 "BeetHouse$Plot" "frozen" "Z" := Or.inr ⟨"BeetHouse", List.mem_of_getElem? (i := 31) rfl⟩
set_option maxRecDepth 100000 in
theorem fl_X9_cover_169 : bh_fl wsX9_cover yX9_cover.cls 169 "BeetHouse$Plot" "covered" "Z" := Or.inr ⟨"BeetHouse", List.mem_of_getElem? (i := 30) rfl⟩
def f_X9_cover_b30 (this : Nat) (σ : bh_S) : Option (Int32 × bh_S) :=
  (bh_ck σ this 10).bind fun _ =>
  bh_bnd (f_X9_refuse this (-3) σ) fun v2 σ3 =>
  some (v2, σ3)
set_option maxHeartbeats 4000000 in
set_option maxRecDepth 100000 in
theorem j_X9_cover_b30 (X : bh_X) (this : Nat) (σ : bh_S) : bh_J eI yX9_cover cX9_cover wsX9_cover (some .int) 4 4 85 X σ 30 [(0, .ref this)] [] (f_X9_cover_b30 this σ) := by
  unfold f_X9_cover_b30
  refine bj_aload_nS dX9_cover_30 rfl 0 rfl ?_
  refine bj_bipush (v := (-3)) dX9_cover_31 (by decide) ?_
  refine bj_op (fun _ h1 => ?_)
  refine bj_callI (br_V (As := [.int (-3)]) (rest := []) (q := (RX9, TX9, 12)) (c_X9_refuse X this (-3) σ) rfl g_X9_cover_X9_refuse_82 rfl (bh_ck_spec h1) ⟨rfl, hd_X9_refuse⟩ rfl ⟨by decide, by decide⟩ rfl (Nat.le_of_ble_eq_true rfl) dX9_cover_33) (fun v2 σ3 h4 => ?_)
  exact bj_iret dX9_cover_36
def f_X9_cover (this : Nat) (p1 : Int32) (p2 : Int32) (σ : bh_S) : Option (Int32 × bh_S) :=
  (bh_ck σ this 10).bind fun _ =>
  bh_bnd (f_X9_plotAt this p1 σ) fun v2 σ3 =>
  bh_cs v2 (
    (bh_ck σ3 this 10).bind fun _ =>
    bh_bnd (f_X9_refuse this (-1) σ3) fun v8 σ9 =>
    some (v8, σ9)
  ) (fun a5 =>
    (bh_rdI σ3 7 a5 6).bind fun v11 =>
    if v11 = 0 then
      f_X9_cover_b30 this σ3
    else
      (bh_rdI σ3 7 a5 9).bind fun v14 =>
      if v14 = 0 then
        (bh_rdI σ3 7 a5 8).bind fun v17 =>
        if v17 = p2 then
          some (0, σ3)
        else
          (bh_wrZ σ3 7 a5 8 p2).bind fun σ20 =>
          some (1, σ20)
      else
        f_X9_cover_b30 this σ3
  )
set_option maxHeartbeats 4000000 in
set_option maxRecDepth 100000 in
theorem c_X9_cover (X : bh_X) (this : Nat) (p1 : Int32) (p2 : Int32) (σ : bh_S) : bh_MX eI X yX9_cover wsX9_cover 4 85 [.ref this, .int p1, .int p2] σ (f_X9_cover this p1 p2 σ) := by
  refine bh_enter (cc := cX9_cover) (NL := 4) (ret := (some .int)) (by decide) rfl (Nat.le_of_ble_eq_true rfl) (fun X => ?_)
  show bh_J eI yX9_cover cX9_cover wsX9_cover (some .int) 4 4 85 X σ 0 [(0, .ref this), (1, .int p1), (2, .int p2)] [] _
  unfold f_X9_cover
  refine bj_aload_nS dX9_cover_0 rfl 0 rfl ?_
  refine bj_iload_n dX9_cover_1 rfl 1 rfl ?_
  refine bj_op (fun _ h1 => ?_)
  refine bj_callR (br_V (As := [.int p1]) (rest := []) (q := (RX9, TX9, 12)) (c_X9_plotAt X this p1 σ) rfl g_X9_cover_X9_plotAt_106 rfl (bh_ck_spec h1) ⟨rfl, hd_X9_plotAt⟩ rfl ⟨by decide, by decide⟩ rfl (Nat.le_of_ble_eq_true rfl) dX9_cover_2) (fun v2 σ3 h4 => ?_)
  refine bj_astore_n (lv' := [(3, va_rf v2), (0, .ref this), (1, .int p1), (2, .int p2)]) (o := v2) dX9_cover_5 rfl (by decide) rfl ?_
  refine bj_aload_n dX9_cover_6 rfl 0 rfl ?_
  refine bj_ifnonnull (o := v2) (tgt := 16) dX9_cover_7 (by decide) (fun h6 => ?_) (fun a5 h6 => ?_)
  · subst h6
    refine bj_aload_nS dX9_cover_10 rfl 1 rfl ?_
    refine bj_iconst (v := (-1)) dX9_cover_11 (by decide) ?_
    refine bj_op (fun _ h7 => ?_)
    refine bj_callI (br_V (As := [.int (-1)]) (rest := []) (q := (RX9, TX9, 12)) (c_X9_refuse X this (-1) σ3) rfl g_X9_cover_X9_refuse_82 rfl (bh_ck_spec h7) ⟨rfl, hd_X9_refuse⟩ rfl ⟨by decide, by decide⟩ rfl (Nat.le_of_ble_eq_true rfl) dX9_cover_12) (fun v8 σ9 h10 => ?_)
    exact bj_iret dX9_cover_15
  · subst h6
    refine bj_aload_nS dX9_cover_16 rfl 0 rfl ?_
    refine bj_getI (ci := 7) (k := 6) (C := RX6) (T := TX6) (N := 14) rfl hi_X9_cover_X6 (by decide) rfl fl_X9_cover_163 (Or.inl rfl) dX9_cover_17 (fun v11 h12 => ?_)
    refine bj_if_eq (tgt := 30) dX9_cover_20 (by decide) (fun h13 => ?_) (fun h13 => ?_)
    · refine bj_sub (lv' := [(0, .ref this)]) [1] rfl ?_
      exact j_X9_cover_b30 X this σ3
    · refine bj_aload_nS dX9_cover_23 rfl 0 rfl ?_
      refine bj_getI (ci := 7) (k := 9) (C := RX6) (T := TX6) (N := 14) rfl hi_X9_cover_X6 (by decide) rfl fl_X9_cover_166 (Or.inl rfl) dX9_cover_24 (fun v14 h15 => ?_)
      refine bj_if_eq (tgt := 37) dX9_cover_27 (by decide) (fun h16 => ?_) (fun h16 => ?_)
      · refine bj_aload_nS dX9_cover_37 rfl 0 rfl ?_
        refine bj_getI (ci := 7) (k := 8) (C := RX6) (T := TX6) (N := 14) rfl hi_X9_cover_X6 (by decide) rfl fl_X9_cover_169 (Or.inl rfl) dX9_cover_38 (fun v17 h18 => ?_)
        refine bj_iload_n dX9_cover_41 rfl 3 rfl ?_
        refine bj_icmp_ne (tgt := 47) dX9_cover_42 (by decide) (fun h19 => ?_) (fun h19 => ?_)
        · refine bj_aload_nS dX9_cover_47 rfl 0 rfl ?_
          refine bj_iload_n dX9_cover_48 rfl 3 rfl ?_
          refine bj_putZ (ci := 7) (k := 8) (C := RX6) (T := TX6) (N := 14) rfl hi_X9_cover_X6 (by decide) rfl fl_X9_cover_169 (Or.inl rfl) tyX6 tyX6_ok nmX6 rfl (Or.inl rfl) dX9_cover_49 (fun σ20 h21 => ?_)
          refine bj_iconst (v := 1) dX9_cover_52 (by decide) ?_
          exact bj_iret dX9_cover_53
        · refine bj_iconst (v := 0) dX9_cover_45 (by decide) ?_
          exact bj_iret dX9_cover_46
      · refine bj_sub (lv' := [(0, .ref this)]) [1] rfl ?_
        exact j_X9_cover_b30 X this σ3
/-! BeetHouse.frost(Z)I -/
theorem hi_X9_frost_X9 : ∀ w ∈ u_ws RX9 TX9 12, w ∈ wsX9_frost := fun _ h => (List.mem_cons_of_mem _ (List.mem_append_left _ (List.mem_append_left _ (List.mem_append_right _ h))))
set_option maxRecDepth 100000 in
theorem fl_X9_frost_66 : bh_fl wsX9_frost yX9_frost.cls 66 "BeetHouse" "freezing" "Z" := Or.inl (List.mem_of_getElem? (i := 1) rfl)
set_option maxRecDepth 100000 in
theorem g_X9_frost_X9_refuse_82 : GoodIn wsX9_frost (wsV yX9_frost.cls 82 RX9 yX9_refuse wsX9_refuse) := goodIn_r _ [5, 6, 7, 8, 9, 10, 45, 46, 47, 48, 49, 50, 51, 52, 53, 54, 55, 56] rfl (by decide +kernel)
set_option maxRecDepth 100000 in
theorem fl_X9_frost_18 : bh_fl wsX9_frost yX9_frost.cls 18 "BeetHouse" "plots" "Ljava/util/ArrayList;" := Or.inl (List.mem_of_getElem? (i := 2) rfl)
set_option maxRecDepth 100000 in
theorem g_X9_frost_Jx4a65c_size_8abf5_93 : GoodIn wsX9_frost (wsV yX9_frost.cls 93 RJx4a65c yJx4a65c_size_8abf5 wsJx4a65c_size_8abf5) := goodIn_r _ [11, 12, 13, 14, 15, 16, 57, 58, 59] rfl (by decide +kernel)
set_option maxRecDepth 100000 in
theorem g_X9_frost_Jx4a65c_get_915e3_172 : GoodIn wsX9_frost (wsV yX9_frost.cls 172 RJx4a65c yJx4a65c_get_915e3 wsJx4a65c_get_915e3) := goodIn_r _ [17, 18, 19, 14, 20, 16, 21, 22, 23, 24, 25, 26, 27, 28, 29, 30, 31, 14, 32, 33, 57, 58, 59] rfl (by decide +kernel)
set_option maxRecDepth 100000 in
theorem fl_X9_frost_70 : bh_fl wsX9_frost yX9_frost.cls 70 "BeetHouse" "hour" "I" := Or.inl (List.mem_of_getElem? (i := 4) rfl)
set_option maxRecDepth 100000 in
theorem g_X9_frost_X6_thaw : GoodIn wsX9_frost wsX6_thaw := goodIn_r _ [44, 40, 38, 41, 60, 61, 62, 63, 64, 65, 66, 67, 68, 69, 70, 71, 72, 73] rfl (by decide +kernel)
set_option maxRecDepth 100000 in
theorem g_X9_frost_X6_freeze : GoodIn wsX9_frost wsX6_freeze := goodIn_r _ [37, 38, 39, 40, 41, 60, 61, 62, 63, 64, 65, 66, 67, 68, 69, 70, 71, 72, 73] rfl (by decide +kernel)
def f_X9_frost_b78 (N : Nat) (k24 : Nat → Int32 → Int32 → Int32 → bh_S → Option (Int32 × bh_S)) (this : Nat) (x1 : Int32) (x2 : Int32) (x3 : Int32) (σ : bh_S) : Option (Int32 × bh_S) :=
  k24 this x1 x2 (x3 + 1) σ
set_option maxHeartbeats 4000000 in
set_option maxRecDepth 100000 in
theorem j_X9_frost_b78 (X : bh_X) (N : Nat) (k24 : Nat → Int32 → Int32 → Int32 → bh_S → Option (Int32 × bh_S)) (hk24 : ∀ (this : Nat) (x1 : Int32) (x2 : Int32) (x3 : Int32) (σ : bh_S), bh_J eI yX9_frost cX9_frost wsX9_frost (some .int) 5 3 64 X σ 24 [(0, .ref this), (1, .int x1), (2, .int x2), (3, .int x3)] [] (k24 this x1 x2 x3 σ)) (this : Nat) (x1 : Int32) (x2 : Int32) (x3 : Int32) (σ : bh_S) : bh_J eI yX9_frost cX9_frost wsX9_frost (some .int) 5 3 64 X σ 78 [(0, .ref this), (1, .int x1), (2, .int x2), (3, .int x3)] [] (f_X9_frost_b78 N k24 this x1 x2 x3 σ) := by
  unfold f_X9_frost_b78
  refine bj_iinc (v := x3 + 1) (lv' := [(3, .int (x3 + 1)), (0, .ref this), (1, .int x1), (2, .int x2)]) dX9_frost_78 3 rfl rfl (by decide) rfl ?_
  refine bj_goto (tgt := 24) dX9_frost_81 (by decide) ?_
  refine bj_sub (lv' := [(0, .ref this), (1, .int x1), (2, .int x2), (3, .int (x3 + 1))]) [1, 2, 3, 0] rfl ?_
  exact hk24 this x1 x2 (x3 + 1) σ
def f_X9_frost_b75 (N : Nat) (k24 : Nat → Int32 → Int32 → Int32 → bh_S → Option (Int32 × bh_S)) (this : Nat) (x1 : Int32) (x2 : Int32) (x3 : Int32) (σ : bh_S) : Option (Int32 × bh_S) :=
  f_X9_frost_b78 N k24 this x1 (x2 + 1) x3 σ
set_option maxHeartbeats 4000000 in
set_option maxRecDepth 100000 in
theorem j_X9_frost_b75 (X : bh_X) (N : Nat) (k24 : Nat → Int32 → Int32 → Int32 → bh_S → Option (Int32 × bh_S)) (hk24 : ∀ (this : Nat) (x1 : Int32) (x2 : Int32) (x3 : Int32) (σ : bh_S), bh_J eI yX9_frost cX9_frost wsX9_frost (some .int) 5 3 64 X σ 24 [(0, .ref this), (1, .int x1), (2, .int x2), (3, .int x3)] [] (k24 this x1 x2 x3 σ)) (this : Nat) (x1 : Int32) (x2 : Int32) (x3 : Int32) (σ : bh_S) : bh_J eI yX9_frost cX9_frost wsX9_frost (some .int) 5 3 64 X σ 75 [(0, .ref this), (1, .int x1), (2, .int x2), (3, .int x3)] [] (f_X9_frost_b75 N k24 this x1 x2 x3 σ) := by
  unfold f_X9_frost_b75
  refine bj_iinc (v := x2 + 1) (lv' := [(2, .int (x2 + 1)), (0, .ref this), (1, .int x1), (3, .int x3)]) dX9_frost_75 2 rfl rfl (by decide) rfl ?_
  refine bj_sub (lv' := [(0, .ref this), (1, .int x1), (2, .int (x2 + 1)), (3, .int x3)]) [1, 2, 0, 3] rfl ?_
  exact j_X9_frost_b78 X N k24 hk24 this x1 (x2 + 1) x3 σ
def f_X9_frost_b24 (N : Nat) : Nat → Nat → Int32 → Int32 → Int32 → bh_S → Option (Int32 × bh_S)
  | 0, _, _, _, _, _ => none
  | n + 1, this, x1, x2, x3, σ =>
    (bh_rdR σ 10 this 1).bind fun v1 =>
    (v1).bind fun a3 =>
    (bh_ck σ a3 0).bind fun _ =>
    bh_bnd (f_Jx4a65c_size_8abf5 a3 σ) fun v6 σ7 =>
    if v6 ≤ x3 then
      some (x2, σ7)
    else
      (bh_rdR σ7 10 this 1).bind fun v10 =>
      (v10).bind fun a12 =>
      (bh_ck σ7 a12 0).bind fun _ =>
      bh_bnd (f_Jx4a65c_get_915e3 a12 x3 σ7) fun v15 σ16 =>
      (bh_cst σ16 7 v15).bind fun _ =>
      if x1 = 0 then
        (bh_rdI σ16 10 this 11).bind fun v19 =>
        (v15).bind fun a21 =>
        (bh_ck σ16 a21 7).bind fun _ =>
        bh_bnd (f_X6_thaw a21 v19 σ16) fun v24 σ25 =>
        if v24 = 0 then
          f_X9_frost_b78 N (f_X9_frost_b24 N n) this x1 x2 x3 σ25
        else
          f_X9_frost_b75 N (f_X9_frost_b24 N n) this x1 x2 x3 σ25
      else
        (v15).bind fun a28 =>
        (bh_ck σ16 a28 7).bind fun _ =>
        bh_bnd (f_X6_freeze a28 σ16) fun v31 σ32 =>
        if v31 = 0 then
          f_X9_frost_b78 N (f_X9_frost_b24 N n) this x1 x2 x3 σ32
        else
          f_X9_frost_b75 N (f_X9_frost_b24 N n) this x1 x2 x3 σ32
set_option maxHeartbeats 4000000 in
set_option maxRecDepth 100000 in
theorem j_X9_frost_b24 (X : bh_X) (N : Nat) : ∀ (n : Nat) (this : Nat) (x1 : Int32) (x2 : Int32) (x3 : Int32) (σ : bh_S), bh_J eI yX9_frost cX9_frost wsX9_frost (some .int) 5 3 64 X σ 24 [(0, .ref this), (1, .int x1), (2, .int x2), (3, .int x3)] [] (f_X9_frost_b24 N n this x1 x2 x3 σ) := by
  intro n
  induction n with
  | zero => intro this x1 x2 x3 σ; exact bj_none
  | succ n ih =>
    intro this x1 x2 x3 σ
    unfold f_X9_frost_b24
    refine bj_iload_n dX9_frost_24 rfl 3 rfl ?_
    refine bj_aload_nS dX9_frost_25 rfl 0 rfl ?_
    refine bj_getR (ci := 10) (k := 1) (C := RX9) (T := TX9) (N := 12) rfl hi_X9_frost_X9 (by decide) rfl fl_X9_frost_18 (Or.inl rfl) dX9_frost_26 (fun v1 h2 => ?_)
    refine bj_nn (fun a3 h4 => ?_)
    subst h4
    refine bj_op (fun _ h5 => ?_)
    refine bj_callI (br_V (As := []) (rest := [.int x3]) (q := (RJx4a65c, TJx4a65c, 3)) (c_Jx4a65c_size_8abf5 X a3 σ) rfl g_X9_frost_Jx4a65c_size_8abf5_93 rfl (bh_ck_spec h5) ⟨rfl, hd_Jx4a65c_size_8abf5⟩ rfl ⟨by decide, by decide⟩ rfl (Nat.le_of_ble_eq_true rfl) dX9_frost_29) (fun v6 σ7 h8 => ?_)
    refine bj_icmp_ge (tgt := 84) dX9_frost_32 (by decide) (fun h9 => ?_) (fun h9 => ?_)
    · refine bj_iload_n dX9_frost_84 rfl 2 rfl ?_
      exact bj_iret dX9_frost_85
    · refine bj_aload_nS dX9_frost_35 rfl 0 rfl ?_
      refine bj_getR (ci := 10) (k := 1) (C := RX9) (T := TX9) (N := 12) rfl hi_X9_frost_X9 (by decide) rfl fl_X9_frost_18 (Or.inl rfl) dX9_frost_36 (fun v10 h11 => ?_)
      refine bj_iload_n dX9_frost_39 rfl 3 rfl ?_
      refine bj_nn (fun a12 h13 => ?_)
      subst h13
      refine bj_op (fun _ h14 => ?_)
      refine bj_callR (br_V (As := [.int x3]) (rest := []) (q := (RJx4a65c, TJx4a65c, 3)) (c_Jx4a65c_get_915e3 X a12 x3 σ7) rfl g_X9_frost_Jx4a65c_get_915e3_172 rfl (bh_ck_spec h14) ⟨rfl, hd_Jx4a65c_get_915e3⟩ rfl ⟨by decide, by decide⟩ rfl (Nat.le_of_ble_eq_true rfl) dX9_frost_40) (fun v15 σ16 h17 => ?_)
      refine bj_cast (ci := 7) (C := RX6) (T := TX6) (N := 14) (o := v15) rfl (List.mem_of_getElem? (i := 3) rfl) dX9_frost_43 ?_
      refine bj_astore (lv' := [(4, va_rf v15), (0, .ref this), (1, .int x1), (2, .int x2), (3, .int x3)]) (o := v15) dX9_frost_46 (by decide) rfl ?_
      refine bj_iload_n dX9_frost_48 rfl 2 rfl ?_
      refine bj_if_eq (tgt := 63) dX9_frost_49 (by decide) (fun h18 => ?_) (fun h18 => ?_)
      · refine bj_aload dX9_frost_63 0 rfl ?_
        refine bj_aload_nS dX9_frost_65 rfl 1 rfl ?_
        refine bj_getI (ci := 10) (k := 11) (C := RX9) (T := TX9) (N := 12) rfl hi_X9_frost_X9 (by decide) rfl fl_X9_frost_70 (Or.inl rfl) dX9_frost_66 (fun v19 h20 => ?_)
        refine bj_nn (fun a21 h22 => ?_)
        subst h22
        refine bj_op (fun _ h23 => ?_)
        refine bj_callI (br_VN (As := [.int v19]) (rest := []) (host := "BeetHouse") (q := (RX6, TX6, 14)) (c_X6_thaw X a21 v19 σ16) rfl g_X9_frost_X6_thaw (List.mem_of_getElem? (i := 65) rfl) (List.mem_of_getElem? (i := 35) rfl) (List.mem_of_getElem? (i := 42) rfl) (List.mem_of_getElem? (i := 43) rfl) rfl (bh_ck_spec h23) hd_X6_thaw rfl ⟨by decide, by decide⟩ rfl (Nat.le_of_ble_eq_true rfl) dX9_frost_69) (fun v24 σ25 h26 => ?_)
        refine bj_if_eq (tgt := 78) dX9_frost_72 (by decide) (fun h27 => ?_) (fun h27 => ?_)
        · refine bj_sub (lv' := [(0, .ref this), (1, .int x1), (2, .int x2), (3, .int x3)]) [1, 2, 3, 4] rfl ?_
          exact j_X9_frost_b78 X N (f_X9_frost_b24 N n) ih this x1 x2 x3 σ25
        · refine bj_sub (lv' := [(0, .ref this), (1, .int x1), (2, .int x2), (3, .int x3)]) [1, 2, 3, 4] rfl ?_
          exact j_X9_frost_b75 X N (f_X9_frost_b24 N n) ih this x1 x2 x3 σ25
      · refine bj_aload dX9_frost_52 0 rfl ?_
        refine bj_nn (fun a28 h29 => ?_)
        subst h29
        refine bj_op (fun _ h30 => ?_)
        refine bj_callI (br_VN (As := []) (rest := []) (host := "BeetHouse") (q := (RX6, TX6, 14)) (c_X6_freeze X a28 σ16) rfl g_X9_frost_X6_freeze (List.mem_of_getElem? (i := 64) rfl) (List.mem_of_getElem? (i := 35) rfl) (List.mem_of_getElem? (i := 34) rfl) (List.mem_of_getElem? (i := 36) rfl) rfl (bh_ck_spec h30) hd_X6_freeze rfl ⟨by decide, by decide⟩ rfl (Nat.le_of_ble_eq_true rfl) dX9_frost_54) (fun v31 σ32 h33 => ?_)
        refine bj_if_eq (tgt := 78) dX9_frost_57 (by decide) (fun h34 => ?_) (fun h34 => ?_)
        · refine bj_sub (lv' := [(0, .ref this), (1, .int x1), (2, .int x2), (3, .int x3)]) [1, 2, 3, 4] rfl ?_
          exact j_X9_frost_b78 X N (f_X9_frost_b24 N n) ih this x1 x2 x3 σ32
        · refine bj_goto (tgt := 75) dX9_frost_60 (by decide) ?_
          refine bj_sub (lv' := [(0, .ref this), (1, .int x1), (2, .int x2), (3, .int x3)]) [1, 2, 3, 4] rfl ?_
          exact j_X9_frost_b75 X N (f_X9_frost_b24 N n) ih this x1 x2 x3 σ32
def f_X9_frost (N : Nat) (this : Nat) (p1 : Int32) (σ : bh_S) : Option (Int32 × bh_S) :=
  (bh_rdI σ 10 this 10).bind fun v1 =>
  if v1 = p1 then
    (bh_ck σ this 10).bind fun _ =>
    bh_bnd (f_X9_refuse this (-3) σ) fun v7 σ8 =>
    some (v7, σ8)
  else
    (bh_wrZ σ 10 this 10 p1).bind fun σ4 =>
    f_X9_frost_b24 N N this p1 0 0 σ4
set_option maxHeartbeats 4000000 in
set_option maxRecDepth 100000 in
theorem c_X9_frost (X : bh_X) (N : Nat) (this : Nat) (p1 : Int32) (σ : bh_S) : bh_MX eI X yX9_frost wsX9_frost 3 64 [.ref this, .int p1] σ (f_X9_frost N this p1 σ) := by
  refine bh_enter (cc := cX9_frost) (NL := 5) (ret := (some .int)) (by decide) rfl (Nat.le_of_ble_eq_true rfl) (fun X => ?_)
  show bh_J eI yX9_frost cX9_frost wsX9_frost (some .int) 5 3 64 X σ 0 [(0, .ref this), (1, .int p1)] [] _
  unfold f_X9_frost
  refine bj_aload_nS dX9_frost_0 rfl 0 rfl ?_
  refine bj_getI (ci := 10) (k := 10) (C := RX9) (T := TX9) (N := 12) rfl hi_X9_frost_X9 (by decide) rfl fl_X9_frost_66 (Or.inl rfl) dX9_frost_1 (fun v1 h2 => ?_)
  refine bj_iload_n dX9_frost_4 rfl 1 rfl ?_
  refine bj_icmp_ne (tgt := 15) dX9_frost_5 (by decide) (fun h3 => ?_) (fun h3 => ?_)
  · refine bj_aload_nS dX9_frost_15 rfl 0 rfl ?_
    refine bj_iload_n dX9_frost_16 rfl 1 rfl ?_
    refine bj_putZ (ci := 10) (k := 10) (C := RX9) (T := TX9) (N := 12) rfl hi_X9_frost_X9 (by decide) rfl fl_X9_frost_66 (Or.inl rfl) tyX9 tyX9_ok nmX9 rfl (Or.inl rfl) dX9_frost_17 (fun σ4 h5 => ?_)
    refine bj_iconst (v := 0) dX9_frost_20 (by decide) ?_
    refine bj_istore_n (lv' := [(2, .int 0), (0, .ref this), (1, .int p1)]) dX9_frost_21 rfl (by decide) rfl ?_
    refine bj_iconst (v := 0) dX9_frost_22 (by decide) ?_
    refine bj_istore_n (lv' := [(3, .int 0), (2, .int 0), (0, .ref this), (1, .int p1)]) dX9_frost_23 rfl (by decide) rfl ?_
    refine bj_sub (lv' := [(0, .ref this), (1, .int p1), (2, .int 0), (3, .int 0)]) [2, 3, 1, 0] rfl ?_
    exact j_X9_frost_b24 X N N this p1 0 0 σ4
  · refine bj_aload_nS dX9_frost_8 rfl 0 rfl ?_
    refine bj_bipush (v := (-3)) dX9_frost_9 (by decide) ?_
    refine bj_op (fun _ h6 => ?_)
    refine bj_callI (br_V (As := [.int (-3)]) (rest := []) (q := (RX9, TX9, 12)) (c_X9_refuse X this (-3) σ) rfl g_X9_frost_X9_refuse_82 rfl (bh_ck_spec h6) ⟨rfl, hd_X9_refuse⟩ rfl ⟨by decide, by decide⟩ rfl (Nat.le_of_ble_eq_true rfl) dX9_frost_11) (fun v7 σ8 h9 => ?_)
    exact bj_iret dX9_frost_14
/-! BeetHouse.liftRoots()V -/
theorem hi_X9_liftRoots_X9 : ∀ w ∈ u_ws RX9 TX9 12, w ∈ wsX9_liftRoots := fun _ h => (List.mem_cons_of_mem _ (List.mem_append_left _ (List.mem_append_left _ (List.mem_append_right _ h))))
set_option maxRecDepth 100000 in
theorem fl_X9_liftRoots_24 : bh_fl wsX9_liftRoots yX9_liftRoots.cls 24 "BeetHouse" "gangs" "[LBeetHouse$Gang;" := Or.inl (List.mem_of_getElem? (i := 1) rfl)
theorem hi_X9_liftRoots_X1 : ∀ w ∈ u_ws RX1 TX1 2, w ∈ wsX9_liftRoots := fun _ h => (List.mem_cons_of_mem _ (List.mem_append_left _ (List.mem_append_right _ h)))
set_option maxRecDepth 100000 in
theorem fl_X9_liftRoots_113 : bh_fl wsX9_liftRoots yX9_liftRoots.cls 113 "BeetHouse$Gang" "plot" "LBeetHouse$Plot;" := Or.inr ⟨"BeetHouse", List.mem_of_getElem? (i := 18) rfl⟩
set_option maxRecDepth 100000 in
theorem fl_X9_liftRoots_110 : bh_fl wsX9_liftRoots yX9_liftRoots.cls 110 "BeetHouse$Gang" "rate" "I" := Or.inr ⟨"BeetHouse", List.mem_of_getElem? (i := 17) rfl⟩
set_option maxRecDepth 100000 in
theorem g_X9_liftRoots_X6_lift : GoodIn wsX9_liftRoots wsX6_lift := goodIn_r _ [5, 6, 7, 8, 9, 10, 11, 12, 13, 28, 29, 30, 31, 32, 33, 34, 35, 36, 37, 38, 39, 40, 41] rfl (by decide +kernel)
def f_X9_liftRoots_b34 (N : Nat) (k2 : Nat → Int32 → bh_S → Option (Unit × bh_S)) (this : Nat) (x1 : Int32) (σ : bh_S) : Option (Unit × bh_S) :=
  k2 this (x1 + 1) σ
set_option maxHeartbeats 4000000 in
set_option maxRecDepth 100000 in
theorem j_X9_liftRoots_b34 (X : bh_X) (N : Nat) (k2 : Nat → Int32 → bh_S → Option (Unit × bh_S)) (hk2 : ∀ (this : Nat) (x1 : Int32) (σ : bh_S), bh_J eU yX9_liftRoots cX9_liftRoots wsX9_liftRoots none 3 2 35 X σ 2 [(0, .ref this), (1, .int x1)] [] (k2 this x1 σ)) (this : Nat) (x1 : Int32) (σ : bh_S) : bh_J eU yX9_liftRoots cX9_liftRoots wsX9_liftRoots none 3 2 35 X σ 34 [(0, .ref this), (1, .int x1)] [] (f_X9_liftRoots_b34 N k2 this x1 σ) := by
  unfold f_X9_liftRoots_b34
  refine bj_iinc (v := x1 + 1) (lv' := [(1, .int (x1 + 1)), (0, .ref this)]) dX9_liftRoots_34 1 rfl rfl (by decide) rfl ?_
  refine bj_goto (tgt := 2) dX9_liftRoots_37 (by decide) ?_
  refine bj_sub (lv' := [(0, .ref this), (1, .int (x1 + 1))]) [1, 0] rfl ?_
  exact hk2 this (x1 + 1) σ
def f_X9_liftRoots_b2 (N : Nat) : Nat → Nat → Int32 → bh_S → Option (Unit × bh_S)
  | 0, _, _, _ => none
  | n + 1, this, x1, σ =>
    if 4 ≤ x1 then
      some ((), σ)
    else
      (bh_rdR σ 10 this 2).bind fun v2 =>
      (v2).bind fun a4 =>
      (bh_ldR σ 15 a4 x1).bind fun v6 =>
      (v6).bind fun a8 =>
      (bh_rdR σ 2 a8 1).bind fun v10 =>
      bh_cs v10 (
        f_X9_liftRoots_b34 N (f_X9_liftRoots_b2 N n) this x1 σ
      ) (fun a12 =>
        (bh_rdR σ 10 this 2).bind fun v14 =>
        (v14).bind fun a16 =>
        (bh_ldR σ 15 a16 x1).bind fun v18 =>
        (v18).bind fun a20 =>
        (bh_rdI σ 2 a20 0).bind fun v22 =>
        (bh_ck σ a12 7).bind fun _ =>
        bh_bnd (f_X6_lift a12 v22 σ) fun v25 σ26 =>
        f_X9_liftRoots_b34 N (f_X9_liftRoots_b2 N n) this x1 σ26
      )
set_option maxHeartbeats 4000000 in
set_option maxRecDepth 100000 in
theorem j_X9_liftRoots_b2 (X : bh_X) (N : Nat) : ∀ (n : Nat) (this : Nat) (x1 : Int32) (σ : bh_S), bh_J eU yX9_liftRoots cX9_liftRoots wsX9_liftRoots none 3 2 35 X σ 2 [(0, .ref this), (1, .int x1)] [] (f_X9_liftRoots_b2 N n this x1 σ) := by
  intro n
  induction n with
  | zero => intro this x1 σ; exact bj_none
  | succ n ih =>
    intro this x1 σ
    unfold f_X9_liftRoots_b2
    refine bj_iload_n dX9_liftRoots_2 rfl 1 rfl ?_
    refine bj_iconst (v := 4) dX9_liftRoots_3 (by decide) ?_
    refine bj_icmp_ge (tgt := 40) dX9_liftRoots_4 (by decide) (fun h1 => ?_) (fun h1 => ?_)
    · exact bj_vret dX9_liftRoots_40
    · refine bj_aload_nS dX9_liftRoots_7 rfl 0 rfl ?_
      refine bj_getR (ci := 10) (k := 2) (C := RX9) (T := TX9) (N := 12) rfl hi_X9_liftRoots_X9 (by decide) rfl fl_X9_liftRoots_24 (Or.inl rfl) dX9_liftRoots_8 (fun v2 h3 => ?_)
      refine bj_iload_n dX9_liftRoots_11 rfl 1 rfl ?_
      refine bj_nn (fun a4 h5 => ?_)
      subst h5
      refine bj_aald (ci := 15) (by decide) dX9_liftRoots_12 (fun v6 h7 => ?_)
      refine bj_nn (fun a8 h9 => ?_)
      subst h9
      refine bj_getR (ci := 2) (k := 1) (C := RX1) (T := TX1) (N := 2) rfl hi_X9_liftRoots_X1 (by decide) rfl fl_X9_liftRoots_113 (Or.inl rfl) dX9_liftRoots_13 (fun v10 h11 => ?_)
      refine bj_astore_n (lv' := [(2, va_rf v10), (0, .ref this), (1, .int x1)]) (o := v10) dX9_liftRoots_16 rfl (by decide) rfl ?_
      refine bj_aload_n dX9_liftRoots_17 rfl 0 rfl ?_
      refine bj_ifnull (o := v10) (tgt := 34) dX9_liftRoots_18 (by decide) (fun h13 => ?_) (fun a12 h13 => ?_)
      · subst h13
        refine bj_sub (lv' := [(0, .ref this), (1, .int x1)]) [1, 2] rfl ?_
        exact j_X9_liftRoots_b34 X N (f_X9_liftRoots_b2 N n) ih this x1 σ
      · subst h13
        refine bj_aload_nS dX9_liftRoots_21 rfl 0 rfl ?_
        refine bj_aload_nS dX9_liftRoots_22 rfl 1 rfl ?_
        refine bj_getR (ci := 10) (k := 2) (C := RX9) (T := TX9) (N := 12) rfl hi_X9_liftRoots_X9 (by decide) rfl fl_X9_liftRoots_24 (Or.inl rfl) dX9_liftRoots_23 (fun v14 h15 => ?_)
        refine bj_iload_n dX9_liftRoots_26 rfl 2 rfl ?_
        refine bj_nn (fun a16 h17 => ?_)
        subst h17
        refine bj_aald (ci := 15) (by decide) dX9_liftRoots_27 (fun v18 h19 => ?_)
        refine bj_nn (fun a20 h21 => ?_)
        subst h21
        refine bj_getI (ci := 2) (k := 0) (C := RX1) (T := TX1) (N := 2) rfl hi_X9_liftRoots_X1 (by decide) rfl fl_X9_liftRoots_110 (Or.inl rfl) dX9_liftRoots_28 (fun v22 h23 => ?_)
        refine bj_op (fun _ h24 => ?_)
        refine bj_callU (br_VN (As := [.int v22]) (rest := []) (host := "BeetHouse") (q := (RX6, TX6, 14)) (c_X6_lift X a12 v22 σ) rfl g_X9_liftRoots_X6_lift (List.mem_of_getElem? (i := 66) rfl) (List.mem_of_getElem? (i := 3) rfl) (List.mem_of_getElem? (i := 2) rfl) (List.mem_of_getElem? (i := 4) rfl) rfl (bh_ck_spec h24) hd_X6_lift rfl ⟨by decide, by decide⟩ rfl (Nat.le_of_ble_eq_true rfl) dX9_liftRoots_31) (fun v25 σ26 h27 => ?_)
        refine bj_sub (lv' := [(0, .ref this), (1, .int x1)]) [1, 2] rfl ?_
        exact j_X9_liftRoots_b34 X N (f_X9_liftRoots_b2 N n) ih this x1 σ26
def f_X9_liftRoots (N : Nat) (this : Nat) (σ : bh_S) : Option (Unit × bh_S) :=
  f_X9_liftRoots_b2 N N this 0 σ
set_option maxHeartbeats 4000000 in
set_option maxRecDepth 100000 in
theorem c_X9_liftRoots (X : bh_X) (N : Nat) (this : Nat) (σ : bh_S) : bh_MX eU X yX9_liftRoots wsX9_liftRoots 2 35 [.ref this] σ (f_X9_liftRoots N this σ) := by
  refine bh_enter (cc := cX9_liftRoots) (NL := 3) (ret := none) (by decide) rfl (Nat.le_of_ble_eq_true rfl) (fun X => ?_)
  show bh_J eU yX9_liftRoots cX9_liftRoots wsX9_liftRoots none 3 2 35 X σ 0 [(0, .ref this)] [] _
  unfold f_X9_liftRoots
  refine bj_iconst (v := 0) dX9_liftRoots_0 (by decide) ?_
  refine bj_istore_n (lv' := [(1, .int 0), (0, .ref this)]) dX9_liftRoots_1 rfl (by decide) rfl ?_
  refine bj_sub (lv' := [(0, .ref this), (1, .int 0)]) [1, 0] rfl ?_
  exact j_X9_liftRoots_b2 X N N this 0 σ
/-! BeetHouse.pay(LBeetHouse$Load;)V -/
theorem hi_X9_pay_X2 : ∀ w ∈ u_ws RX2 TX2 3, w ∈ wsX9_pay := fun _ h => (List.mem_cons_of_mem _ (List.mem_append_left _ (List.mem_append_left _ (List.mem_append_left _ (List.mem_append_right _ h)))))
set_option maxRecDepth 100000 in
theorem fl_X9_pay_246 : bh_fl wsX9_pay yX9_pay.cls 246 "BeetHouse$Load" "roots" "I" := Or.inr ⟨"BeetHouse", List.mem_of_getElem? (i := 50) rfl⟩
set_option maxRecDepth 100000 in
theorem fl_X9_pay_247 : bh_fl wsX9_pay yX9_pay.cls 247 "BeetHouse$Load" "sugar" "I" := Or.inr ⟨"BeetHouse", List.mem_of_getElem? (i := 52) rfl⟩
set_option maxRecDepth 100000 in
theorem fl_X9_pay_245 : bh_fl wsX9_pay yX9_pay.cls 245 "BeetHouse$Load" "plot" "LBeetHouse$Plot;" := Or.inr ⟨"BeetHouse", List.mem_of_getElem? (i := 47) rfl⟩
theorem hi_X9_pay_X6 : ∀ w ∈ u_ws RX6 TX6 14, w ∈ wsX9_pay := fun _ h => (List.mem_cons_of_mem _ (List.mem_append_left _ (List.mem_append_left _ (List.mem_append_right _ h))))
set_option maxRecDepth 100000 in
theorem fl_X9_pay_223 : bh_fl wsX9_pay yX9_pay.cls 223 "BeetHouse$Plot" "farmer" "LBeetHouse$Farmer;" := Or.inr ⟨"BeetHouse", List.mem_of_getElem? (i := 22) rfl⟩
theorem hi_X9_pay_X0 : ∀ w ∈ u_ws RX0 TX0 4, w ∈ wsX9_pay := fun _ h => (List.mem_cons_of_mem _ (List.mem_append_left _ (List.mem_append_right _ h)))
set_option maxRecDepth 100000 in
theorem fl_X9_pay_248 : bh_fl wsX9_pay yX9_pay.cls 248 "BeetHouse$Farmer" "coins" "I" := Or.inr ⟨"BeetHouse", List.mem_of_getElem? (i := 15) rfl⟩
theorem hi_X9_pay_X9 : ∀ w ∈ u_ws RX9 TX9 12, w ∈ wsX9_pay := fun _ h => (List.mem_cons_of_mem _ (List.mem_append_right _ h))
set_option maxRecDepth 100000 in
theorem fl_X9_pay_59 : bh_fl wsX9_pay yX9_pay.cls 59 "BeetHouse" "prices" "[I" := Or.inl (List.mem_of_getElem? (i := 5) rfl)
def f_X9_pay (this : Nat) (p1 : Nat) (σ : bh_S) : Option (Unit × bh_S) :=
  (bh_rdI σ 3 p1 1).bind fun v1 =>
  if 1 ≤ v1 then
    (bh_rdI σ 3 p1 2).bind fun v4 =>
    (bh_rdI σ 3 p1 1).bind fun v6 =>
    (bh_nz v6).bind fun _ =>
    if (bh_min ((v4 / v6) / 25) 9) < 0 then
      some ((), σ)
    else
      (bh_rdR σ 3 p1 0).bind fun v10 =>
      (v10).bind fun a12 =>
      (bh_rdR σ 7 a12 1).bind fun v14 =>
      (v14).bind fun a16 =>
      (bh_rdI σ 1 a16 2).bind fun v18 =>
      (bh_rdI σ 3 p1 1).bind fun v20 =>
      (bh_rdR σ 10 this 8).bind fun v22 =>
      (v22).bind fun a24 =>
      (bh_ldI σ 12 a24 (bh_min ((v4 / v6) / 25) 9)).bind fun v26 =>
      (bh_wrI σ 1 a16 2 (v18 + (v20 * v26))).bind fun σ28 =>
      some ((), σ28)
  else
    some ((), σ)
set_option maxHeartbeats 4000000 in
set_option maxRecDepth 100000 in
theorem c_X9_pay (X : bh_X) (this : Nat) (p1 : Nat) (σ : bh_S) : bh_MX eU X yX9_pay wsX9_pay 1 13 [.ref this, .ref p1] σ (f_X9_pay this p1 σ) := by
  refine bh_enter (cc := cX9_pay) (NL := 3) (ret := none) (by decide) rfl (Nat.le_of_ble_eq_true rfl) (fun X => ?_)
  show bh_J eU yX9_pay cX9_pay wsX9_pay none 3 1 13 X σ 0 [(0, .ref this), (1, .ref p1)] [] _
  unfold f_X9_pay
  refine bj_aload_nS dX9_pay_0 rfl 1 rfl ?_
  refine bj_getI (ci := 3) (k := 1) (C := RX2) (T := TX2) (N := 3) rfl hi_X9_pay_X2 (by decide) rfl fl_X9_pay_246 (Or.inl rfl) dX9_pay_1 (fun v1 h2 => ?_)
  refine bj_iconst (v := 1) dX9_pay_4 (by decide) ?_
  refine bj_icmp_ge (tgt := 9) dX9_pay_5 (by decide) (fun h3 => ?_) (fun h3 => ?_)
  · refine bj_aload_nS dX9_pay_9 rfl 1 rfl ?_
    refine bj_getI (ci := 3) (k := 2) (C := RX2) (T := TX2) (N := 3) rfl hi_X9_pay_X2 (by decide) rfl fl_X9_pay_247 (Or.inl rfl) dX9_pay_10 (fun v4 h5 => ?_)
    refine bj_aload_nS dX9_pay_13 rfl 1 rfl ?_
    refine bj_getI (ci := 3) (k := 1) (C := RX2) (T := TX2) (N := 3) rfl hi_X9_pay_X2 (by decide) rfl fl_X9_pay_246 (Or.inl rfl) dX9_pay_14 (fun v6 h7 => ?_)
    refine bj_op (fun _ h8 => ?_)
    refine bj_idivC dX9_pay_17 (bh_nz_spec h8) ?_
    refine bj_bipush (v := 25) dX9_pay_18 (by decide) ?_
    refine bj_idivC dX9_pay_20 (by decide) ?_
    refine bj_bipush (v := 9) dX9_pay_21 (by decide) ?_
    refine bj_min (List.mem_of_getElem? (i := 1) rfl) (List.mem_of_getElem? (i := 2) rfl) (List.mem_of_getElem? (i := 3) rfl) (List.mem_of_getElem? (i := 4) rfl) (by decide) (Nat.le_of_ble_eq_true rfl) dX9_pay_23 ?_
    refine bj_istore_n (lv' := [(2, .int (bh_min ((v4 / v6) / 25) 9)), (0, .ref this), (1, .ref p1)]) dX9_pay_26 rfl (by decide) rfl ?_
    refine bj_iload_n dX9_pay_27 rfl 0 rfl ?_
    refine bj_if_lt (tgt := 57) dX9_pay_28 (by decide) (fun h9 => ?_) (fun h9 => ?_)
    · exact bj_vret dX9_pay_57
    · refine bj_aload_nS dX9_pay_31 rfl 2 rfl ?_
      refine bj_getR (ci := 3) (k := 0) (C := RX2) (T := TX2) (N := 3) rfl hi_X9_pay_X2 (by decide) rfl fl_X9_pay_245 (Or.inl rfl) dX9_pay_32 (fun v10 h11 => ?_)
      refine bj_nn (fun a12 h13 => ?_)
      subst h13
      refine bj_getR (ci := 7) (k := 1) (C := RX6) (T := TX6) (N := 14) rfl hi_X9_pay_X6 (by decide) rfl fl_X9_pay_223 (Or.inl rfl) dX9_pay_35 (fun v14 h15 => ?_)
      refine bj_dup dX9_pay_38 (bh_cat _) ?_
      refine bj_nn (fun a16 h17 => ?_)
      subst h17
      refine bj_getI (ci := 1) (k := 2) (C := RX0) (T := TX0) (N := 4) rfl hi_X9_pay_X0 (by decide) rfl fl_X9_pay_248 (Or.inl rfl) dX9_pay_39 (fun v18 h19 => ?_)
      refine bj_aload_nS dX9_pay_42 rfl 2 rfl ?_
      refine bj_getI (ci := 3) (k := 1) (C := RX2) (T := TX2) (N := 3) rfl hi_X9_pay_X2 (by decide) rfl fl_X9_pay_246 (Or.inl rfl) dX9_pay_43 (fun v20 h21 => ?_)
      refine bj_aload_nS dX9_pay_46 rfl 1 rfl ?_
      refine bj_getR (ci := 10) (k := 8) (C := RX9) (T := TX9) (N := 12) rfl hi_X9_pay_X9 (by decide) rfl fl_X9_pay_59 (Or.inl rfl) dX9_pay_47 (fun v22 h23 => ?_)
      refine bj_iload_n dX9_pay_50 rfl 0 rfl ?_
      refine bj_nn (fun a24 h25 => ?_)
      subst h25
      refine bj_iald dX9_pay_51 (fun v26 h27 => ?_)
      refine bj_imul dX9_pay_52 ?_
      refine bj_iadd dX9_pay_53 ?_
      refine bj_putI (ci := 1) (k := 2) (C := RX0) (T := TX0) (N := 4) rfl hi_X9_pay_X0 (by decide) rfl fl_X9_pay_248 (Or.inl rfl) tyX0 tyX0_ok nmX0 rfl (Or.inl rfl) dX9_pay_54 (fun σ28 h29 => ?_)
      exact bj_vret dX9_pay_57
  · exact bj_vret dX9_pay_8
/-! BeetHouse.unloadOne(LBeetHouse$Lorry;)V -/
theorem hi_X9_unloadOne_X3 : ∀ w ∈ u_ws RX3 TX3 8, w ∈ wsX9_unloadOne := fun _ h => (List.mem_cons_of_mem _ (List.mem_append_left _ (List.mem_append_left _ (List.mem_append_left _ (List.mem_append_left _ (List.mem_append_left _ (List.mem_append_left _ (List.mem_append_right _ h))))))))
set_option maxRecDepth 100000 in
theorem fl_X9_unloadOne_232 : bh_fl wsX9_unloadOne yX9_unloadOne.cls 232 "BeetHouse$Lorry" "roots" "I" := Or.inr ⟨"BeetHouse", List.mem_of_getElem? (i := 41) rfl⟩
set_option maxRecDepth 100000 in
theorem fl_X9_unloadOne_231 : bh_fl wsX9_unloadOne yX9_unloadOne.cls 231 "BeetHouse$Lorry" "plot" "LBeetHouse$Plot;" := Or.inr ⟨"BeetHouse", List.mem_of_getElem? (i := 39) rfl⟩
theorem hi_X9_unloadOne_X2 : ∀ w ∈ u_ws RX2 TX2 3, w ∈ wsX9_unloadOne := fun _ h => (List.mem_cons_of_mem _ (List.mem_append_left _ (List.mem_append_left _ (List.mem_append_left _ (List.mem_append_left _ (List.mem_append_left _ (List.mem_append_right _ h)))))))
set_option maxRecDepth 100000 in
theorem fl_X9_unloadOne_233 : bh_fl wsX9_unloadOne yX9_unloadOne.cls 233 "BeetHouse$Lorry" "sugar" "I" := Or.inr ⟨"BeetHouse", List.mem_of_getElem? (i := 42) rfl⟩
set_option maxRecDepth 100000 in
theorem g_X9_unloadOne_X2_init : GoodIn wsX9_unloadOne wsX2_init := goodIn_r _ [6, 7, 8, 9, 10, 11, 12, 99, 100, 101] rfl (by decide +kernel)
theorem hi_X9_unloadOne_X9 : ∀ w ∈ u_ws RX9 TX9 12, w ∈ wsX9_unloadOne := fun _ h => (List.mem_cons_of_mem _ (List.mem_append_left _ (List.mem_append_left _ (List.mem_append_left _ (List.mem_append_left _ (List.mem_append_right _ h))))))
set_option maxRecDepth 100000 in
theorem fl_X9_unloadOne_41 : bh_fl wsX9_unloadOne yX9_unloadOne.cls 41 "BeetHouse" "yard" "LBeetHouse$Yard;" := Or.inl (List.mem_of_getElem? (i := 4) rfl)
set_option maxRecDepth 100000 in
theorem g_X9_unloadOne_X8_take : GoodIn wsX9_unloadOne wsX8_take := goodIn_r _ [16, 17, 18, 19, 20, 21, 22, 23, 24, 25, 26, 27, 28, 29, 30, 31, 32, 33, 34, 35, 36, 37, 38, 39, 40, 41, 42, 43, 44, 45, 46, 47, 48, 49, 50, 51, 52, 53, 54, 55, 56, 57, 58, 59, 60, 61, 62, 63, 64, 65, 66, 67, 68, 69, 70, 71, 72, 73, 74, 75, 114, 115, 116, 117, 99, 100, 101, 118, 119, 120, 121, 122, 123, 124, 125, 126, 127, 128, 129, 130, 131, 132, 133, 134, 135, 136, 137, 138] rfl (by decide +kernel)
set_option maxRecDepth 100000 in
theorem g_X9_unloadOne_X9_pay_317 : GoodIn wsX9_unloadOne (wsV yX9_unloadOne.cls 317 RX9 yX9_pay wsX9_pay) := goodIn_r _ [76, 77, 78, 79, 80, 81, 70, 44, 71, 82, 99, 100, 101, 118, 119, 120, 121, 122, 123, 124, 125, 126, 127, 128, 129, 130, 131, 132, 133, 134, 135, 102, 103, 104, 105, 106, 107, 108, 109, 110, 111, 112, 113] rfl (by decide +kernel)
set_option maxRecDepth 100000 in
theorem fl_X9_unloadOne_237 : bh_fl wsX9_unloadOne yX9_unloadOne.cls 237 "BeetHouse$Lorry" "brought" "I" := Or.inr ⟨"BeetHouse", List.mem_of_getElem? (i := 44) rfl⟩
set_option maxRecDepth 100000 in
theorem g_X9_unloadOne_X3_comeHome : GoodIn wsX9_unloadOne wsX3_comeHome := goodIn_r _ [86, 87, 88, 89, 90, 91, 92, 93, 94, 95, 96, 97, 98] rfl (by decide +kernel)
def f_X9_unloadOne_b57 (this : Nat) (x1 : Nat) (σ : bh_S) : Option (Unit × bh_S) :=
  (bh_ck σ x1 4).bind fun _ =>
  bh_bnd (f_X3_comeHome x1 σ) fun v2 σ3 =>
  some ((), σ3)
set_option maxHeartbeats 4000000 in
set_option maxRecDepth 100000 in
theorem j_X9_unloadOne_b57 (X : bh_X) (this : Nat) (x1 : Nat) (σ : bh_S) : bh_J eU yX9_unloadOne cX9_unloadOne wsX9_unloadOne none 3 9 229 X σ 57 [(0, .ref this), (1, .ref x1)] [] (f_X9_unloadOne_b57 this x1 σ) := by
  unfold f_X9_unloadOne_b57
  refine bj_aload_nS dX9_unloadOne_57 rfl 1 rfl ?_
  refine bj_op (fun _ h1 => ?_)
  refine bj_callU (br_VN (As := []) (rest := []) (host := "BeetHouse") (q := (RX3, TX3, 8)) (c_X3_comeHome X x1 σ) rfl g_X9_unloadOne_X3_comeHome (List.mem_of_getElem? (i := 74) rfl) (List.mem_of_getElem? (i := 84) rfl) (List.mem_of_getElem? (i := 83) rfl) (List.mem_of_getElem? (i := 85) rfl) rfl (bh_ck_spec h1) hd_X3_comeHome rfl ⟨by decide, by decide⟩ rfl (Nat.le_of_ble_eq_true rfl) dX9_unloadOne_58) (fun v2 σ3 h4 => ?_)
  exact bj_vret dX9_unloadOne_61
def f_X9_unloadOne (this : Nat) (p1 : Nat) (σ : bh_S) : Option (Unit × bh_S) :=
  (bh_rdI σ 4 p1 4).bind fun v1 =>
  if v1 ≤ 0 then
    f_X9_unloadOne_b57 this p1 σ
  else
    (bh_rdR σ 4 p1 2).bind fun v4 =>
    bh_cs v4 (
      f_X9_unloadOne_b57 this p1 σ
    ) (fun a6 =>
      bh_bnd (bh_newO σ 3 3) fun a8 σ9 =>
      (bh_rdR σ9 4 p1 2).bind fun v11 =>
      (bh_rdI σ9 4 p1 4).bind fun v13 =>
      (bh_rdI σ9 4 p1 5).bind fun v15 =>
      (v11).bind fun a17 =>
      bh_bnd (f_X2_init a8 a17 v13 v15 σ9) fun v19 σ20 =>
      (bh_rdR σ20 10 this 5).bind fun v22 =>
      (v22).bind fun a24 =>
      (bh_ck σ20 a24 9).bind fun _ =>
      bh_bnd (f_X8_take a24 a8 σ20) fun v27 σ28 =>
      (bh_ck σ28 this 10).bind fun _ =>
      bh_bnd (f_X9_pay this a8 σ28) fun v31 σ32 =>
      (bh_rdI σ32 4 p1 7).bind fun v34 =>
      (bh_wrI σ32 4 p1 7 (v34 + 1)).bind fun σ36 =>
      f_X9_unloadOne_b57 this p1 σ36
    )
set_option maxHeartbeats 4000000 in
set_option maxRecDepth 100000 in
theorem c_X9_unloadOne (X : bh_X) (this : Nat) (p1 : Nat) (σ : bh_S) : bh_MX eU X yX9_unloadOne wsX9_unloadOne 9 229 [.ref this, .ref p1] σ (f_X9_unloadOne this p1 σ) := by
  refine bh_enter (cc := cX9_unloadOne) (NL := 3) (ret := none) (by decide) rfl (Nat.le_of_ble_eq_true rfl) (fun X => ?_)
  show bh_J eU yX9_unloadOne cX9_unloadOne wsX9_unloadOne none 3 9 229 X σ 0 [(0, .ref this), (1, .ref p1)] [] _
  unfold f_X9_unloadOne
  refine bj_aload_nS dX9_unloadOne_0 rfl 1 rfl ?_
  refine bj_getI (ci := 4) (k := 4) (C := RX3) (T := TX3) (N := 8) rfl hi_X9_unloadOne_X3 (by decide) rfl fl_X9_unloadOne_232 (Or.inl rfl) dX9_unloadOne_1 (fun v1 h2 => ?_)
  refine bj_if_le (tgt := 57) dX9_unloadOne_4 (by decide) (fun h3 => ?_) (fun h3 => ?_)
  · refine bj_sub (lv' := [(0, .ref this), (1, .ref p1)]) [0, 1] rfl ?_
    exact j_X9_unloadOne_b57 X this p1 σ
  · refine bj_aload_nS dX9_unloadOne_7 rfl 1 rfl ?_
    refine bj_getR (ci := 4) (k := 2) (C := RX3) (T := TX3) (N := 8) rfl hi_X9_unloadOne_X3 (by decide) rfl fl_X9_unloadOne_231 (Or.inl rfl) dX9_unloadOne_8 (fun v4 h5 => ?_)
    refine bj_ifnull (o := v4) (tgt := 57) dX9_unloadOne_11 (by decide) (fun h7 => ?_) (fun a6 h7 => ?_)
    · subst h7
      refine bj_sub (lv' := [(0, .ref this), (1, .ref p1)]) [0, 1] rfl ?_
      exact j_X9_unloadOne_b57 X this p1 σ
    · subst h7
      refine bj_new (ci := 3) (C := RX2) (T := TX2) (N := 3) rfl hi_X9_unloadOne_X2 tyX2 tyX2_ok df_X2 (List.mem_of_getElem? (i := 1) rfl) (List.mem_of_getElem? (i := 2) rfl) (List.mem_of_getElem? (i := 3) rfl) dX9_unloadOne_14 (fun a8 σ9 h10 => ?_)
      refine bj_dup dX9_unloadOne_17 rfl ?_
      refine bj_aload_nS dX9_unloadOne_18 rfl 1 rfl ?_
      refine bj_getR (ci := 4) (k := 2) (C := RX3) (T := TX3) (N := 8) rfl hi_X9_unloadOne_X3 (by decide) rfl fl_X9_unloadOne_231 (Or.inl rfl) dX9_unloadOne_19 (fun v11 h12 => ?_)
      refine bj_aload_nS dX9_unloadOne_22 rfl 1 rfl ?_
      refine bj_getI (ci := 4) (k := 4) (C := RX3) (T := TX3) (N := 8) rfl hi_X9_unloadOne_X3 (by decide) rfl fl_X9_unloadOne_232 (Or.inl rfl) dX9_unloadOne_23 (fun v13 h14 => ?_)
      refine bj_aload_nS dX9_unloadOne_26 rfl 1 rfl ?_
      refine bj_getI (ci := 4) (k := 5) (C := RX3) (T := TX3) (N := 8) rfl hi_X9_unloadOne_X3 (by decide) rfl fl_X9_unloadOne_233 (Or.inl rfl) dX9_unloadOne_27 (fun v15 h16 => ?_)
      refine bj_nn (fun a17 h18 => ?_)
      subst h18
      refine bj_callU (br_IN (As := [.ref a17, .int v13, .int v15]) (rest := [.ref a8]) (host := "BeetHouse") (c_X2_init X a8 a17 v13 v15 σ9) rfl g_X9_unloadOne_X2_init (List.mem_of_getElem? (i := 72) rfl) (List.mem_of_getElem? (i := 3) rfl) (List.mem_of_getElem? (i := 5) rfl) rfl hd_X2_init rfl ⟨by decide, by decide⟩ rfl (Nat.le_of_ble_eq_true rfl) dX9_unloadOne_30) (fun v19 σ20 h21 => ?_)
      refine bj_astore_n (lv' := [(2, .ref a8), (0, .ref this), (1, .ref p1)]) (o := (some a8)) dX9_unloadOne_33 rfl (by decide) rfl ?_
      refine bj_aload_nS dX9_unloadOne_34 rfl 1 rfl ?_
      refine bj_getR (ci := 10) (k := 5) (C := RX9) (T := TX9) (N := 12) rfl hi_X9_unloadOne_X9 (by decide) rfl fl_X9_unloadOne_41 (Or.inl rfl) dX9_unloadOne_35 (fun v22 h23 => ?_)
      refine bj_aload_nS dX9_unloadOne_38 rfl 0 rfl ?_
      refine bj_nn (fun a24 h25 => ?_)
      subst h25
      refine bj_op (fun _ h26 => ?_)
      refine bj_callU (br_VN (As := [.ref a8]) (rest := []) (host := "BeetHouse") (q := (RX8, TX8, 4)) (c_X8_take X a24 a8 σ20) rfl g_X9_unloadOne_X8_take (List.mem_of_getElem? (i := 73) rfl) (List.mem_of_getElem? (i := 14) rfl) (List.mem_of_getElem? (i := 13) rfl) (List.mem_of_getElem? (i := 15) rfl) rfl (bh_ck_spec h26) hd_X8_take rfl ⟨by decide, by decide⟩ rfl (Nat.le_of_ble_eq_true rfl) dX9_unloadOne_39) (fun v27 σ28 h29 => ?_)
      refine bj_aload_nS dX9_unloadOne_42 rfl 1 rfl ?_
      refine bj_aload_nS dX9_unloadOne_43 rfl 0 rfl ?_
      refine bj_op (fun _ h30 => ?_)
      refine bj_callU (br_V (As := [.ref a8]) (rest := []) (q := (RX9, TX9, 12)) (c_X9_pay X this a8 σ28) rfl g_X9_unloadOne_X9_pay_317 rfl (bh_ck_spec h30) ⟨rfl, hd_X9_pay⟩ rfl ⟨by decide, by decide⟩ rfl (Nat.le_of_ble_eq_true rfl) dX9_unloadOne_44) (fun v31 σ32 h33 => ?_)
      refine bj_aload_nS dX9_unloadOne_47 rfl 2 rfl ?_
      refine bj_dup dX9_unloadOne_48 rfl ?_
      refine bj_getI (ci := 4) (k := 7) (C := RX3) (T := TX3) (N := 8) rfl hi_X9_unloadOne_X3 (by decide) rfl fl_X9_unloadOne_237 (Or.inl rfl) dX9_unloadOne_49 (fun v34 h35 => ?_)
      refine bj_iconst (v := 1) dX9_unloadOne_52 (by decide) ?_
      refine bj_iadd dX9_unloadOne_53 ?_
      refine bj_putI (ci := 4) (k := 7) (C := RX3) (T := TX3) (N := 8) rfl hi_X9_unloadOne_X3 (by decide) rfl fl_X9_unloadOne_237 (Or.inl rfl) tyX3 tyX3_ok nmX3 rfl (Or.inl rfl) dX9_unloadOne_54 (fun σ36 h37 => ?_)
      refine bj_sub (lv' := [(0, .ref this), (1, .ref p1)]) [1, 2] rfl ?_
      exact j_X9_unloadOne_b57 X this p1 σ36
/-! BeetHouse.unloadLorries()V -/
theorem hi_X9_unloadLorries_X9 : ∀ w ∈ u_ws RX9 TX9 12, w ∈ wsX9_unloadLorries := fun _ h => (List.mem_cons_of_mem _ (List.mem_append_left _ (List.mem_append_left _ (List.mem_append_left _ (List.mem_append_left _ (List.mem_append_left _ (List.mem_append_left _ (List.mem_append_right _ h))))))))
set_option maxRecDepth 100000 in
theorem fl_X9_unloadLorries_28 : bh_fl wsX9_unloadLorries yX9_unloadLorries.cls 28 "BeetHouse" "lorries" "Ljava/util/ArrayList;" := Or.inl (List.mem_of_getElem? (i := 1) rfl)
set_option maxRecDepth 100000 in
theorem g_X9_unloadLorries_Jx4a65c_size_8abf5_93 : GoodIn wsX9_unloadLorries (wsV yX9_unloadLorries.cls 93 RJx4a65c yJx4a65c_size_8abf5 wsJx4a65c_size_8abf5) := goodIn_r _ [4, 5, 6, 7, 8, 9, 141, 142, 143] rfl (by decide +kernel)
set_option maxRecDepth 100000 in
theorem g_X9_unloadLorries_Jx4a65c_get_915e3_172 : GoodIn wsX9_unloadLorries (wsV yX9_unloadLorries.cls 172 RJx4a65c yJx4a65c_get_915e3 wsJx4a65c_get_915e3) := goodIn_r _ [10, 11, 12, 7, 13, 9, 14, 15, 16, 17, 18, 19, 20, 21, 22, 23, 24, 7, 25, 26, 141, 142, 143] rfl (by decide +kernel)
theorem hi_X9_unloadLorries_X3 : ∀ w ∈ u_ws RX3 TX3 8, w ∈ wsX9_unloadLorries := fun _ h => (List.mem_cons_of_mem _ (List.mem_append_left _ (List.mem_append_left _ (List.mem_append_left _ (List.mem_append_left _ (List.mem_append_left _ (List.mem_append_right _ h)))))))
set_option maxRecDepth 100000 in
theorem fl_X9_unloadLorries_124 : bh_fl wsX9_unloadLorries yX9_unloadLorries.cls 124 "BeetHouse$Lorry" "state" "I" := Or.inr ⟨"BeetHouse", List.mem_of_getElem? (i := 38) rfl⟩
set_option maxRecDepth 100000 in
theorem fl_X9_unloadLorries_41 : bh_fl wsX9_unloadLorries yX9_unloadLorries.cls 41 "BeetHouse" "yard" "LBeetHouse$Yard;" := Or.inl (List.mem_of_getElem? (i := 3) rfl)
set_option maxRecDepth 100000 in
theorem fl_X9_unloadLorries_232 : bh_fl wsX9_unloadLorries yX9_unloadLorries.cls 232 "BeetHouse$Lorry" "roots" "I" := Or.inr ⟨"BeetHouse", List.mem_of_getElem? (i := 41) rfl⟩
set_option maxRecDepth 100000 in
theorem g_X9_unloadLorries_X8_hasRoomFor : GoodIn wsX9_unloadLorries wsX8_hasRoomFor := goodIn_r _ [30, 31, 32, 144, 145, 146, 147] rfl (by decide +kernel)
set_option maxRecDepth 100000 in
theorem g_X9_unloadLorries_X9_unloadOne_306 : GoodIn wsX9_unloadLorries (wsV yX9_unloadLorries.cls 306 RX9 yX9_unloadOne wsX9_unloadOne) := goodIn_r _ [33, 34, 35, 36, 37, 38, 39, 40, 3, 41, 42, 43, 44, 45, 46, 47, 48, 49, 28, 50, 51, 52, 31, 53, 54, 55, 56, 7, 57, 58, 59, 26, 9, 60, 61, 62, 63, 64, 65, 66, 67, 68, 69, 70, 71, 72, 73, 74, 75, 76, 77, 78, 79, 80, 81, 82, 83, 84, 85, 86, 87, 88, 89, 90, 91, 92, 93, 94, 95, 96, 97, 98, 99, 100, 101, 102, 103, 104, 105, 106, 107, 108, 109, 36, 110, 111, 112, 113, 114, 115, 116, 117, 118, 119, 120, 133, 134, 135, 136, 137, 138, 139, 140, 148, 149, 150, 121, 122, 123, 124, 125, 126, 127, 128, 129, 130, 131, 132, 144, 145, 146, 147, 151, 152, 153, 154, 155, 156, 157, 158, 159, 160, 161, 162, 163, 164, 165, 166, 167, 168, 141, 142, 143] rfl (by decide +kernel)
set_option maxRecDepth 100000 in
theorem fl_X9_unloadLorries_234 : bh_fl wsX9_unloadLorries yX9_unloadLorries.cls 234 "BeetHouse$Lorry" "drowned" "I" := Or.inr ⟨"BeetHouse", List.mem_of_getElem? (i := 43) rfl⟩
def f_X9_unloadLorries_b84 (N : Nat) (k4 : Nat → Int32 → Int32 → bh_S → Option (Unit × bh_S)) (this : Nat) (x1 : Int32) (x2 : Int32) (σ : bh_S) : Option (Unit × bh_S) :=
  k4 this x1 (x2 + 1) σ
set_option maxHeartbeats 4000000 in
set_option maxRecDepth 100000 in
theorem j_X9_unloadLorries_b84 (X : bh_X) (N : Nat) (k4 : Nat → Int32 → Int32 → bh_S → Option (Unit × bh_S)) (hk4 : ∀ (this : Nat) (x1 : Int32) (x2 : Int32) (σ : bh_S), bh_J eU yX9_unloadLorries cX9_unloadLorries wsX9_unloadLorries none 4 10 251 X σ 4 [(0, .ref this), (1, .int x1), (2, .int x2)] [] (k4 this x1 x2 σ)) (this : Nat) (x1 : Int32) (x2 : Int32) (σ : bh_S) : bh_J eU yX9_unloadLorries cX9_unloadLorries wsX9_unloadLorries none 4 10 251 X σ 84 [(0, .ref this), (1, .int x1), (2, .int x2)] [] (f_X9_unloadLorries_b84 N k4 this x1 x2 σ) := by
  unfold f_X9_unloadLorries_b84
  refine bj_iinc (v := x2 + 1) (lv' := [(2, .int (x2 + 1)), (0, .ref this), (1, .int x1)]) dX9_unloadLorries_84 2 rfl rfl (by decide) rfl ?_
  refine bj_goto (tgt := 4) dX9_unloadLorries_87 (by decide) ?_
  refine bj_sub (lv' := [(0, .ref this), (1, .int x1), (2, .int (x2 + 1))]) [1, 2, 0] rfl ?_
  exact hk4 this x1 (x2 + 1) σ
def f_X9_unloadLorries_b61 (N : Nat) (k4 : Nat → Int32 → Int32 → bh_S → Option (Unit × bh_S)) (this : Nat) (x2 : Int32) (x3 : Nat) (t0 : Int32) (σ : bh_S) : Option (Unit × bh_S) :=
  if t0 = 0 then
    (bh_ck σ this 10).bind fun _ =>
    bh_bnd (f_X9_unloadOne this x3 σ) fun v3 σ4 =>
    f_X9_unloadLorries_b84 N k4 this t0 x2 σ4
  else
    (bh_rdI σ 4 x3 6).bind fun v6 =>
    (bh_wrI σ 4 x3 6 (v6 + 1)).bind fun σ8 =>
    f_X9_unloadLorries_b84 N k4 this t0 x2 σ8
set_option maxHeartbeats 4000000 in
set_option maxRecDepth 100000 in
theorem j_X9_unloadLorries_b61 (X : bh_X) (N : Nat) (k4 : Nat → Int32 → Int32 → bh_S → Option (Unit × bh_S)) (hk4 : ∀ (this : Nat) (x1 : Int32) (x2 : Int32) (σ : bh_S), bh_J eU yX9_unloadLorries cX9_unloadLorries wsX9_unloadLorries none 4 10 251 X σ 4 [(0, .ref this), (1, .int x1), (2, .int x2)] [] (k4 this x1 x2 σ)) (this : Nat) (x2 : Int32) (x3 : Nat) (t0 : Int32) (σ : bh_S) : bh_J eU yX9_unloadLorries cX9_unloadLorries wsX9_unloadLorries none 4 10 251 X σ 61 [(0, .ref this), (2, .int x2), (3, .ref x3)] [.int t0] (f_X9_unloadLorries_b61 N k4 this x2 x3 t0 σ) := by
  unfold f_X9_unloadLorries_b61
  refine bj_istore_n (lv' := [(1, .int t0), (0, .ref this), (2, .int x2), (3, .ref x3)]) dX9_unloadLorries_61 rfl (by decide) rfl ?_
  refine bj_iload_n dX9_unloadLorries_62 rfl 0 rfl ?_
  refine bj_if_eq (tgt := 79) dX9_unloadLorries_63 (by decide) (fun h1 => ?_) (fun h1 => ?_)
  · refine bj_aload_nS dX9_unloadLorries_79 rfl 1 rfl ?_
    refine bj_aload_nS dX9_unloadLorries_80 rfl 3 rfl ?_
    refine bj_op (fun _ h2 => ?_)
    refine bj_callU (br_V (As := [.ref x3]) (rest := []) (q := (RX9, TX9, 12)) (c_X9_unloadOne X this x3 σ) rfl g_X9_unloadLorries_X9_unloadOne_306 rfl (bh_ck_spec h2) ⟨rfl, hd_X9_unloadOne⟩ rfl ⟨by decide, by decide⟩ rfl (Nat.le_of_ble_eq_true rfl) dX9_unloadLorries_81) (fun v3 σ4 h5 => ?_)
    refine bj_sub (lv' := [(0, .ref this), (1, .int t0), (2, .int x2)]) [1, 0, 2] rfl ?_
    exact j_X9_unloadLorries_b84 X N k4 hk4 this t0 x2 σ4
  · refine bj_aload_nS dX9_unloadLorries_66 rfl 3 rfl ?_
    refine bj_dup dX9_unloadLorries_67 rfl ?_
    refine bj_getI (ci := 4) (k := 6) (C := RX3) (T := TX3) (N := 8) rfl hi_X9_unloadLorries_X3 (by decide) rfl fl_X9_unloadLorries_234 (Or.inl rfl) dX9_unloadLorries_68 (fun v6 h7 => ?_)
    refine bj_iconst (v := 1) dX9_unloadLorries_71 (by decide) ?_
    refine bj_iadd dX9_unloadLorries_72 ?_
    refine bj_putI (ci := 4) (k := 6) (C := RX3) (T := TX3) (N := 8) rfl hi_X9_unloadLorries_X3 (by decide) rfl fl_X9_unloadLorries_234 (Or.inl rfl) tyX3 tyX3_ok nmX3 rfl (Or.inl rfl) dX9_unloadLorries_73 (fun σ8 h9 => ?_)
    refine bj_goto (tgt := 84) dX9_unloadLorries_76 (by decide) ?_
    refine bj_sub (lv' := [(0, .ref this), (1, .int t0), (2, .int x2)]) [1, 0, 2] rfl ?_
    exact j_X9_unloadLorries_b84 X N k4 hk4 this t0 x2 σ8
def f_X9_unloadLorries_b56 (N : Nat) (k4 : Nat → Int32 → Int32 → bh_S → Option (Unit × bh_S)) (this : Nat) (x2 : Int32) (x3 : Nat) (σ : bh_S) : Option (Unit × bh_S) :=
  f_X9_unloadLorries_b61 N k4 this x2 x3 1 σ
set_option maxHeartbeats 4000000 in
set_option maxRecDepth 100000 in
theorem j_X9_unloadLorries_b56 (X : bh_X) (N : Nat) (k4 : Nat → Int32 → Int32 → bh_S → Option (Unit × bh_S)) (hk4 : ∀ (this : Nat) (x1 : Int32) (x2 : Int32) (σ : bh_S), bh_J eU yX9_unloadLorries cX9_unloadLorries wsX9_unloadLorries none 4 10 251 X σ 4 [(0, .ref this), (1, .int x1), (2, .int x2)] [] (k4 this x1 x2 σ)) (this : Nat) (x2 : Int32) (x3 : Nat) (σ : bh_S) : bh_J eU yX9_unloadLorries cX9_unloadLorries wsX9_unloadLorries none 4 10 251 X σ 56 [(0, .ref this), (2, .int x2), (3, .ref x3)] [] (f_X9_unloadLorries_b56 N k4 this x2 x3 σ) := by
  unfold f_X9_unloadLorries_b56
  refine bj_iconst (v := 1) dX9_unloadLorries_56 (by decide) ?_
  refine bj_goto (tgt := 61) dX9_unloadLorries_57 (by decide) ?_
  refine bj_sub (lv' := [(0, .ref this), (2, .int x2), (3, .ref x3)]) [0, 1, 2] rfl ?_
  exact j_X9_unloadLorries_b61 X N k4 hk4 this x2 x3 1 σ
def f_X9_unloadLorries_b4 (N : Nat) : Nat → Nat → Int32 → Int32 → bh_S → Option (Unit × bh_S)
  | 0, _, _, _, _ => none
  | n + 1, this, x1, x2, σ =>
    (bh_rdR σ 10 this 3).bind fun v1 =>
    (v1).bind fun a3 =>
    (bh_ck σ a3 0).bind fun _ =>
    bh_bnd (f_Jx4a65c_size_8abf5 a3 σ) fun v6 σ7 =>
    if v6 ≤ x2 then
      some ((), σ7)
    else
      (bh_rdR σ7 10 this 3).bind fun v10 =>
      (v10).bind fun a12 =>
      (bh_ck σ7 a12 0).bind fun _ =>
      bh_bnd (f_Jx4a65c_get_915e3 a12 x2 σ7) fun v15 σ16 =>
      (bh_cst σ16 4 v15).bind fun _ =>
      (v15).bind fun a18 =>
      (bh_rdI σ16 4 a18 1).bind fun v20 =>
      if v20 = 3 then
        if x1 = 0 then
          (bh_rdR σ16 10 this 5).bind fun v24 =>
          (bh_rdI σ16 4 a18 4).bind fun v26 =>
          (v24).bind fun a28 =>
          (bh_ck σ16 a28 9).bind fun _ =>
          bh_bnd (f_X8_hasRoomFor a28 v26 σ16) fun v31 σ32 =>
          if v31 = 0 then
            f_X9_unloadLorries_b56 N (f_X9_unloadLorries_b4 N n) this x2 a18 σ32
          else
            f_X9_unloadLorries_b61 N (f_X9_unloadLorries_b4 N n) this x2 a18 0 σ32
        else
          f_X9_unloadLorries_b56 N (f_X9_unloadLorries_b4 N n) this x2 a18 σ16
      else
        f_X9_unloadLorries_b84 N (f_X9_unloadLorries_b4 N n) this x1 x2 σ16
set_option maxHeartbeats 4000000 in
set_option maxRecDepth 100000 in
theorem j_X9_unloadLorries_b4 (X : bh_X) (N : Nat) : ∀ (n : Nat) (this : Nat) (x1 : Int32) (x2 : Int32) (σ : bh_S), bh_J eU yX9_unloadLorries cX9_unloadLorries wsX9_unloadLorries none 4 10 251 X σ 4 [(0, .ref this), (1, .int x1), (2, .int x2)] [] (f_X9_unloadLorries_b4 N n this x1 x2 σ) := by
  intro n
  induction n with
  | zero => intro this x1 x2 σ; exact bj_none
  | succ n ih =>
    intro this x1 x2 σ
    unfold f_X9_unloadLorries_b4
    refine bj_iload_n dX9_unloadLorries_4 rfl 2 rfl ?_
    refine bj_aload_nS dX9_unloadLorries_5 rfl 0 rfl ?_
    refine bj_getR (ci := 10) (k := 3) (C := RX9) (T := TX9) (N := 12) rfl hi_X9_unloadLorries_X9 (by decide) rfl fl_X9_unloadLorries_28 (Or.inl rfl) dX9_unloadLorries_6 (fun v1 h2 => ?_)
    refine bj_nn (fun a3 h4 => ?_)
    subst h4
    refine bj_op (fun _ h5 => ?_)
    refine bj_callI (br_V (As := []) (rest := [.int x2]) (q := (RJx4a65c, TJx4a65c, 3)) (c_Jx4a65c_size_8abf5 X a3 σ) rfl g_X9_unloadLorries_Jx4a65c_size_8abf5_93 rfl (bh_ck_spec h5) ⟨rfl, hd_Jx4a65c_size_8abf5⟩ rfl ⟨by decide, by decide⟩ rfl (Nat.le_of_ble_eq_true rfl) dX9_unloadLorries_9) (fun v6 σ7 h8 => ?_)
    refine bj_icmp_ge (tgt := 90) dX9_unloadLorries_12 (by decide) (fun h9 => ?_) (fun h9 => ?_)
    · exact bj_vret dX9_unloadLorries_90
    · refine bj_aload_nS dX9_unloadLorries_15 rfl 0 rfl ?_
      refine bj_getR (ci := 10) (k := 3) (C := RX9) (T := TX9) (N := 12) rfl hi_X9_unloadLorries_X9 (by decide) rfl fl_X9_unloadLorries_28 (Or.inl rfl) dX9_unloadLorries_16 (fun v10 h11 => ?_)
      refine bj_iload_n dX9_unloadLorries_19 rfl 2 rfl ?_
      refine bj_nn (fun a12 h13 => ?_)
      subst h13
      refine bj_op (fun _ h14 => ?_)
      refine bj_callR (br_V (As := [.int x2]) (rest := []) (q := (RJx4a65c, TJx4a65c, 3)) (c_Jx4a65c_get_915e3 X a12 x2 σ7) rfl g_X9_unloadLorries_Jx4a65c_get_915e3_172 rfl (bh_ck_spec h14) ⟨rfl, hd_Jx4a65c_get_915e3⟩ rfl ⟨by decide, by decide⟩ rfl (Nat.le_of_ble_eq_true rfl) dX9_unloadLorries_20) (fun v15 σ16 h17 => ?_)
      refine bj_cast (ci := 4) (C := RX3) (T := TX3) (N := 8) (o := v15) rfl (List.mem_of_getElem? (i := 2) rfl) dX9_unloadLorries_23 ?_
      refine bj_astore_n (lv' := [(3, va_rf v15), (0, .ref this), (1, .int x1), (2, .int x2)]) (o := v15) dX9_unloadLorries_26 rfl (by decide) rfl ?_
      refine bj_aload_n dX9_unloadLorries_27 rfl 0 rfl ?_
      refine bj_nn (fun a18 h19 => ?_)
      subst h19
      refine bj_getI (ci := 4) (k := 1) (C := RX3) (T := TX3) (N := 8) rfl hi_X9_unloadLorries_X3 (by decide) rfl fl_X9_unloadLorries_124 (Or.inl rfl) dX9_unloadLorries_28 (fun v20 h21 => ?_)
      refine bj_iconst (v := 3) dX9_unloadLorries_31 (by decide) ?_
      refine bj_icmp_eq (tgt := 38) dX9_unloadLorries_32 (by decide) (fun h22 => ?_) (fun h22 => ?_)
      · refine bj_iload_n dX9_unloadLorries_38 rfl 2 rfl ?_
        refine bj_if_ne (tgt := 56) dX9_unloadLorries_39 (by decide) (fun h23 => ?_) (fun h23 => ?_)
        · refine bj_sub (lv' := [(0, .ref this), (2, .int x2), (3, .ref a18)]) [1, 3, 0] rfl ?_
          exact j_X9_unloadLorries_b56 X N (f_X9_unloadLorries_b4 N n) ih this x2 a18 σ16
        · refine bj_aload_nS dX9_unloadLorries_42 rfl 1 rfl ?_
          refine bj_getR (ci := 10) (k := 5) (C := RX9) (T := TX9) (N := 12) rfl hi_X9_unloadLorries_X9 (by decide) rfl fl_X9_unloadLorries_41 (Or.inl rfl) dX9_unloadLorries_43 (fun v24 h25 => ?_)
          refine bj_aload_nS dX9_unloadLorries_46 rfl 0 rfl ?_
          refine bj_getI (ci := 4) (k := 4) (C := RX3) (T := TX3) (N := 8) rfl hi_X9_unloadLorries_X3 (by decide) rfl fl_X9_unloadLorries_232 (Or.inl rfl) dX9_unloadLorries_47 (fun v26 h27 => ?_)
          refine bj_nn (fun a28 h29 => ?_)
          subst h29
          refine bj_op (fun _ h30 => ?_)
          refine bj_callI (br_VN (As := [.int v26]) (rest := []) (host := "BeetHouse") (q := (RX8, TX8, 4)) (c_X8_hasRoomFor X a28 v26 σ16) rfl g_X9_unloadLorries_X8_hasRoomFor (List.mem_of_getElem? (i := 71) rfl) (List.mem_of_getElem? (i := 28) rfl) (List.mem_of_getElem? (i := 27) rfl) (List.mem_of_getElem? (i := 29) rfl) rfl (bh_ck_spec h30) hd_X8_hasRoomFor rfl ⟨by decide, by decide⟩ rfl (Nat.le_of_ble_eq_true rfl) dX9_unloadLorries_50) (fun v31 σ32 h33 => ?_)
          refine bj_if_ne (tgt := 60) dX9_unloadLorries_53 (by decide) (fun h34 => ?_) (fun h34 => ?_)
          · refine bj_iconst (v := 0) dX9_unloadLorries_60 (by decide) ?_
            refine bj_sub (lv' := [(0, .ref this), (2, .int x2), (3, .ref a18)]) [1, 3, 0] rfl ?_
            exact j_X9_unloadLorries_b61 X N (f_X9_unloadLorries_b4 N n) ih this x2 a18 0 σ32
          · refine bj_sub (lv' := [(0, .ref this), (2, .int x2), (3, .ref a18)]) [1, 3, 0] rfl ?_
            exact j_X9_unloadLorries_b56 X N (f_X9_unloadLorries_b4 N n) ih this x2 a18 σ32
      · refine bj_goto (tgt := 84) dX9_unloadLorries_35 (by decide) ?_
        refine bj_sub (lv' := [(0, .ref this), (1, .int x1), (2, .int x2)]) [1, 2, 3] rfl ?_
        exact j_X9_unloadLorries_b84 X N (f_X9_unloadLorries_b4 N n) ih this x1 x2 σ16
def f_X9_unloadLorries (N : Nat) (this : Nat) (σ : bh_S) : Option (Unit × bh_S) :=
  f_X9_unloadLorries_b4 N N this 0 0 σ
set_option maxHeartbeats 4000000 in
set_option maxRecDepth 100000 in
theorem c_X9_unloadLorries (X : bh_X) (N : Nat) (this : Nat) (σ : bh_S) : bh_MX eU X yX9_unloadLorries wsX9_unloadLorries 10 251 [.ref this] σ (f_X9_unloadLorries N this σ) := by
  refine bh_enter (cc := cX9_unloadLorries) (NL := 4) (ret := none) (by decide) rfl (Nat.le_of_ble_eq_true rfl) (fun X => ?_)
  show bh_J eU yX9_unloadLorries cX9_unloadLorries wsX9_unloadLorries none 4 10 251 X σ 0 [(0, .ref this)] [] _
  unfold f_X9_unloadLorries
  refine bj_iconst (v := 0) dX9_unloadLorries_0 (by decide) ?_
  refine bj_istore_n (lv' := [(1, .int 0), (0, .ref this)]) dX9_unloadLorries_1 rfl (by decide) rfl ?_
  refine bj_iconst (v := 0) dX9_unloadLorries_2 (by decide) ?_
  refine bj_istore_n (lv' := [(2, .int 0), (1, .int 0), (0, .ref this)]) dX9_unloadLorries_3 rfl (by decide) rfl ?_
  refine bj_sub (lv' := [(0, .ref this), (1, .int 0), (2, .int 0)]) [2, 1, 0] rfl ?_
  exact j_X9_unloadLorries_b4 X N N this 0 0 σ
/-! BeetHouse.wasteHeaps()V -/
theorem hi_X9_wasteHeaps_X9 : ∀ w ∈ u_ws RX9 TX9 12, w ∈ wsX9_wasteHeaps := fun _ h => (List.mem_cons_of_mem _ (List.mem_append_left _ (List.mem_append_left _ (List.mem_append_left _ (List.mem_append_right _ h)))))
set_option maxRecDepth 100000 in
theorem fl_X9_wasteHeaps_34 : bh_fl wsX9_wasteHeaps yX9_wasteHeaps.cls 34 "BeetHouse" "weather" "LBeetHouse$Weather;" := Or.inl (List.mem_of_getElem? (i := 1) rfl)
set_option maxRecDepth 100000 in
theorem fl_X9_wasteHeaps_70 : bh_fl wsX9_wasteHeaps yX9_wasteHeaps.cls 70 "BeetHouse" "hour" "I" := Or.inl (List.mem_of_getElem? (i := 2) rfl)
set_option maxRecDepth 100000 in
theorem g_X9_wasteHeaps_X7_numberOf : GoodIn wsX9_wasteHeaps wsX7_numberOf := goodIn_r _ [8, 9, 10, 64, 65] rfl (by decide +kernel)
set_option maxRecDepth 100000 in
theorem fl_X9_wasteHeaps_18 : bh_fl wsX9_wasteHeaps yX9_wasteHeaps.cls 18 "BeetHouse" "plots" "Ljava/util/ArrayList;" := Or.inl (List.mem_of_getElem? (i := 3) rfl)
set_option maxRecDepth 100000 in
theorem g_X9_wasteHeaps_Jx4a65c_size_8abf5_93 : GoodIn wsX9_wasteHeaps (wsV yX9_wasteHeaps.cls 93 RJx4a65c yJx4a65c_size_8abf5 wsJx4a65c_size_8abf5) := goodIn_r _ [11, 12, 13, 14, 15, 16, 66, 67, 68] rfl (by decide +kernel)
set_option maxRecDepth 100000 in
theorem g_X9_wasteHeaps_Jx4a65c_get_915e3_172 : GoodIn wsX9_wasteHeaps (wsV yX9_wasteHeaps.cls 172 RJx4a65c yJx4a65c_get_915e3 wsJx4a65c_get_915e3) := goodIn_r _ [17, 18, 19, 14, 20, 16, 21, 22, 23, 24, 25, 26, 27, 28, 29, 30, 31, 14, 32, 33, 66, 67, 68] rfl (by decide +kernel)
set_option maxRecDepth 100000 in
theorem g_X9_wasteHeaps_X6_waste : GoodIn wsX9_wasteHeaps wsX6_waste := goodIn_r _ [37, 38, 39, 40, 41, 42, 35, 43, 44, 45, 46, 47, 48, 49, 50, 51, 69, 70, 71, 72, 73, 74, 75, 76, 77, 78, 79, 80, 81, 82] rfl (by decide +kernel)
def f_X9_wasteHeaps_b19 (N : Nat) : Nat → Nat → Int32 → Int32 → bh_S → Option (Unit × bh_S)
  | 0, _, _, _, _ => none
  | n + 1, this, x1, x2, σ =>
    (bh_rdR σ 10 this 1).bind fun v1 =>
    (v1).bind fun a3 =>
    (bh_ck σ a3 0).bind fun _ =>
    bh_bnd (f_Jx4a65c_size_8abf5 a3 σ) fun v6 σ7 =>
    if v6 ≤ x2 then
      some ((), σ7)
    else
      (bh_rdR σ7 10 this 1).bind fun v10 =>
      (v10).bind fun a12 =>
      (bh_ck σ7 a12 0).bind fun _ =>
      bh_bnd (f_Jx4a65c_get_915e3 a12 x2 σ7) fun v15 σ16 =>
      (bh_cst σ16 7 v15).bind fun _ =>
      (v15).bind fun a18 =>
      (bh_ck σ16 a18 7).bind fun _ =>
      bh_bnd (f_X6_waste a18 x1 σ16) fun v21 σ22 =>
      f_X9_wasteHeaps_b19 N n this x1 (x2 + 1) σ22
set_option maxHeartbeats 4000000 in
set_option maxRecDepth 100000 in
theorem j_X9_wasteHeaps_b19 (X : bh_X) (N : Nat) : ∀ (n : Nat) (this : Nat) (x1 : Int32) (x2 : Int32) (σ : bh_S), bh_J eU yX9_wasteHeaps cX9_wasteHeaps wsX9_wasteHeaps none 3 3 64 X σ 19 [(0, .ref this), (1, .int x1), (2, .int x2)] [] (f_X9_wasteHeaps_b19 N n this x1 x2 σ) := by
  intro n
  induction n with
  | zero => intro this x1 x2 σ; exact bj_none
  | succ n ih =>
    intro this x1 x2 σ
    unfold f_X9_wasteHeaps_b19
    refine bj_iload_n dX9_wasteHeaps_19 rfl 2 rfl ?_
    refine bj_aload_nS dX9_wasteHeaps_20 rfl 0 rfl ?_
    refine bj_getR (ci := 10) (k := 1) (C := RX9) (T := TX9) (N := 12) rfl hi_X9_wasteHeaps_X9 (by decide) rfl fl_X9_wasteHeaps_18 (Or.inl rfl) dX9_wasteHeaps_21 (fun v1 h2 => ?_)
    refine bj_nn (fun a3 h4 => ?_)
    subst h4
    refine bj_op (fun _ h5 => ?_)
    refine bj_callI (br_V (As := []) (rest := [.int x2]) (q := (RJx4a65c, TJx4a65c, 3)) (c_Jx4a65c_size_8abf5 X a3 σ) rfl g_X9_wasteHeaps_Jx4a65c_size_8abf5_93 rfl (bh_ck_spec h5) ⟨rfl, hd_Jx4a65c_size_8abf5⟩ rfl ⟨by decide, by decide⟩ rfl (Nat.le_of_ble_eq_true rfl) dX9_wasteHeaps_24) (fun v6 σ7 h8 => ?_)
    refine bj_icmp_ge (tgt := 51) dX9_wasteHeaps_27 (by decide) (fun h9 => ?_) (fun h9 => ?_)
    · exact bj_vret dX9_wasteHeaps_51
    · refine bj_aload_nS dX9_wasteHeaps_30 rfl 0 rfl ?_
      refine bj_getR (ci := 10) (k := 1) (C := RX9) (T := TX9) (N := 12) rfl hi_X9_wasteHeaps_X9 (by decide) rfl fl_X9_wasteHeaps_18 (Or.inl rfl) dX9_wasteHeaps_31 (fun v10 h11 => ?_)
      refine bj_iload_n dX9_wasteHeaps_34 rfl 2 rfl ?_
      refine bj_nn (fun a12 h13 => ?_)
      subst h13
      refine bj_op (fun _ h14 => ?_)
      refine bj_callR (br_V (As := [.int x2]) (rest := []) (q := (RJx4a65c, TJx4a65c, 3)) (c_Jx4a65c_get_915e3 X a12 x2 σ7) rfl g_X9_wasteHeaps_Jx4a65c_get_915e3_172 rfl (bh_ck_spec h14) ⟨rfl, hd_Jx4a65c_get_915e3⟩ rfl ⟨by decide, by decide⟩ rfl (Nat.le_of_ble_eq_true rfl) dX9_wasteHeaps_35) (fun v15 σ16 h17 => ?_)
      refine bj_cast (ci := 7) (C := RX6) (T := TX6) (N := 14) (o := v15) rfl (List.mem_of_getElem? (i := 4) rfl) dX9_wasteHeaps_38 ?_
      refine bj_iload_n dX9_wasteHeaps_41 rfl 1 rfl ?_
      refine bj_nn (fun a18 h19 => ?_)
      subst h19
      refine bj_op (fun _ h20 => ?_)
      refine bj_callU (br_VN (As := [.int x1]) (rest := []) (host := "BeetHouse") (q := (RX6, TX6, 14)) (c_X6_waste X a18 x1 σ16) rfl g_X9_wasteHeaps_X6_waste (List.mem_of_getElem? (i := 79) rfl) (List.mem_of_getElem? (i := 35) rfl) (List.mem_of_getElem? (i := 34) rfl) (List.mem_of_getElem? (i := 36) rfl) rfl (bh_ck_spec h20) hd_X6_waste rfl ⟨by decide, by decide⟩ rfl (Nat.le_of_ble_eq_true rfl) dX9_wasteHeaps_42) (fun v21 σ22 h23 => ?_)
      refine bj_iinc (v := x2 + 1) (lv' := [(2, .int (x2 + 1)), (0, .ref this), (1, .int x1)]) dX9_wasteHeaps_45 2 rfl rfl (by decide) rfl ?_
      refine bj_goto (tgt := 19) dX9_wasteHeaps_48 (by decide) ?_
      refine bj_sub (lv' := [(0, .ref this), (1, .int x1), (2, .int (x2 + 1))]) [1, 2, 0] rfl ?_
      exact ih this x1 (x2 + 1) σ22
def f_X9_wasteHeaps (N : Nat) (this : Nat) (σ : bh_S) : Option (Unit × bh_S) :=
  (bh_rdR σ 10 this 4).bind fun v1 =>
  (bh_rdI σ 10 this 11).bind fun v3 =>
  (v1).bind fun a5 =>
  (bh_ck σ a5 8).bind fun _ =>
  bh_bnd (f_X7_numberOf a5 ((v3 / 24) - 1) σ) fun v8 σ9 =>
  f_X9_wasteHeaps_b19 N N this v8 0 σ9
set_option maxHeartbeats 4000000 in
set_option maxRecDepth 100000 in
theorem c_X9_wasteHeaps (X : bh_X) (N : Nat) (this : Nat) (σ : bh_S) : bh_MX eU X yX9_wasteHeaps wsX9_wasteHeaps 3 64 [.ref this] σ (f_X9_wasteHeaps N this σ) := by
  refine bh_enter (cc := cX9_wasteHeaps) (NL := 3) (ret := none) (by decide) rfl (Nat.le_of_ble_eq_true rfl) (fun X => ?_)
  show bh_J eU yX9_wasteHeaps cX9_wasteHeaps wsX9_wasteHeaps none 3 3 64 X σ 0 [(0, .ref this)] [] _
  unfold f_X9_wasteHeaps
  refine bj_aload_nS dX9_wasteHeaps_0 rfl 0 rfl ?_
  refine bj_getR (ci := 10) (k := 4) (C := RX9) (T := TX9) (N := 12) rfl hi_X9_wasteHeaps_X9 (by decide) rfl fl_X9_wasteHeaps_34 (Or.inl rfl) dX9_wasteHeaps_1 (fun v1 h2 => ?_)
  refine bj_aload_nS dX9_wasteHeaps_4 rfl 0 rfl ?_
  refine bj_getI (ci := 10) (k := 11) (C := RX9) (T := TX9) (N := 12) rfl hi_X9_wasteHeaps_X9 (by decide) rfl fl_X9_wasteHeaps_70 (Or.inl rfl) dX9_wasteHeaps_5 (fun v3 h4 => ?_)
  refine bj_bipush (v := 24) dX9_wasteHeaps_8 (by decide) ?_
  refine bj_idivC dX9_wasteHeaps_10 (by decide) ?_
  refine bj_iconst (v := 1) dX9_wasteHeaps_11 (by decide) ?_
  refine bj_isub dX9_wasteHeaps_12 ?_
  refine bj_nn (fun a5 h6 => ?_)
  subst h6
  refine bj_op (fun _ h7 => ?_)
  refine bj_callI (br_VN (As := [.int ((v3 / 24) - 1)]) (rest := []) (host := "BeetHouse") (q := (RX7, TX7, 2)) (c_X7_numberOf X a5 ((v3 / 24) - 1) σ) rfl g_X9_wasteHeaps_X7_numberOf (List.mem_of_getElem? (i := 78) rfl) (List.mem_of_getElem? (i := 6) rfl) (List.mem_of_getElem? (i := 5) rfl) (List.mem_of_getElem? (i := 7) rfl) rfl (bh_ck_spec h7) hd_X7_numberOf rfl ⟨by decide, by decide⟩ rfl (Nat.le_of_ble_eq_true rfl) dX9_wasteHeaps_13) (fun v8 σ9 h10 => ?_)
  refine bj_istore_n (lv' := [(1, .int v8), (0, .ref this)]) dX9_wasteHeaps_16 rfl (by decide) rfl ?_
  refine bj_iconst (v := 0) dX9_wasteHeaps_17 (by decide) ?_
  refine bj_istore_n (lv' := [(2, .int 0), (1, .int v8), (0, .ref this)]) dX9_wasteHeaps_18 rfl (by decide) rfl ?_
  refine bj_sub (lv' := [(0, .ref this), (1, .int v8), (2, .int 0)]) [2, 1, 0] rfl ?_
  exact j_X9_wasteHeaps_b19 X N N this v8 0 σ9
/-! BeetHouse.passHour()V -/
theorem hi_X9_passHour_X9 : ∀ w ∈ u_ws RX9 TX9 12, w ∈ wsX9_passHour := fun _ h => (List.mem_cons_of_mem _ (List.mem_append_left _ (List.mem_append_left _ (List.mem_append_left _ (List.mem_append_left _ (List.mem_append_left _ (List.mem_append_left _ (List.mem_append_left _ (List.mem_append_left _ (List.mem_append_left _ (List.mem_append_right _ h)))))))))))
set_option maxRecDepth 100000 in
theorem fl_X9_passHour_70 : bh_fl wsX9_passHour yX9_passHour.cls 70 "BeetHouse" "hour" "I" := Or.inl (List.mem_of_getElem? (i := 1) rfl)
set_option maxRecDepth 100000 in
theorem fl_X9_passHour_66 : bh_fl wsX9_passHour yX9_passHour.cls 66 "BeetHouse" "freezing" "Z" := Or.inl (List.mem_of_getElem? (i := 2) rfl)
set_option maxRecDepth 100000 in
theorem g_X9_passHour_X9_liftRoots_281 : GoodIn wsX9_passHour (wsV yX9_passHour.cls 281 RX9 yX9_liftRoots wsX9_liftRoots) := goodIn_r _ [9, 10, 11, 12, 13, 14, 15, 16, 17, 18, 19, 20, 21, 22, 23, 24, 25, 26, 224, 225, 226, 227, 228, 229, 230, 231, 232, 233, 234, 235, 236, 237, 238, 239, 240, 241, 242, 243, 244, 245, 246, 247, 248, 249, 250, 251] rfl (by decide +kernel)
set_option maxRecDepth 100000 in
theorem fl_X9_passHour_28 : bh_fl wsX9_passHour yX9_passHour.cls 28 "BeetHouse" "lorries" "Ljava/util/ArrayList;" := Or.inl (List.mem_of_getElem? (i := 3) rfl)
set_option maxRecDepth 100000 in
theorem g_X9_passHour_Jx4a65c_size_8abf5_93 : GoodIn wsX9_passHour (wsV yX9_passHour.cls 93 RJx4a65c yJx4a65c_size_8abf5 wsJx4a65c_size_8abf5) := goodIn_r _ [27, 28, 29, 30, 31, 32, 252, 253, 254] rfl (by decide +kernel)
set_option maxRecDepth 100000 in
theorem g_X9_passHour_X9_unloadLorries_287 : GoodIn wsX9_passHour (wsV yX9_passHour.cls 287 RX9 yX9_unloadLorries wsX9_unloadLorries) := goodIn_r _ [77, 78, 79, 12, 80, 3, 4, 6, 27, 28, 29, 30, 31, 32, 33, 34, 35, 36, 37, 38, 39, 40, 41, 42, 43, 44, 45, 46, 47, 48, 49, 81, 82, 83, 84, 85, 86, 87, 88, 89, 12, 90, 91, 92, 93, 94, 95, 96, 97, 98, 99, 100, 101, 102, 103, 104, 105, 106, 107, 108, 109, 110, 111, 112, 113, 114, 115, 116, 117, 118, 119, 120, 121, 122, 123, 124, 125, 126, 127, 22, 128, 129, 130, 131, 132, 133, 134, 135, 136, 137, 138, 139, 140, 141, 142, 143, 144, 145, 146, 147, 148, 149, 150, 151, 152, 21, 23, 153, 154, 155, 156, 157, 158, 159, 160, 161, 162, 163, 51, 164, 165, 56, 55, 63, 64, 224, 225, 226, 227, 228, 229, 230, 231, 232, 233, 234, 235, 255, 256, 257, 258, 259, 260, 261, 262, 252, 253, 254, 263, 264, 265, 266, 267, 268, 269, 238, 239, 240, 241, 242, 243, 244, 245, 246, 247, 248, 249, 250, 251, 270, 271, 272, 273] rfl (by decide +kernel)
set_option maxRecDepth 100000 in
theorem fl_X9_passHour_48 : bh_fl wsX9_passHour yX9_passHour.cls 48 "BeetHouse" "mill" "LBeetHouse$Mill;" := Or.inl (List.mem_of_getElem? (i := 5) rfl)
set_option maxRecDepth 100000 in
theorem fl_X9_passHour_41 : bh_fl wsX9_passHour yX9_passHour.cls 41 "BeetHouse" "yard" "LBeetHouse$Yard;" := Or.inl (List.mem_of_getElem? (i := 6) rfl)
set_option maxRecDepth 100000 in
theorem g_X9_passHour_X4_grind : GoodIn wsX9_passHour wsX4_grind := goodIn_r _ [169, 170, 171, 172, 21, 22, 23, 173, 174, 175, 176, 177, 178, 179, 30, 180, 32, 181, 34, 35, 36, 37, 38, 39, 40, 41, 42, 43, 44, 45, 46, 47, 48, 49, 182, 16, 183, 184, 75, 185, 186, 187, 188, 189, 190, 191, 192, 193, 194, 195, 111, 112, 196, 154, 155, 156, 274, 275, 276, 277, 278, 263, 264, 265, 266, 267, 268, 269, 252, 253, 254, 238, 239, 240, 241, 242, 243, 244, 245, 246, 247, 248, 249, 250, 251] rfl (by decide +kernel)
set_option maxRecDepth 100000 in
theorem g_X9_passHour_X9_wasteHeaps_294 : GoodIn wsX9_passHour (wsV yX9_passHour.cls 294 RX9 yX9_wasteHeaps wsX9_wasteHeaps) := goodIn_r _ [197, 198, 199, 12, 200, 201, 1, 7, 8, 202, 203, 204, 205, 206, 207, 27, 28, 29, 30, 31, 32, 33, 34, 35, 36, 37, 38, 39, 40, 41, 42, 43, 44, 45, 46, 47, 48, 49, 208, 16, 209, 210, 25, 211, 212, 213, 214, 215, 216, 71, 20, 21, 22, 23, 217, 218, 224, 225, 226, 227, 228, 229, 230, 231, 232, 233, 234, 235, 279, 280, 252, 253, 254, 238, 239, 240, 241, 242, 243, 244, 245, 246, 247, 248, 249, 250, 251] rfl (by decide +kernel)
set_option maxRecDepth 100000 in
theorem g_X9_passHour_Jx4a65c_get_915e3_172 : GoodIn wsX9_passHour (wsV yX9_passHour.cls 172 RJx4a65c yJx4a65c_get_915e3 wsJx4a65c_get_915e3) := goodIn_r _ [33, 34, 35, 30, 36, 32, 37, 38, 39, 40, 41, 42, 43, 44, 45, 46, 47, 30, 48, 49, 252, 253, 254] rfl (by decide +kernel)
set_option maxRecDepth 100000 in
theorem g_X9_passHour_X3_arrive : GoodIn wsX9_passHour wsX3_arrive := goodIn_r _ [53, 54, 55, 56, 57, 58, 59, 51, 60, 61, 62, 21, 22, 23, 63, 64, 65, 16, 66, 67, 24, 25, 68, 69, 70, 71, 72, 73, 74, 75, 76, 255, 256, 257, 258, 259, 260, 261, 262, 238, 239, 240, 241, 242, 243, 244, 245, 246, 247, 248, 249, 250, 251] rfl (by decide +kernel)
set_option maxRecDepth 100000 in
theorem fl_X9_passHour_18 : bh_fl wsX9_passHour yX9_passHour.cls 18 "BeetHouse" "plots" "Ljava/util/ArrayList;" := Or.inl (List.mem_of_getElem? (i := 7) rfl)
set_option maxRecDepth 100000 in
theorem g_X9_passHour_X6_spoil : GoodIn wsX9_passHour wsX6_spoil := goodIn_r _ [221, 71, 222, 24, 25, 217, 223, 68, 69, 16, 70, 238, 239, 240, 241, 242, 243, 244, 245, 246, 247, 248, 249, 250, 251] rfl (by decide +kernel)
def f_X9_passHour_b89 (N : Nat) : Nat → Nat → Int32 → bh_S → Option (Unit × bh_S)
  | 0, _, _, _ => none
  | n + 1, this, x1, σ =>
    (bh_rdR σ 10 this 1).bind fun v1 =>
    (v1).bind fun a3 =>
    (bh_ck σ a3 0).bind fun _ =>
    bh_bnd (f_Jx4a65c_size_8abf5 a3 σ) fun v6 σ7 =>
    if v6 ≤ x1 then
      some ((), σ7)
    else
      (bh_rdR σ7 10 this 1).bind fun v10 =>
      (v10).bind fun a12 =>
      (bh_ck σ7 a12 0).bind fun _ =>
      bh_bnd (f_Jx4a65c_get_915e3 a12 x1 σ7) fun v15 σ16 =>
      (bh_cst σ16 7 v15).bind fun _ =>
      (bh_rdI σ16 10 this 11).bind fun v18 =>
      (v15).bind fun a20 =>
      (bh_ck σ16 a20 7).bind fun _ =>
      bh_bnd (f_X6_spoil a20 v18 σ16) fun v23 σ24 =>
      f_X9_passHour_b89 N n this (x1 + 1) σ24
set_option maxHeartbeats 4000000 in
set_option maxRecDepth 100000 in
theorem j_X9_passHour_b89 (X : bh_X) (N : Nat) : ∀ (n : Nat) (this : Nat) (x1 : Int32) (σ : bh_S), bh_J eU yX9_passHour cX9_passHour wsX9_passHour none 2 11 274 X σ 89 [(0, .ref this), (1, .int x1)] [] (f_X9_passHour_b89 N n this x1 σ) := by
  intro n
  induction n with
  | zero => intro this x1 σ; exact bj_none
  | succ n ih =>
    intro this x1 σ
    unfold f_X9_passHour_b89
    refine bj_iload_n dX9_passHour_89 rfl 1 rfl ?_
    refine bj_aload_nS dX9_passHour_90 rfl 0 rfl ?_
    refine bj_getR (ci := 10) (k := 1) (C := RX9) (T := TX9) (N := 12) rfl hi_X9_passHour_X9 (by decide) rfl fl_X9_passHour_18 (Or.inl rfl) dX9_passHour_91 (fun v1 h2 => ?_)
    refine bj_nn (fun a3 h4 => ?_)
    subst h4
    refine bj_op (fun _ h5 => ?_)
    refine bj_callI (br_V (As := []) (rest := [.int x1]) (q := (RJx4a65c, TJx4a65c, 3)) (c_Jx4a65c_size_8abf5 X a3 σ) rfl g_X9_passHour_Jx4a65c_size_8abf5_93 rfl (bh_ck_spec h5) ⟨rfl, hd_Jx4a65c_size_8abf5⟩ rfl ⟨by decide, by decide⟩ rfl (Nat.le_of_ble_eq_true rfl) dX9_passHour_94) (fun v6 σ7 h8 => ?_)
    refine bj_icmp_ge (tgt := 124) dX9_passHour_97 (by decide) (fun h9 => ?_) (fun h9 => ?_)
    · exact bj_vret dX9_passHour_124
    · refine bj_aload_nS dX9_passHour_100 rfl 0 rfl ?_
      refine bj_getR (ci := 10) (k := 1) (C := RX9) (T := TX9) (N := 12) rfl hi_X9_passHour_X9 (by decide) rfl fl_X9_passHour_18 (Or.inl rfl) dX9_passHour_101 (fun v10 h11 => ?_)
      refine bj_iload_n dX9_passHour_104 rfl 1 rfl ?_
      refine bj_nn (fun a12 h13 => ?_)
      subst h13
      refine bj_op (fun _ h14 => ?_)
      refine bj_callR (br_V (As := [.int x1]) (rest := []) (q := (RJx4a65c, TJx4a65c, 3)) (c_Jx4a65c_get_915e3 X a12 x1 σ7) rfl g_X9_passHour_Jx4a65c_get_915e3_172 rfl (bh_ck_spec h14) ⟨rfl, hd_Jx4a65c_get_915e3⟩ rfl ⟨by decide, by decide⟩ rfl (Nat.le_of_ble_eq_true rfl) dX9_passHour_105) (fun v15 σ16 h17 => ?_)
      refine bj_cast (ci := 7) (C := RX6) (T := TX6) (N := 14) (o := v15) rfl (List.mem_of_getElem? (i := 8) rfl) dX9_passHour_108 ?_
      refine bj_aload_nS dX9_passHour_111 rfl 0 rfl ?_
      refine bj_getI (ci := 10) (k := 11) (C := RX9) (T := TX9) (N := 12) rfl hi_X9_passHour_X9 (by decide) rfl fl_X9_passHour_70 (Or.inl rfl) dX9_passHour_112 (fun v18 h19 => ?_)
      refine bj_nn (fun a20 h21 => ?_)
      subst h21
      refine bj_op (fun _ h22 => ?_)
      refine bj_callU (br_VN (As := [.int v18]) (rest := []) (host := "BeetHouse") (q := (RX6, TX6, 14)) (c_X6_spoil X a20 v18 σ16) rfl g_X9_passHour_X6_spoil (List.mem_of_getElem? (i := 80) rfl) (List.mem_of_getElem? (i := 16) rfl) (List.mem_of_getElem? (i := 219) rfl) (List.mem_of_getElem? (i := 220) rfl) rfl (bh_ck_spec h22) hd_X6_spoil rfl ⟨by decide, by decide⟩ rfl (Nat.le_of_ble_eq_true rfl) dX9_passHour_115) (fun v23 σ24 h25 => ?_)
      refine bj_iinc (v := x1 + 1) (lv' := [(1, .int (x1 + 1)), (0, .ref this)]) dX9_passHour_118 1 rfl rfl (by decide) rfl ?_
      refine bj_goto (tgt := 89) dX9_passHour_121 (by decide) ?_
      refine bj_sub (lv' := [(0, .ref this), (1, .int (x1 + 1))]) [1, 0] rfl ?_
      exact ih this (x1 + 1) σ24
def f_X9_passHour_b87 (N : Nat) (this : Nat) (σ : bh_S) : Option (Unit × bh_S) :=
  f_X9_passHour_b89 N N this 0 σ
set_option maxHeartbeats 4000000 in
set_option maxRecDepth 100000 in
theorem j_X9_passHour_b87 (X : bh_X) (N : Nat) (this : Nat) (σ : bh_S) : bh_J eU yX9_passHour cX9_passHour wsX9_passHour none 2 11 274 X σ 87 [(0, .ref this)] [] (f_X9_passHour_b87 N this σ) := by
  unfold f_X9_passHour_b87
  refine bj_iconst (v := 0) dX9_passHour_87 (by decide) ?_
  refine bj_istore_n (lv' := [(1, .int 0), (0, .ref this)]) dX9_passHour_88 rfl (by decide) rfl ?_
  refine bj_sub (lv' := [(0, .ref this), (1, .int 0)]) [1, 0] rfl ?_
  exact j_X9_passHour_b89 X N N this 0 σ
def f_X9_passHour_b23 (N : Nat) : Nat → Nat → Int32 → bh_S → Option (Unit × bh_S)
  | 0, _, _, _ => none
  | n + 1, this, x1, σ =>
    (bh_rdR σ 10 this 3).bind fun v1 =>
    (v1).bind fun a3 =>
    (bh_ck σ a3 0).bind fun _ =>
    bh_bnd (f_Jx4a65c_size_8abf5 a3 σ) fun v6 σ7 =>
    if v6 ≤ x1 then
      (bh_ck σ7 this 10).bind fun _ =>
      bh_bnd (f_X9_unloadLorries N this σ7) fun v11 σ12 =>
      (bh_rdR σ12 10 this 6).bind fun v14 =>
      (bh_rdR σ12 10 this 5).bind fun v16 =>
      (v14).bind fun a18 =>
      (v16).bind fun a20 =>
      (bh_ck σ12 a18 5).bind fun _ =>
      bh_bnd (f_X4_grind N a18 a20 σ12) fun v23 σ24 =>
      (bh_rdI σ24 10 this 11).bind fun v26 =>
      if (v26 - v26 / 24 * 24) = 0 then
        (bh_ck σ24 this 10).bind fun _ =>
        bh_bnd (f_X9_wasteHeaps N this σ24) fun v30 σ31 =>
        f_X9_passHour_b87 N this σ31
      else
        f_X9_passHour_b87 N this σ24
    else
      (bh_rdR σ7 10 this 3).bind fun v33 =>
      (v33).bind fun a35 =>
      (bh_ck σ7 a35 0).bind fun _ =>
      bh_bnd (f_Jx4a65c_get_915e3 a35 x1 σ7) fun v38 σ39 =>
      (bh_cst σ39 4 v38).bind fun _ =>
      (bh_rdI σ39 10 this 11).bind fun v41 =>
      (v38).bind fun a43 =>
      (bh_ck σ39 a43 4).bind fun _ =>
      bh_bnd (f_X3_arrive a43 v41 σ39) fun v46 σ47 =>
      f_X9_passHour_b23 N n this (x1 + 1) σ47
set_option maxHeartbeats 4000000 in
set_option maxRecDepth 100000 in
theorem j_X9_passHour_b23 (X : bh_X) (N : Nat) : ∀ (n : Nat) (this : Nat) (x1 : Int32) (σ : bh_S), bh_J eU yX9_passHour cX9_passHour wsX9_passHour none 2 11 274 X σ 23 [(0, .ref this), (1, .int x1)] [] (f_X9_passHour_b23 N n this x1 σ) := by
  intro n
  induction n with
  | zero => intro this x1 σ; exact bj_none
  | succ n ih =>
    intro this x1 σ
    unfold f_X9_passHour_b23
    refine bj_iload_n dX9_passHour_23 rfl 1 rfl ?_
    refine bj_aload_nS dX9_passHour_24 rfl 0 rfl ?_
    refine bj_getR (ci := 10) (k := 3) (C := RX9) (T := TX9) (N := 12) rfl hi_X9_passHour_X9 (by decide) rfl fl_X9_passHour_28 (Or.inl rfl) dX9_passHour_25 (fun v1 h2 => ?_)
    refine bj_nn (fun a3 h4 => ?_)
    subst h4
    refine bj_op (fun _ h5 => ?_)
    refine bj_callI (br_V (As := []) (rest := [.int x1]) (q := (RJx4a65c, TJx4a65c, 3)) (c_Jx4a65c_size_8abf5 X a3 σ) rfl g_X9_passHour_Jx4a65c_size_8abf5_93 rfl (bh_ck_spec h5) ⟨rfl, hd_Jx4a65c_size_8abf5⟩ rfl ⟨by decide, by decide⟩ rfl (Nat.le_of_ble_eq_true rfl) dX9_passHour_28) (fun v6 σ7 h8 => ?_)
    refine bj_icmp_ge (tgt := 58) dX9_passHour_31 (by decide) (fun h9 => ?_) (fun h9 => ?_)
    · refine bj_aload_nS dX9_passHour_58 rfl 0 rfl ?_
      refine bj_op (fun _ h10 => ?_)
      refine bj_callU (br_V (As := []) (rest := []) (q := (RX9, TX9, 12)) (c_X9_unloadLorries X N this σ7) rfl g_X9_passHour_X9_unloadLorries_287 rfl (bh_ck_spec h10) ⟨rfl, hd_X9_unloadLorries⟩ rfl ⟨by decide, by decide⟩ rfl (Nat.le_of_ble_eq_true rfl) dX9_passHour_59) (fun v11 σ12 h13 => ?_)
      refine bj_aload_nS dX9_passHour_62 rfl 0 rfl ?_
      refine bj_getR (ci := 10) (k := 6) (C := RX9) (T := TX9) (N := 12) rfl hi_X9_passHour_X9 (by decide) rfl fl_X9_passHour_48 (Or.inl rfl) dX9_passHour_63 (fun v14 h15 => ?_)
      refine bj_aload_nS dX9_passHour_66 rfl 0 rfl ?_
      refine bj_getR (ci := 10) (k := 5) (C := RX9) (T := TX9) (N := 12) rfl hi_X9_passHour_X9 (by decide) rfl fl_X9_passHour_41 (Or.inl rfl) dX9_passHour_67 (fun v16 h17 => ?_)
      refine bj_nn (fun a18 h19 => ?_)
      subst h19
      refine bj_nn (fun a20 h21 => ?_)
      subst h21
      refine bj_op (fun _ h22 => ?_)
      refine bj_callU (br_VN (As := [.ref a20]) (rest := []) (host := "BeetHouse") (q := (RX4, TX4, 5)) (c_X4_grind X N a18 a20 σ12) rfl g_X9_passHour_X4_grind (List.mem_of_getElem? (i := 75) rfl) (List.mem_of_getElem? (i := 167) rfl) (List.mem_of_getElem? (i := 166) rfl) (List.mem_of_getElem? (i := 168) rfl) rfl (bh_ck_spec h22) hd_X4_grind rfl ⟨by decide, by decide⟩ rfl (Nat.le_of_ble_eq_true rfl) dX9_passHour_70) (fun v23 σ24 h25 => ?_)
      refine bj_aload_nS dX9_passHour_73 rfl 0 rfl ?_
      refine bj_getI (ci := 10) (k := 11) (C := RX9) (T := TX9) (N := 12) rfl hi_X9_passHour_X9 (by decide) rfl fl_X9_passHour_70 (Or.inl rfl) dX9_passHour_74 (fun v26 h27 => ?_)
      refine bj_bipush (v := 24) dX9_passHour_77 (by decide) ?_
      refine bj_iremC dX9_passHour_79 (by decide) ?_
      refine bj_if_ne (tgt := 87) dX9_passHour_80 (by decide) (fun h28 => ?_) (fun h28 => ?_)
      · refine bj_sub (lv' := [(0, .ref this)]) [0] rfl ?_
        exact j_X9_passHour_b87 X N this σ24
      · refine bj_aload_nS dX9_passHour_83 rfl 0 rfl ?_
        refine bj_op (fun _ h29 => ?_)
        refine bj_callU (br_V (As := []) (rest := []) (q := (RX9, TX9, 12)) (c_X9_wasteHeaps X N this σ24) rfl g_X9_passHour_X9_wasteHeaps_294 rfl (bh_ck_spec h29) ⟨rfl, hd_X9_wasteHeaps⟩ rfl ⟨by decide, by decide⟩ rfl (Nat.le_of_ble_eq_true rfl) dX9_passHour_84) (fun v30 σ31 h32 => ?_)
        refine bj_sub (lv' := [(0, .ref this)]) [0] rfl ?_
        exact j_X9_passHour_b87 X N this σ31
    · refine bj_aload_nS dX9_passHour_34 rfl 0 rfl ?_
      refine bj_getR (ci := 10) (k := 3) (C := RX9) (T := TX9) (N := 12) rfl hi_X9_passHour_X9 (by decide) rfl fl_X9_passHour_28 (Or.inl rfl) dX9_passHour_35 (fun v33 h34 => ?_)
      refine bj_iload_n dX9_passHour_38 rfl 1 rfl ?_
      refine bj_nn (fun a35 h36 => ?_)
      subst h36
      refine bj_op (fun _ h37 => ?_)
      refine bj_callR (br_V (As := [.int x1]) (rest := []) (q := (RJx4a65c, TJx4a65c, 3)) (c_Jx4a65c_get_915e3 X a35 x1 σ7) rfl g_X9_passHour_Jx4a65c_get_915e3_172 rfl (bh_ck_spec h37) ⟨rfl, hd_Jx4a65c_get_915e3⟩ rfl ⟨by decide, by decide⟩ rfl (Nat.le_of_ble_eq_true rfl) dX9_passHour_39) (fun v38 σ39 h40 => ?_)
      refine bj_cast (ci := 4) (C := RX3) (T := TX3) (N := 8) (o := v38) rfl (List.mem_of_getElem? (i := 4) rfl) dX9_passHour_42 ?_
      refine bj_aload_nS dX9_passHour_45 rfl 0 rfl ?_
      refine bj_getI (ci := 10) (k := 11) (C := RX9) (T := TX9) (N := 12) rfl hi_X9_passHour_X9 (by decide) rfl fl_X9_passHour_70 (Or.inl rfl) dX9_passHour_46 (fun v41 h42 => ?_)
      refine bj_nn (fun a43 h44 => ?_)
      subst h44
      refine bj_op (fun _ h45 => ?_)
      refine bj_callU (br_VN (As := [.int v41]) (rest := []) (host := "BeetHouse") (q := (RX3, TX3, 8)) (c_X3_arrive X a43 v41 σ39) rfl g_X9_passHour_X3_arrive (List.mem_of_getElem? (i := 67) rfl) (List.mem_of_getElem? (i := 51) rfl) (List.mem_of_getElem? (i := 50) rfl) (List.mem_of_getElem? (i := 52) rfl) rfl (bh_ck_spec h45) hd_X3_arrive rfl ⟨by decide, by decide⟩ rfl (Nat.le_of_ble_eq_true rfl) dX9_passHour_49) (fun v46 σ47 h48 => ?_)
      refine bj_iinc (v := x1 + 1) (lv' := [(1, .int (x1 + 1)), (0, .ref this)]) dX9_passHour_52 1 rfl rfl (by decide) rfl ?_
      refine bj_goto (tgt := 23) dX9_passHour_55 (by decide) ?_
      refine bj_sub (lv' := [(0, .ref this), (1, .int (x1 + 1))]) [1, 0] rfl ?_
      exact ih this (x1 + 1) σ47
def f_X9_passHour_b21 (N : Nat) (this : Nat) (σ : bh_S) : Option (Unit × bh_S) :=
  f_X9_passHour_b23 N N this 0 σ
set_option maxHeartbeats 4000000 in
set_option maxRecDepth 100000 in
theorem j_X9_passHour_b21 (X : bh_X) (N : Nat) (this : Nat) (σ : bh_S) : bh_J eU yX9_passHour cX9_passHour wsX9_passHour none 2 11 274 X σ 21 [(0, .ref this)] [] (f_X9_passHour_b21 N this σ) := by
  unfold f_X9_passHour_b21
  refine bj_iconst (v := 0) dX9_passHour_21 (by decide) ?_
  refine bj_istore_n (lv' := [(1, .int 0), (0, .ref this)]) dX9_passHour_22 rfl (by decide) rfl ?_
  refine bj_sub (lv' := [(0, .ref this), (1, .int 0)]) [1, 0] rfl ?_
  exact j_X9_passHour_b23 X N N this 0 σ
def f_X9_passHour (N : Nat) (this : Nat) (σ : bh_S) : Option (Unit × bh_S) :=
  (bh_rdI σ 10 this 11).bind fun v1 =>
  (bh_wrI σ 10 this 11 (v1 + 1)).bind fun σ3 =>
  (bh_rdI σ3 10 this 10).bind fun v5 =>
  if v5 = 0 then
    (bh_ck σ3 this 10).bind fun _ =>
    bh_bnd (f_X9_liftRoots N this σ3) fun v9 σ10 =>
    f_X9_passHour_b21 N this σ10
  else
    f_X9_passHour_b21 N this σ3
set_option maxHeartbeats 4000000 in
set_option maxRecDepth 100000 in
theorem c_X9_passHour (X : bh_X) (N : Nat) (this : Nat) (σ : bh_S) : bh_MX eU X yX9_passHour wsX9_passHour 11 274 [.ref this] σ (f_X9_passHour N this σ) := by
  refine bh_enter (cc := cX9_passHour) (NL := 2) (ret := none) (by decide) rfl (Nat.le_of_ble_eq_true rfl) (fun X => ?_)
  show bh_J eU yX9_passHour cX9_passHour wsX9_passHour none 2 11 274 X σ 0 [(0, .ref this)] [] _
  unfold f_X9_passHour
  refine bj_aload_nS dX9_passHour_0 rfl 0 rfl ?_
  refine bj_dup dX9_passHour_1 rfl ?_
  refine bj_getI (ci := 10) (k := 11) (C := RX9) (T := TX9) (N := 12) rfl hi_X9_passHour_X9 (by decide) rfl fl_X9_passHour_70 (Or.inl rfl) dX9_passHour_2 (fun v1 h2 => ?_)
  refine bj_iconst (v := 1) dX9_passHour_5 (by decide) ?_
  refine bj_iadd dX9_passHour_6 ?_
  refine bj_putI (ci := 10) (k := 11) (C := RX9) (T := TX9) (N := 12) rfl hi_X9_passHour_X9 (by decide) rfl fl_X9_passHour_70 (Or.inl rfl) tyX9 tyX9_ok nmX9 rfl (Or.inl rfl) dX9_passHour_7 (fun σ3 h4 => ?_)
  refine bj_aload_nS dX9_passHour_10 rfl 0 rfl ?_
  refine bj_getI (ci := 10) (k := 10) (C := RX9) (T := TX9) (N := 12) rfl hi_X9_passHour_X9 (by decide) rfl fl_X9_passHour_66 (Or.inl rfl) dX9_passHour_11 (fun v5 h6 => ?_)
  refine bj_if_ne (tgt := 21) dX9_passHour_14 (by decide) (fun h7 => ?_) (fun h7 => ?_)
  · refine bj_sub (lv' := [(0, .ref this)]) [0] rfl ?_
    exact j_X9_passHour_b21 X N this σ3
  · refine bj_aload_nS dX9_passHour_17 rfl 0 rfl ?_
    refine bj_op (fun _ h8 => ?_)
    refine bj_callU (br_V (As := []) (rest := []) (q := (RX9, TX9, 12)) (c_X9_liftRoots X N this σ3) rfl g_X9_passHour_X9_liftRoots_281 rfl (bh_ck_spec h8) ⟨rfl, hd_X9_liftRoots⟩ rfl ⟨by decide, by decide⟩ rfl (Nat.le_of_ble_eq_true rfl) dX9_passHour_18) (fun v9 σ10 h11 => ?_)
    refine bj_sub (lv' := [(0, .ref this)]) [0] rfl ?_
    exact j_X9_passHour_b21 X N this σ10
/-! BeetHouse.hours(I)I -/
theorem hi_X9_hours_X9 : ∀ w ∈ u_ws RX9 TX9 12, w ∈ wsX9_hours := fun _ h => (List.mem_cons_of_mem _ (List.mem_append_left _ (List.mem_append_left _ (List.mem_append_left _ (List.mem_append_left _ (List.mem_append_left _ (List.mem_append_left _ (List.mem_append_left _ (List.mem_append_left _ (List.mem_append_left _ (List.mem_append_right _ h)))))))))))
set_option maxRecDepth 100000 in
theorem fl_X9_hours_70 : bh_fl wsX9_hours yX9_hours.cls 70 "BeetHouse" "hour" "I" := Or.inl (List.mem_of_getElem? (i := 1) rfl)
set_option maxRecDepth 100000 in
theorem fl_X9_hours_48 : bh_fl wsX9_hours yX9_hours.cls 48 "BeetHouse" "mill" "LBeetHouse$Mill;" := Or.inl (List.mem_of_getElem? (i := 2) rfl)
theorem hi_X9_hours_X4 : ∀ w ∈ u_ws RX4 TX4 5, w ∈ wsX9_hours := fun _ h => (List.mem_cons_of_mem _ (List.mem_append_left _ (List.mem_append_left _ (List.mem_append_left _ (List.mem_append_left _ (List.mem_append_left _ (List.mem_append_left _ (List.mem_append_left _ (List.mem_append_left _ (List.mem_append_right _ h))))))))))
set_option maxRecDepth 100000 in
theorem fl_X9_hours_184 : bh_fl wsX9_hours yX9_hours.cls 184 "BeetHouse$Mill" "eaten" "I" := Or.inr ⟨"BeetHouse", List.mem_of_getElem? (i := 9) rfl⟩
set_option maxRecDepth 100000 in
theorem g_X9_hours_X9_refuse_82 : GoodIn wsX9_hours (wsV yX9_hours.cls 82 RX9 yX9_refuse wsX9_refuse) := goodIn_r _ [3, 4, 5, 6, 7, 8, 233, 234, 235, 236, 237, 238, 239, 240, 241, 242, 243, 244] rfl (by decide +kernel)
set_option maxRecDepth 100000 in
theorem g_X9_hours_X9_passHour_187 : GoodIn wsX9_hours (wsV yX9_hours.cls 187 RX9 yX9_passHour wsX9_passHour) := goodIn_r _ [9, 10, 11, 6, 12, 1, 13, 14, 15, 2, 16, 17, 18, 19, 20, 21, 6, 22, 23, 24, 25, 26, 27, 28, 29, 30, 31, 32, 33, 34, 35, 36, 37, 38, 39, 40, 41, 42, 43, 44, 45, 46, 47, 48, 49, 50, 51, 52, 53, 54, 55, 56, 57, 58, 59, 60, 61, 62, 63, 64, 65, 66, 67, 68, 69, 70, 71, 72, 73, 74, 75, 76, 77, 78, 79, 80, 81, 82, 83, 84, 85, 86, 87, 88, 89, 90, 91, 92, 93, 94, 95, 96, 97, 98, 99, 100, 101, 102, 103, 104, 105, 106, 107, 108, 109, 110, 111, 112, 113, 114, 115, 116, 117, 118, 119, 120, 121, 122, 123, 124, 125, 126, 127, 128, 129, 130, 131, 132, 133, 134, 135, 136, 137, 138, 139, 140, 141, 142, 143, 144, 145, 146, 147, 148, 149, 150, 151, 152, 153, 154, 155, 156, 157, 158, 159, 160, 161, 162, 163, 164, 165, 166, 167, 168, 169, 170, 171, 172, 173, 174, 175, 176, 177, 178, 179, 180, 181, 182, 183, 184, 185, 186, 187, 188, 189, 190, 191, 192, 193, 194, 195, 196, 197, 198, 199, 200, 201, 202, 203, 204, 205, 206, 207, 208, 209, 210, 211, 212, 213, 214, 215, 216, 217, 218, 219, 220, 221, 222, 223, 224, 225, 226, 227, 228, 229, 230, 231, 232, 233, 234, 235, 236, 237, 238, 239, 240, 241, 242, 243, 244, 250, 251, 252, 253, 254, 255, 256, 257, 258, 259, 260, 261, 262, 263, 264, 265, 266, 267, 268, 269, 270, 271, 272, 273, 274, 275, 276, 277, 278, 279, 280, 281, 282, 283, 284, 285, 286, 287, 245, 246, 247, 248, 249, 288, 289] rfl (by decide +kernel)
def f_X9_hours_b41 (N : Nat) : Nat → Nat → Int32 → Int32 → Int32 → bh_S → Option (Int32 × bh_S)
  | 0, _, _, _, _, _ => none
  | n + 1, this, x1, x2, x3, σ =>
    if x1 ≤ x3 then
      (bh_rdR σ 10 this 6).bind fun v2 =>
      (v2).bind fun a4 =>
      (bh_rdI σ 5 a4 1).bind fun v6 =>
      some (v6 - x2, σ)
    else
      (bh_ck σ this 10).bind fun _ =>
      bh_bnd (f_X9_passHour N this σ) fun v9 σ10 =>
      f_X9_hours_b41 N n this x1 x2 (x3 + 1) σ10
set_option maxHeartbeats 4000000 in
set_option maxRecDepth 100000 in
theorem j_X9_hours_b41 (X : bh_X) (N : Nat) : ∀ (n : Nat) (this : Nat) (x1 : Int32) (x2 : Int32) (x3 : Int32) (σ : bh_S), bh_J eI yX9_hours cX9_hours wsX9_hours (some .int) 4 12 295 X σ 41 [(0, .ref this), (1, .int x1), (2, .int x2), (3, .int x3)] [] (f_X9_hours_b41 N n this x1 x2 x3 σ) := by
  intro n
  induction n with
  | zero => intro this x1 x2 x3 σ; exact bj_none
  | succ n ih =>
    intro this x1 x2 x3 σ
    unfold f_X9_hours_b41
    refine bj_iload_n dX9_hours_41 rfl 3 rfl ?_
    refine bj_iload_n dX9_hours_42 rfl 1 rfl ?_
    refine bj_icmp_ge (tgt := 56) dX9_hours_43 (by decide) (fun h1 => ?_) (fun h1 => ?_)
    · refine bj_aload_nS dX9_hours_56 rfl 0 rfl ?_
      refine bj_getR (ci := 10) (k := 6) (C := RX9) (T := TX9) (N := 12) rfl hi_X9_hours_X9 (by decide) rfl fl_X9_hours_48 (Or.inl rfl) dX9_hours_57 (fun v2 h3 => ?_)
      refine bj_nn (fun a4 h5 => ?_)
      subst h5
      refine bj_getI (ci := 5) (k := 1) (C := RX4) (T := TX4) (N := 5) rfl hi_X9_hours_X4 (by decide) rfl fl_X9_hours_184 (Or.inl rfl) dX9_hours_60 (fun v6 h7 => ?_)
      refine bj_iload_n dX9_hours_63 rfl 2 rfl ?_
      refine bj_isub dX9_hours_64 ?_
      exact bj_iret dX9_hours_65
    · refine bj_aload_nS dX9_hours_46 rfl 0 rfl ?_
      refine bj_op (fun _ h8 => ?_)
      refine bj_callU (br_V (As := []) (rest := []) (q := (RX9, TX9, 12)) (c_X9_passHour X N this σ) rfl g_X9_hours_X9_passHour_187 rfl (bh_ck_spec h8) ⟨rfl, hd_X9_passHour⟩ rfl ⟨by decide, by decide⟩ rfl (Nat.le_of_ble_eq_true rfl) dX9_hours_47) (fun v9 σ10 h11 => ?_)
      refine bj_iinc (v := x3 + 1) (lv' := [(3, .int (x3 + 1)), (0, .ref this), (1, .int x1), (2, .int x2)]) dX9_hours_50 3 rfl rfl (by decide) rfl ?_
      refine bj_goto (tgt := 41) dX9_hours_53 (by decide) ?_
      refine bj_sub (lv' := [(0, .ref this), (1, .int x1), (2, .int x2), (3, .int (x3 + 1))]) [1, 2, 3, 0] rfl ?_
      exact ih this x1 x2 (x3 + 1) σ10
def f_X9_hours (N : Nat) (this : Nat) (p1 : Int32) (σ : bh_S) : Option (Int32 × bh_S) :=
  if 1 ≤ p1 then
    (bh_rdI σ 10 this 11).bind fun v2 =>
    if p1 ≤ (2400 - v2) then
      (bh_rdR σ 10 this 6).bind fun v5 =>
      (v5).bind fun a7 =>
      (bh_rdI σ 5 a7 1).bind fun v9 =>
      f_X9_hours_b41 N N this p1 v9 0 σ
    else
      (bh_ck σ this 10).bind fun _ =>
      bh_bnd (f_X9_refuse this (-6) σ) fun v12 σ13 =>
      some (v12, σ13)
  else
    (bh_ck σ this 10).bind fun _ =>
    bh_bnd (f_X9_refuse this (-4) σ) fun v16 σ17 =>
    some (v16, σ17)
set_option maxHeartbeats 4000000 in
set_option maxRecDepth 100000 in
theorem c_X9_hours (X : bh_X) (N : Nat) (this : Nat) (p1 : Int32) (σ : bh_S) : bh_MX eI X yX9_hours wsX9_hours 12 295 [.ref this, .int p1] σ (f_X9_hours N this p1 σ) := by
  refine bh_enter (cc := cX9_hours) (NL := 4) (ret := (some .int)) (by decide) rfl (Nat.le_of_ble_eq_true rfl) (fun X => ?_)
  show bh_J eI yX9_hours cX9_hours wsX9_hours (some .int) 4 12 295 X σ 0 [(0, .ref this), (1, .int p1)] [] _
  unfold f_X9_hours
  refine bj_iload_n dX9_hours_0 rfl 1 rfl ?_
  refine bj_iconst (v := 1) dX9_hours_1 (by decide) ?_
  refine bj_icmp_ge (tgt := 12) dX9_hours_2 (by decide) (fun h1 => ?_) (fun h1 => ?_)
  · refine bj_iload_n dX9_hours_12 rfl 1 rfl ?_
    refine bj_sipush (v := 2400) dX9_hours_13 (by decide) ?_
    refine bj_aload_nS dX9_hours_16 rfl 0 rfl ?_
    refine bj_getI (ci := 10) (k := 11) (C := RX9) (T := TX9) (N := 12) rfl hi_X9_hours_X9 (by decide) rfl fl_X9_hours_70 (Or.inl rfl) dX9_hours_17 (fun v2 h3 => ?_)
    refine bj_isub dX9_hours_20 ?_
    refine bj_icmp_le (tgt := 31) dX9_hours_21 (by decide) (fun h4 => ?_) (fun h4 => ?_)
    · refine bj_aload_nS dX9_hours_31 rfl 0 rfl ?_
      refine bj_getR (ci := 10) (k := 6) (C := RX9) (T := TX9) (N := 12) rfl hi_X9_hours_X9 (by decide) rfl fl_X9_hours_48 (Or.inl rfl) dX9_hours_32 (fun v5 h6 => ?_)
      refine bj_nn (fun a7 h8 => ?_)
      subst h8
      refine bj_getI (ci := 5) (k := 1) (C := RX4) (T := TX4) (N := 5) rfl hi_X9_hours_X4 (by decide) rfl fl_X9_hours_184 (Or.inl rfl) dX9_hours_35 (fun v9 h10 => ?_)
      refine bj_istore_n (lv' := [(2, .int v9), (0, .ref this), (1, .int p1)]) dX9_hours_38 rfl (by decide) rfl ?_
      refine bj_iconst (v := 0) dX9_hours_39 (by decide) ?_
      refine bj_istore_n (lv' := [(3, .int 0), (2, .int v9), (0, .ref this), (1, .int p1)]) dX9_hours_40 rfl (by decide) rfl ?_
      refine bj_sub (lv' := [(0, .ref this), (1, .int p1), (2, .int v9), (3, .int 0)]) [2, 3, 1, 0] rfl ?_
      exact j_X9_hours_b41 X N N this p1 v9 0 σ
    · refine bj_aload_nS dX9_hours_24 rfl 0 rfl ?_
      refine bj_bipush (v := (-6)) dX9_hours_25 (by decide) ?_
      refine bj_op (fun _ h11 => ?_)
      refine bj_callI (br_V (As := [.int (-6)]) (rest := []) (q := (RX9, TX9, 12)) (c_X9_refuse X this (-6) σ) rfl g_X9_hours_X9_refuse_82 rfl (bh_ck_spec h11) ⟨rfl, hd_X9_refuse⟩ rfl ⟨by decide, by decide⟩ rfl (Nat.le_of_ble_eq_true rfl) dX9_hours_27) (fun v12 σ13 h14 => ?_)
      exact bj_iret dX9_hours_30
  · refine bj_aload_nS dX9_hours_5 rfl 0 rfl ?_
    refine bj_bipush (v := (-4)) dX9_hours_6 (by decide) ?_
    refine bj_op (fun _ h15 => ?_)
    refine bj_callI (br_V (As := [.int (-4)]) (rest := []) (q := (RX9, TX9, 12)) (c_X9_refuse X this (-4) σ) rfl g_X9_hours_X9_refuse_82 rfl (bh_ck_spec h15) ⟨rfl, hd_X9_refuse⟩ rfl ⟨by decide, by decide⟩ rfl (Nat.le_of_ble_eq_true rfl) dX9_hours_8) (fun v16 σ17 h18 => ?_)
    exact bj_iret dX9_hours_11
/-! BeetHouse.owed(I)I -/
set_option maxRecDepth 100000 in
theorem g_X9_owed_X9_farmerAt_78 : GoodIn wsX9_owed (wsV yX9_owed.cls 78 RX9 yX9_farmerAt wsX9_farmerAt) := goodIn_r _ [3, 4, 5, 6, 7, 8, 20, 21, 22, 23, 24, 25, 26, 27, 28, 29, 30, 31] rfl (by decide +kernel)
set_option maxRecDepth 100000 in
theorem g_X9_owed_X9_refuse_82 : GoodIn wsX9_owed (wsV yX9_owed.cls 82 RX9 yX9_refuse wsX9_refuse) := goodIn_r _ [9, 10, 11, 6, 12, 13, 20, 21, 22, 23, 24, 25, 26, 27, 28, 29, 30, 31] rfl (by decide +kernel)
theorem hi_X9_owed_X9 : ∀ w ∈ u_ws RX9 TX9 12, w ∈ wsX9_owed := fun _ h => (List.mem_cons_of_mem _ (List.mem_append_left _ (List.mem_append_left _ (List.mem_append_right _ h))))
set_option maxRecDepth 100000 in
theorem fl_X9_owed_41 : bh_fl wsX9_owed yX9_owed.cls 41 "BeetHouse" "yard" "LBeetHouse$Yard;" := Or.inl (List.mem_of_getElem? (i := 2) rfl)
theorem hi_X9_owed_X8 : ∀ w ∈ u_ws RX8 TX8 4, w ∈ wsX9_owed := fun _ h => (List.mem_cons_of_mem _ (List.mem_append_left _ (List.mem_append_right _ h)))
set_option maxRecDepth 100000 in
theorem fl_X9_owed_191 : bh_fl wsX9_owed yX9_owed.cls 191 "BeetHouse$Yard" "came" "I" := Or.inr ⟨"BeetHouse", List.mem_of_getElem? (i := 7) rfl⟩
set_option maxRecDepth 100000 in
theorem g_X9_owed_X0_claim : GoodIn wsX9_owed wsX0_claim := goodIn_r _ [17, 18, 19, 36, 37, 38, 39] rfl (by decide +kernel)
def f_X9_owed (this : Nat) (p1 : Int32) (σ : bh_S) : Option (Int32 × bh_S) :=
  (bh_ck σ this 10).bind fun _ =>
  bh_bnd (f_X9_farmerAt this p1 σ) fun v2 σ3 =>
  bh_cs v2 (
    (bh_ck σ3 this 10).bind fun _ =>
    bh_bnd (f_X9_refuse this (-1) σ3) fun v8 σ9 =>
    some (v8, σ9)
  ) (fun a5 =>
    (bh_rdR σ3 10 this 5).bind fun v11 =>
    (v11).bind fun a13 =>
    (bh_rdI σ3 9 a13 3).bind fun v15 =>
    (bh_ck σ3 a5 1).bind fun _ =>
    bh_bnd (f_X0_claim a5 v15 σ3) fun v18 σ19 =>
    some (1000000000 + v18, σ19)
  )
set_option maxHeartbeats 4000000 in
set_option maxRecDepth 100000 in
theorem c_X9_owed (X : bh_X) (this : Nat) (p1 : Int32) (σ : bh_S) : bh_MX eI X yX9_owed wsX9_owed 1 21 [.ref this, .int p1] σ (f_X9_owed this p1 σ) := by
  refine bh_enter (cc := cX9_owed) (NL := 3) (ret := (some .int)) (by decide) rfl (Nat.le_of_ble_eq_true rfl) (fun X => ?_)
  show bh_J eI yX9_owed cX9_owed wsX9_owed (some .int) 3 1 21 X σ 0 [(0, .ref this), (1, .int p1)] [] _
  unfold f_X9_owed
  refine bj_aload_nS dX9_owed_0 rfl 0 rfl ?_
  refine bj_iload_n dX9_owed_1 rfl 1 rfl ?_
  refine bj_op (fun _ h1 => ?_)
  refine bj_callR (br_V (As := [.int p1]) (rest := []) (q := (RX9, TX9, 12)) (c_X9_farmerAt X this p1 σ) rfl g_X9_owed_X9_farmerAt_78 rfl (bh_ck_spec h1) ⟨rfl, hd_X9_farmerAt⟩ rfl ⟨by decide, by decide⟩ rfl (Nat.le_of_ble_eq_true rfl) dX9_owed_2) (fun v2 σ3 h4 => ?_)
  refine bj_astore_n (lv' := [(2, va_rf v2), (0, .ref this), (1, .int p1)]) (o := v2) dX9_owed_5 rfl (by decide) rfl ?_
  refine bj_aload_n dX9_owed_6 rfl 0 rfl ?_
  refine bj_ifnonnull (o := v2) (tgt := 18) dX9_owed_7 (by decide) (fun h6 => ?_) (fun a5 h6 => ?_)
  · subst h6
    refine bj_aload_nS dX9_owed_10 rfl 1 rfl ?_
    refine bj_iconst (v := (-1)) dX9_owed_11 (by decide) ?_
    refine bj_op (fun _ h7 => ?_)
    refine bj_callI (br_V (As := [.int (-1)]) (rest := []) (q := (RX9, TX9, 12)) (c_X9_refuse X this (-1) σ3) rfl g_X9_owed_X9_refuse_82 rfl (bh_ck_spec h7) ⟨rfl, hd_X9_refuse⟩ rfl ⟨by decide, by decide⟩ rfl (Nat.le_of_ble_eq_true rfl) dX9_owed_12) (fun v8 σ9 h10 => ?_)
    refine bj_goto (tgt := 32) dX9_owed_15 (by decide) ?_
    exact bj_iret dX9_owed_32
  · subst h6
    refine bj_ldc dX9_owed_18 (List.mem_of_getElem? (i := 1) rfl) ?_
    refine bj_aload_nS dX9_owed_20 rfl 0 rfl ?_
    refine bj_aload_nS dX9_owed_21 rfl 1 rfl ?_
    refine bj_getR (ci := 10) (k := 5) (C := RX9) (T := TX9) (N := 12) rfl hi_X9_owed_X9 (by decide) rfl fl_X9_owed_41 (Or.inl rfl) dX9_owed_22 (fun v11 h12 => ?_)
    refine bj_nn (fun a13 h14 => ?_)
    subst h14
    refine bj_getI (ci := 9) (k := 3) (C := RX8) (T := TX8) (N := 4) rfl hi_X9_owed_X8 (by decide) rfl fl_X9_owed_191 (Or.inl rfl) dX9_owed_25 (fun v15 h16 => ?_)
    refine bj_op (fun _ h17 => ?_)
    refine bj_callI (br_VN (As := [.int v15]) (rest := [.int 1000000000]) (host := "BeetHouse") (q := (RX0, TX0, 4)) (c_X0_claim X a5 v15 σ3) rfl g_X9_owed_X0_claim (List.mem_of_getElem? (i := 81) rfl) (List.mem_of_getElem? (i := 15) rfl) (List.mem_of_getElem? (i := 14) rfl) (List.mem_of_getElem? (i := 16) rfl) rfl (bh_ck_spec h17) hd_X0_claim rfl ⟨by decide, by decide⟩ rfl (Nat.le_of_ble_eq_true rfl) dX9_owed_28) (fun v18 σ19 h20 => ?_)
    refine bj_iadd dX9_owed_31 ?_
    exact bj_iret dX9_owed_32
/-! BeetHouse.next()I -/
set_option maxRecDepth 100000 in
theorem g_X9_next_X9_mostOwed_138 : GoodIn wsX9_next (wsV yX9_next.cls 138 RX9 yX9_mostOwed wsX9_mostOwed) := goodIn_r _ [1, 2, 3, 4, 5, 6, 7, 8, 9, 10, 11, 12, 13, 14, 15, 16, 17, 18, 19, 20, 21, 22, 23, 24, 25, 26, 27, 28, 29, 30, 31, 32, 33, 34, 4, 35, 36, 37, 38, 39, 40, 41, 42, 43, 44, 45, 46, 47, 48, 49, 50, 51, 52, 53, 54, 59, 60, 61, 62, 63, 64, 65, 66, 67, 68, 69, 70, 71, 72, 73, 74, 75, 76, 77, 78, 79, 80, 81, 82, 83, 84, 85, 86, 87, 88, 89, 90, 91, 92, 93, 94, 95, 96, 97, 98, 99, 55, 56, 57, 58] rfl (by decide +kernel)
theorem hi_X9_next_X0 : ∀ w ∈ u_ws RX0 TX0 4, w ∈ wsX9_next := fun _ h => (List.mem_cons_of_mem _ (List.mem_append_left _ (List.mem_append_left _ (List.mem_append_left _ (List.mem_append_left _ (List.mem_append_left _ (List.mem_append_right _ h)))))))
set_option maxRecDepth 100000 in
theorem fl_X9_next_197 : bh_fl wsX9_next yX9_next.cls 197 "BeetHouse$Farmer" "number" "I" := Or.inr ⟨"BeetHouse", List.mem_of_getElem? (i := 13) rfl⟩
def f_X9_next (N : Nat) (this : Nat) (σ : bh_S) : Option (Int32 × bh_S) :=
  (bh_ck σ this 10).bind fun _ =>
  bh_bnd (f_X9_mostOwed N this σ) fun v2 σ3 =>
  bh_cs v2 (
    some ((-9), σ3)
  ) (fun a5 =>
    (bh_rdI σ3 1 a5 0).bind fun v7 =>
    some (v7, σ3)
  )
set_option maxHeartbeats 4000000 in
set_option maxRecDepth 100000 in
theorem c_X9_next (X : bh_X) (N : Nat) (this : Nat) (σ : bh_S) : bh_MX eI X yX9_next wsX9_next 5 111 [.ref this] σ (f_X9_next N this σ) := by
  refine bh_enter (cc := cX9_next) (NL := 2) (ret := (some .int)) (by decide) rfl (Nat.le_of_ble_eq_true rfl) (fun X => ?_)
  show bh_J eI yX9_next cX9_next wsX9_next (some .int) 2 5 111 X σ 0 [(0, .ref this)] [] _
  unfold f_X9_next
  refine bj_aload_nS dX9_next_0 rfl 0 rfl ?_
  refine bj_op (fun _ h1 => ?_)
  refine bj_callR (br_V (As := []) (rest := []) (q := (RX9, TX9, 12)) (c_X9_mostOwed X N this σ) rfl g_X9_next_X9_mostOwed_138 rfl (bh_ck_spec h1) ⟨rfl, hd_X9_mostOwed⟩ rfl ⟨by decide, by decide⟩ rfl (Nat.le_of_ble_eq_true rfl) dX9_next_1) (fun v2 σ3 h4 => ?_)
  refine bj_astore_n (lv' := [(1, va_rf v2), (0, .ref this)]) (o := v2) dX9_next_4 rfl (by decide) rfl ?_
  refine bj_aload_n dX9_next_5 rfl 0 rfl ?_
  refine bj_ifnonnull (o := v2) (tgt := 14) dX9_next_6 (by decide) (fun h6 => ?_) (fun a5 h6 => ?_)
  · subst h6
    refine bj_bipush (v := (-9)) dX9_next_9 (by decide) ?_
    refine bj_goto (tgt := 18) dX9_next_11 (by decide) ?_
    exact bj_iret dX9_next_18
  · subst h6
    refine bj_aload_nS dX9_next_14 rfl 0 rfl ?_
    refine bj_getI (ci := 1) (k := 0) (C := RX0) (T := TX0) (N := 4) rfl hi_X9_next_X0 (by decide) rfl fl_X9_next_197 (Or.inl rfl) dX9_next_15 (fun v7 h8 => ?_)
    exact bj_iret dX9_next_18
/-! BeetHouse.findOrder()Z -/
theorem hi_X9_findOrder_X9 : ∀ w ∈ u_ws RX9 TX9 12, w ∈ wsX9_findOrder := fun _ h => (List.mem_cons_of_mem _ (List.mem_append_left _ (List.mem_append_left _ (List.mem_append_left _ (List.mem_append_left _ (List.mem_append_left _ (List.mem_append_right _ h)))))))
set_option maxRecDepth 100000 in
theorem fl_X9_findOrder_55 : bh_fl wsX9_findOrder yX9_findOrder.cls 55 "BeetHouse" "orders" "LBeetHouse$Orders;" := Or.inl (List.mem_of_getElem? (i := 1) rfl)
set_option maxRecDepth 100000 in
theorem fl_X9_findOrder_70 : bh_fl wsX9_findOrder yX9_findOrder.cls 70 "BeetHouse" "hour" "I" := Or.inl (List.mem_of_getElem? (i := 2) rfl)
set_option maxRecDepth 100000 in
theorem g_X9_findOrder_X5_clear : GoodIn wsX9_findOrder wsX5_clear := goodIn_r _ [10, 11, 12, 13, 114, 115, 116, 117, 118, 119, 120] rfl (by decide +kernel)
set_option maxRecDepth 100000 in
theorem fl_X9_findOrder_48 : bh_fl wsX9_findOrder yX9_findOrder.cls 48 "BeetHouse" "mill" "LBeetHouse$Mill;" := Or.inl (List.mem_of_getElem? (i := 3) rfl)
theorem hi_X9_findOrder_X4 : ∀ w ∈ u_ws RX4 TX4 5, w ∈ wsX9_findOrder := fun _ h => (List.mem_cons_of_mem _ (List.mem_append_left _ (List.mem_append_left _ (List.mem_append_left _ (List.mem_append_left _ (List.mem_append_right _ h))))))
set_option maxRecDepth 100000 in
theorem fl_X9_findOrder_152 : bh_fl wsX9_findOrder yX9_findOrder.cls 152 "BeetHouse$Mill" "rate" "I" := Or.inr ⟨"BeetHouse", List.mem_of_getElem? (i := 8) rfl⟩
set_option maxRecDepth 100000 in
theorem fl_X9_findOrder_18 : bh_fl wsX9_findOrder yX9_findOrder.cls 18 "BeetHouse" "plots" "Ljava/util/ArrayList;" := Or.inl (List.mem_of_getElem? (i := 4) rfl)
set_option maxRecDepth 100000 in
theorem g_X9_findOrder_Jx4a65c_size_8abf5_93 : GoodIn wsX9_findOrder (wsV yX9_findOrder.cls 93 RJx4a65c yJx4a65c_size_8abf5 wsJx4a65c_size_8abf5) := goodIn_r _ [14, 15, 16, 17, 18, 19, 121, 122, 123] rfl (by decide +kernel)
set_option maxRecDepth 100000 in
theorem g_X9_findOrder_X5_search : GoodIn wsX9_findOrder wsX5_search := goodIn_r _ [70, 11, 71, 72, 73, 74, 8, 75, 76, 77, 78, 79, 80, 81, 13, 82, 59, 60, 61, 12, 41, 114, 115, 116, 117, 118, 119, 120] rfl (by decide +kernel)
set_option maxRecDepth 100000 in
theorem g_X9_findOrder_Jx4a65c_get_915e3_172 : GoodIn wsX9_findOrder (wsV yX9_findOrder.cls 172 RJx4a65c yJx4a65c_get_915e3 wsJx4a65c_get_915e3) := goodIn_r _ [20, 21, 22, 17, 23, 19, 24, 25, 26, 27, 28, 29, 30, 31, 32, 33, 34, 17, 35, 36, 121, 122, 123] rfl (by decide +kernel)
theorem hi_X9_findOrder_X6 : ∀ w ∈ u_ws RX6 TX6 14, w ∈ wsX9_findOrder := fun _ h => (List.mem_cons_of_mem _ (List.mem_append_left _ (List.mem_append_left _ (List.mem_append_left _ (List.mem_append_right _ h)))))
set_option maxRecDepth 100000 in
theorem fl_X9_findOrder_163 : bh_fl wsX9_findOrder yX9_findOrder.cls 163 "BeetHouse$Plot" "roots" "I" := Or.inr ⟨"BeetHouse", List.mem_of_getElem? (i := 27) rfl⟩
set_option maxRecDepth 100000 in
theorem fl_X9_findOrder_34 : bh_fl wsX9_findOrder yX9_findOrder.cls 34 "BeetHouse" "weather" "LBeetHouse$Weather;" := Or.inl (List.mem_of_getElem? (i := 6) rfl)
set_option maxRecDepth 100000 in
theorem g_X9_findOrder_X5_add : GoodIn wsX9_findOrder wsX5_add := goodIn_r _ [39, 11, 40, 41, 13, 42, 43, 44, 8, 45, 12, 46, 47, 48, 49, 50, 51, 52, 53, 54, 55, 56, 57, 58, 59, 60, 61, 62, 63, 64, 65, 66, 67, 114, 115, 116, 117, 118, 119, 120, 100, 101, 102, 103, 104, 105, 106, 107, 108, 109, 110, 111, 112, 113, 124, 125] rfl (by decide +kernel)
def f_X9_findOrder_b79 (N : Nat) (k25 : Nat → Int32 → bh_S → Option (Int32 × bh_S)) (this : Nat) (x1 : Int32) (σ : bh_S) : Option (Int32 × bh_S) :=
  k25 this (x1 + 1) σ
set_option maxHeartbeats 4000000 in
set_option maxRecDepth 100000 in
theorem j_X9_findOrder_b79 (X : bh_X) (N : Nat) (k25 : Nat → Int32 → bh_S → Option (Int32 × bh_S)) (hk25 : ∀ (this : Nat) (x1 : Int32) (σ : bh_S), bh_J eI yX9_findOrder cX9_findOrder wsX9_findOrder (some .boolean) 3 4 88 X σ 25 [(0, .ref this), (1, .int x1)] [] (k25 this x1 σ)) (this : Nat) (x1 : Int32) (σ : bh_S) : bh_J eI yX9_findOrder cX9_findOrder wsX9_findOrder (some .boolean) 3 4 88 X σ 79 [(0, .ref this), (1, .int x1)] [] (f_X9_findOrder_b79 N k25 this x1 σ) := by
  unfold f_X9_findOrder_b79
  refine bj_iinc (v := x1 + 1) (lv' := [(1, .int (x1 + 1)), (0, .ref this)]) dX9_findOrder_79 1 rfl rfl (by decide) rfl ?_
  refine bj_goto (tgt := 25) dX9_findOrder_82 (by decide) ?_
  refine bj_sub (lv' := [(0, .ref this), (1, .int (x1 + 1))]) [1, 0] rfl ?_
  exact hk25 this (x1 + 1) σ
def f_X9_findOrder_b25 (N : Nat) : Nat → Nat → Int32 → bh_S → Option (Int32 × bh_S)
  | 0, _, _, _ => none
  | n + 1, this, x1, σ =>
    (bh_rdR σ 10 this 1).bind fun v1 =>
    (v1).bind fun a3 =>
    (bh_ck σ a3 0).bind fun _ =>
    bh_bnd (f_Jx4a65c_size_8abf5 a3 σ) fun v6 σ7 =>
    if v6 ≤ x1 then
      (bh_rdR σ7 10 this 7).bind fun v10 =>
      (v10).bind fun a12 =>
      (bh_ck σ7 a12 6).bind fun _ =>
      bh_bnd (f_X5_search N a12 σ7) fun v15 σ16 =>
      bh_retZ σ16 1
    else
      (bh_rdR σ7 10 this 1).bind fun v18 =>
      (v18).bind fun a20 =>
      (bh_ck σ7 a20 0).bind fun _ =>
      bh_bnd (f_Jx4a65c_get_915e3 a20 x1 σ7) fun v23 σ24 =>
      (bh_cst σ24 7 v23).bind fun _ =>
      (v23).bind fun a26 =>
      (bh_rdI σ24 7 a26 6).bind fun v28 =>
      if v28 ≤ 0 then
        f_X9_findOrder_b79 N (f_X9_findOrder_b25 N n) this x1 σ24
      else
        (bh_rdR σ24 10 this 7).bind fun v31 =>
        (bh_rdR σ24 10 this 6).bind fun v33 =>
        (v33).bind fun a35 =>
        (bh_rdI σ24 5 a35 0).bind fun v37 =>
        (bh_rdR σ24 10 this 4).bind fun v39 =>
        (v31).bind fun a41 =>
        (v39).bind fun a43 =>
        (bh_ck σ24 a41 6).bind fun _ =>
        bh_bnd (f_X5_add N a41 a26 v37 a43 σ24) fun v46 σ47 =>
        if v46 = 0 then
          bh_retZ σ47 0
        else
          f_X9_findOrder_b79 N (f_X9_findOrder_b25 N n) this x1 σ47
set_option maxHeartbeats 4000000 in
set_option maxRecDepth 100000 in
theorem j_X9_findOrder_b25 (X : bh_X) (N : Nat) : ∀ (n : Nat) (this : Nat) (x1 : Int32) (σ : bh_S), bh_J eI yX9_findOrder cX9_findOrder wsX9_findOrder (some .boolean) 3 4 88 X σ 25 [(0, .ref this), (1, .int x1)] [] (f_X9_findOrder_b25 N n this x1 σ) := by
  intro n
  induction n with
  | zero => intro this x1 σ; exact bj_none
  | succ n ih =>
    intro this x1 σ
    unfold f_X9_findOrder_b25
    refine bj_iload_n dX9_findOrder_25 rfl 1 rfl ?_
    refine bj_aload_nS dX9_findOrder_26 rfl 0 rfl ?_
    refine bj_getR (ci := 10) (k := 1) (C := RX9) (T := TX9) (N := 12) rfl hi_X9_findOrder_X9 (by decide) rfl fl_X9_findOrder_18 (Or.inl rfl) dX9_findOrder_27 (fun v1 h2 => ?_)
    refine bj_nn (fun a3 h4 => ?_)
    subst h4
    refine bj_op (fun _ h5 => ?_)
    refine bj_callI (br_V (As := []) (rest := [.int x1]) (q := (RJx4a65c, TJx4a65c, 3)) (c_Jx4a65c_size_8abf5 X a3 σ) rfl g_X9_findOrder_Jx4a65c_size_8abf5_93 rfl (bh_ck_spec h5) ⟨rfl, hd_Jx4a65c_size_8abf5⟩ rfl ⟨by decide, by decide⟩ rfl (Nat.le_of_ble_eq_true rfl) dX9_findOrder_30) (fun v6 σ7 h8 => ?_)
    refine bj_icmp_ge (tgt := 85) dX9_findOrder_33 (by decide) (fun h9 => ?_) (fun h9 => ?_)
    · refine bj_aload_nS dX9_findOrder_85 rfl 0 rfl ?_
      refine bj_getR (ci := 10) (k := 7) (C := RX9) (T := TX9) (N := 12) rfl hi_X9_findOrder_X9 (by decide) rfl fl_X9_findOrder_55 (Or.inl rfl) dX9_findOrder_86 (fun v10 h11 => ?_)
      refine bj_nn (fun a12 h13 => ?_)
      subst h13
      refine bj_op (fun _ h14 => ?_)
      refine bj_callU (br_VN (As := []) (rest := []) (host := "BeetHouse") (q := (RX5, TX5, 7)) (c_X5_search X N a12 σ7) rfl g_X9_findOrder_X5_search (List.mem_of_getElem? (i := 87) rfl) (List.mem_of_getElem? (i := 8) rfl) (List.mem_of_getElem? (i := 68) rfl) (List.mem_of_getElem? (i := 69) rfl) rfl (bh_ck_spec h14) hd_X5_search rfl ⟨by decide, by decide⟩ rfl (Nat.le_of_ble_eq_true rfl) dX9_findOrder_89) (fun v15 σ16 h17 => ?_)
      refine bj_iconst (v := 1) dX9_findOrder_92 (by decide) ?_
      exact bj_zret dX9_findOrder_93
    · refine bj_aload_nS dX9_findOrder_36 rfl 0 rfl ?_
      refine bj_getR (ci := 10) (k := 1) (C := RX9) (T := TX9) (N := 12) rfl hi_X9_findOrder_X9 (by decide) rfl fl_X9_findOrder_18 (Or.inl rfl) dX9_findOrder_37 (fun v18 h19 => ?_)
      refine bj_iload_n dX9_findOrder_40 rfl 1 rfl ?_
      refine bj_nn (fun a20 h21 => ?_)
      subst h21
      refine bj_op (fun _ h22 => ?_)
      refine bj_callR (br_V (As := [.int x1]) (rest := []) (q := (RJx4a65c, TJx4a65c, 3)) (c_Jx4a65c_get_915e3 X a20 x1 σ7) rfl g_X9_findOrder_Jx4a65c_get_915e3_172 rfl (bh_ck_spec h22) ⟨rfl, hd_Jx4a65c_get_915e3⟩ rfl ⟨by decide, by decide⟩ rfl (Nat.le_of_ble_eq_true rfl) dX9_findOrder_41) (fun v23 σ24 h25 => ?_)
      refine bj_cast (ci := 7) (C := RX6) (T := TX6) (N := 14) (o := v23) rfl (List.mem_of_getElem? (i := 5) rfl) dX9_findOrder_44 ?_
      refine bj_astore_n (lv' := [(2, va_rf v23), (0, .ref this), (1, .int x1)]) (o := v23) dX9_findOrder_47 rfl (by decide) rfl ?_
      refine bj_aload_n dX9_findOrder_48 rfl 0 rfl ?_
      refine bj_nn (fun a26 h27 => ?_)
      subst h27
      refine bj_getI (ci := 7) (k := 6) (C := RX6) (T := TX6) (N := 14) rfl hi_X9_findOrder_X6 (by decide) rfl fl_X9_findOrder_163 (Or.inl rfl) dX9_findOrder_49 (fun v28 h29 => ?_)
      refine bj_if_le (tgt := 79) dX9_findOrder_52 (by decide) (fun h30 => ?_) (fun h30 => ?_)
      · refine bj_sub (lv' := [(0, .ref this), (1, .int x1)]) [1, 2] rfl ?_
        exact j_X9_findOrder_b79 X N (f_X9_findOrder_b25 N n) ih this x1 σ24
      · refine bj_aload_nS dX9_findOrder_55 rfl 1 rfl ?_
        refine bj_getR (ci := 10) (k := 7) (C := RX9) (T := TX9) (N := 12) rfl hi_X9_findOrder_X9 (by decide) rfl fl_X9_findOrder_55 (Or.inl rfl) dX9_findOrder_56 (fun v31 h32 => ?_)
        refine bj_aload_nS dX9_findOrder_59 rfl 0 rfl ?_
        refine bj_aload_nS dX9_findOrder_60 rfl 1 rfl ?_
        refine bj_getR (ci := 10) (k := 6) (C := RX9) (T := TX9) (N := 12) rfl hi_X9_findOrder_X9 (by decide) rfl fl_X9_findOrder_48 (Or.inl rfl) dX9_findOrder_61 (fun v33 h34 => ?_)
        refine bj_nn (fun a35 h36 => ?_)
        subst h36
        refine bj_getI (ci := 5) (k := 0) (C := RX4) (T := TX4) (N := 5) rfl hi_X9_findOrder_X4 (by decide) rfl fl_X9_findOrder_152 (Or.inl rfl) dX9_findOrder_64 (fun v37 h38 => ?_)
        refine bj_aload_nS dX9_findOrder_67 rfl 1 rfl ?_
        refine bj_getR (ci := 10) (k := 4) (C := RX9) (T := TX9) (N := 12) rfl hi_X9_findOrder_X9 (by decide) rfl fl_X9_findOrder_34 (Or.inl rfl) dX9_findOrder_68 (fun v39 h40 => ?_)
        refine bj_nn (fun a41 h42 => ?_)
        subst h42
        refine bj_nn (fun a43 h44 => ?_)
        subst h44
        refine bj_op (fun _ h45 => ?_)
        refine bj_callI (br_VN (As := [.ref a26, .int v37, .ref a43]) (rest := []) (host := "BeetHouse") (q := (RX5, TX5, 7)) (c_X5_add X N a41 a26 v37 a43 σ24) rfl g_X9_findOrder_X5_add (List.mem_of_getElem? (i := 83) rfl) (List.mem_of_getElem? (i := 8) rfl) (List.mem_of_getElem? (i := 37) rfl) (List.mem_of_getElem? (i := 38) rfl) rfl (bh_ck_spec h45) hd_X5_add rfl ⟨by decide, by decide⟩ rfl (Nat.le_of_ble_eq_true rfl) dX9_findOrder_71) (fun v46 σ47 h48 => ?_)
        refine bj_if_ne (tgt := 79) dX9_findOrder_74 (by decide) (fun h49 => ?_) (fun h49 => ?_)
        · refine bj_sub (lv' := [(0, .ref this), (1, .int x1)]) [1, 2] rfl ?_
          exact j_X9_findOrder_b79 X N (f_X9_findOrder_b25 N n) ih this x1 σ47
        · refine bj_iconst (v := 0) dX9_findOrder_77 (by decide) ?_
          exact bj_zret dX9_findOrder_78
def f_X9_findOrder (N : Nat) (this : Nat) (σ : bh_S) : Option (Int32 × bh_S) :=
  (bh_rdR σ 10 this 7).bind fun v1 =>
  (bh_rdI σ 10 this 11).bind fun v3 =>
  (v1).bind fun a5 =>
  (bh_ck σ a5 6).bind fun _ =>
  bh_bnd (f_X5_clear a5 v3 σ) fun v8 σ9 =>
  (bh_rdR σ9 10 this 6).bind fun v11 =>
  (v11).bind fun a13 =>
  (bh_rdI σ9 5 a13 0).bind fun v15 =>
  if v15 = 0 then
    bh_retZ σ9 0
  else
    f_X9_findOrder_b25 N N this 0 σ9
set_option maxHeartbeats 4000000 in
set_option maxRecDepth 100000 in
theorem c_X9_findOrder (X : bh_X) (N : Nat) (this : Nat) (σ : bh_S) : bh_MX eI X yX9_findOrder wsX9_findOrder 4 88 [.ref this] σ (f_X9_findOrder N this σ) := by
  refine bh_enter (cc := cX9_findOrder) (NL := 3) (ret := (some .boolean)) (by decide) rfl (Nat.le_of_ble_eq_true rfl) (fun X => ?_)
  show bh_J eI yX9_findOrder cX9_findOrder wsX9_findOrder (some .boolean) 3 4 88 X σ 0 [(0, .ref this)] [] _
  unfold f_X9_findOrder
  refine bj_aload_nS dX9_findOrder_0 rfl 0 rfl ?_
  refine bj_getR (ci := 10) (k := 7) (C := RX9) (T := TX9) (N := 12) rfl hi_X9_findOrder_X9 (by decide) rfl fl_X9_findOrder_55 (Or.inl rfl) dX9_findOrder_1 (fun v1 h2 => ?_)
  refine bj_aload_nS dX9_findOrder_4 rfl 0 rfl ?_
  refine bj_getI (ci := 10) (k := 11) (C := RX9) (T := TX9) (N := 12) rfl hi_X9_findOrder_X9 (by decide) rfl fl_X9_findOrder_70 (Or.inl rfl) dX9_findOrder_5 (fun v3 h4 => ?_)
  refine bj_nn (fun a5 h6 => ?_)
  subst h6
  refine bj_op (fun _ h7 => ?_)
  refine bj_callU (br_VN (As := [.int v3]) (rest := []) (host := "BeetHouse") (q := (RX5, TX5, 7)) (c_X5_clear X a5 v3 σ) rfl g_X9_findOrder_X5_clear (List.mem_of_getElem? (i := 82) rfl) (List.mem_of_getElem? (i := 8) rfl) (List.mem_of_getElem? (i := 7) rfl) (List.mem_of_getElem? (i := 9) rfl) rfl (bh_ck_spec h7) hd_X5_clear rfl ⟨by decide, by decide⟩ rfl (Nat.le_of_ble_eq_true rfl) dX9_findOrder_8) (fun v8 σ9 h10 => ?_)
  refine bj_aload_nS dX9_findOrder_11 rfl 0 rfl ?_
  refine bj_getR (ci := 10) (k := 6) (C := RX9) (T := TX9) (N := 12) rfl hi_X9_findOrder_X9 (by decide) rfl fl_X9_findOrder_48 (Or.inl rfl) dX9_findOrder_12 (fun v11 h12 => ?_)
  refine bj_nn (fun a13 h14 => ?_)
  subst h14
  refine bj_getI (ci := 5) (k := 0) (C := RX4) (T := TX4) (N := 5) rfl hi_X9_findOrder_X4 (by decide) rfl fl_X9_findOrder_152 (Or.inl rfl) dX9_findOrder_15 (fun v15 h16 => ?_)
  refine bj_if_ne (tgt := 23) dX9_findOrder_18 (by decide) (fun h17 => ?_) (fun h17 => ?_)
  · refine bj_iconst (v := 0) dX9_findOrder_23 (by decide) ?_
    refine bj_istore_n (lv' := [(1, .int 0), (0, .ref this)]) dX9_findOrder_24 rfl (by decide) rfl ?_
    refine bj_sub (lv' := [(0, .ref this), (1, .int 0)]) [1, 0] rfl ?_
    exact j_X9_findOrder_b25 X N N this 0 σ9
  · refine bj_iconst (v := 0) dX9_findOrder_21 (by decide) ?_
    exact bj_zret dX9_findOrder_22
/-! BeetHouse.best()I -/
set_option maxRecDepth 100000 in
theorem g_X9_best_X9_findOrder_198 : GoodIn wsX9_best (wsV yX9_best.cls 198 RX9 yX9_findOrder wsX9_findOrder) := goodIn_r _ [2, 3, 4, 5, 6, 1, 7, 8, 9, 10, 11, 12, 13, 14, 15, 16, 17, 18, 19, 20, 21, 22, 23, 24, 25, 26, 27, 28, 29, 30, 31, 32, 33, 34, 35, 36, 37, 38, 39, 40, 41, 42, 43, 44, 45, 46, 47, 48, 49, 50, 51, 52, 53, 54, 55, 56, 57, 58, 59, 60, 61, 62, 63, 64, 65, 66, 67, 68, 69, 70, 71, 72, 73, 74, 75, 76, 77, 78, 79, 80, 81, 82, 83, 84, 85, 86, 87, 96, 97, 98, 99, 100, 101, 102, 103, 104, 105, 106, 107, 108, 109, 110, 111, 112, 113, 114, 115, 116, 117, 118, 119, 120, 121, 122, 123, 124, 125, 126, 127, 128, 129, 130, 131, 132, 133, 134, 135, 136, 137, 138] rfl (by decide +kernel)
theorem hi_X9_best_X9 : ∀ w ∈ u_ws RX9 TX9 12, w ∈ wsX9_best := fun _ h => (List.mem_cons_of_mem _ (List.mem_append_left _ (List.mem_append_left _ (List.mem_append_left _ (List.mem_append_left _ (List.mem_append_left _ (List.mem_append_right _ h)))))))
set_option maxRecDepth 100000 in
theorem fl_X9_best_55 : bh_fl wsX9_best yX9_best.cls 55 "BeetHouse" "orders" "LBeetHouse$Orders;" := Or.inl (List.mem_of_getElem? (i := 1) rfl)
set_option maxRecDepth 100000 in
theorem g_X9_best_X5_leastWaste : GoodIn wsX9_best wsX5_leastWaste := goodIn_r _ [95, 76, 127, 128, 129, 130, 131, 132, 133] rfl (by decide +kernel)
set_option maxRecDepth 100000 in
theorem g_X9_best_X9_refuse_82 : GoodIn wsX9_best (wsV yX9_best.cls 82 RX9 yX9_refuse wsX9_refuse) := goodIn_r _ [88, 89, 90, 5, 91, 92, 96, 97, 98, 99, 100, 101, 102, 103, 104, 105, 106, 107] rfl (by decide +kernel)
def f_X9_best (N : Nat) (this : Nat) (σ : bh_S) : Option (Int32 × bh_S) :=
  (bh_ck σ this 10).bind fun _ =>
  bh_bnd (f_X9_findOrder N this σ) fun v2 σ3 =>
  if v2 = 0 then
    (bh_ck σ3 this 10).bind fun _ =>
    bh_bnd (f_X9_refuse this (-3) σ3) fun v15 σ16 =>
    some (v15, σ16)
  else
    (bh_rdR σ3 10 this 7).bind fun v6 =>
    (v6).bind fun a8 =>
    (bh_ck σ3 a8 6).bind fun _ =>
    bh_bnd (f_X5_leastWaste a8 σ3) fun v11 σ12 =>
    some (v11, σ12)
set_option maxHeartbeats 4000000 in
set_option maxRecDepth 100000 in
theorem c_X9_best (X : bh_X) (N : Nat) (this : Nat) (σ : bh_S) : bh_MX eI X yX9_best wsX9_best 5 110 [.ref this] σ (f_X9_best N this σ) := by
  refine bh_enter (cc := cX9_best) (NL := 1) (ret := (some .int)) (by decide) rfl (Nat.le_of_ble_eq_true rfl) (fun X => ?_)
  show bh_J eI yX9_best cX9_best wsX9_best (some .int) 1 5 110 X σ 0 [(0, .ref this)] [] _
  unfold f_X9_best
  refine bj_aload_nS dX9_best_0 rfl 0 rfl ?_
  refine bj_op (fun _ h1 => ?_)
  refine bj_callI (br_V (As := []) (rest := []) (q := (RX9, TX9, 12)) (c_X9_findOrder X N this σ) rfl g_X9_best_X9_findOrder_198 rfl (bh_ck_spec h1) ⟨rfl, hd_X9_findOrder⟩ rfl ⟨by decide, by decide⟩ rfl (Nat.le_of_ble_eq_true rfl) dX9_best_1) (fun v2 σ3 h4 => ?_)
  refine bj_if_ne (tgt := 14) dX9_best_4 (by decide) (fun h5 => ?_) (fun h5 => ?_)
  · refine bj_aload_nS dX9_best_14 rfl 0 rfl ?_
    refine bj_getR (ci := 10) (k := 7) (C := RX9) (T := TX9) (N := 12) rfl hi_X9_best_X9 (by decide) rfl fl_X9_best_55 (Or.inl rfl) dX9_best_15 (fun v6 h7 => ?_)
    refine bj_nn (fun a8 h9 => ?_)
    subst h9
    refine bj_op (fun _ h10 => ?_)
    refine bj_callI (br_VN (As := []) (rest := []) (host := "BeetHouse") (q := (RX5, TX5, 7)) (c_X5_leastWaste X a8 σ3) rfl g_X9_best_X5_leastWaste (List.mem_of_getElem? (i := 88) rfl) (List.mem_of_getElem? (i := 13) rfl) (List.mem_of_getElem? (i := 93) rfl) (List.mem_of_getElem? (i := 94) rfl) rfl (bh_ck_spec h10) hd_X5_leastWaste rfl ⟨by decide, by decide⟩ rfl (Nat.le_of_ble_eq_true rfl) dX9_best_18) (fun v11 σ12 h13 => ?_)
    exact bj_iret dX9_best_21
  · refine bj_aload_nS dX9_best_7 rfl 0 rfl ?_
    refine bj_bipush (v := (-3)) dX9_best_8 (by decide) ?_
    refine bj_op (fun _ h14 => ?_)
    refine bj_callI (br_V (As := [.int (-3)]) (rest := []) (q := (RX9, TX9, 12)) (c_X9_refuse X this (-3) σ3) rfl g_X9_best_X9_refuse_82 rfl (bh_ck_spec h14) ⟨rfl, hd_X9_refuse⟩ rfl ⟨by decide, by decide⟩ rfl (Nat.le_of_ble_eq_true rfl) dX9_best_10) (fun v15 σ16 h17 => ?_)
    exact bj_iret dX9_best_13
/-! BeetHouse.order(I)I -/
set_option maxRecDepth 100000 in
theorem g_X9_order_X9_findOrder_198 : GoodIn wsX9_order (wsV yX9_order.cls 198 RX9 yX9_findOrder wsX9_findOrder) := goodIn_r _ [2, 3, 4, 5, 6, 1, 7, 8, 9, 10, 11, 12, 13, 14, 15, 16, 17, 18, 19, 20, 21, 22, 23, 24, 25, 26, 27, 28, 29, 30, 31, 32, 33, 34, 35, 36, 37, 38, 39, 40, 41, 42, 43, 44, 45, 46, 47, 48, 49, 50, 51, 52, 53, 54, 55, 56, 57, 58, 59, 60, 61, 62, 63, 64, 65, 66, 67, 68, 69, 70, 71, 72, 73, 74, 75, 76, 77, 78, 79, 80, 81, 82, 83, 84, 85, 86, 87, 96, 97, 98, 99, 100, 101, 102, 103, 104, 105, 106, 107, 108, 109, 110, 111, 112, 113, 114, 115, 116, 117, 118, 119, 120, 121, 122, 123, 124, 125, 126, 127, 128, 129, 130, 131, 132, 133, 134, 135, 136, 137, 138] rfl (by decide +kernel)
theorem hi_X9_order_X9 : ∀ w ∈ u_ws RX9 TX9 12, w ∈ wsX9_order := fun _ h => (List.mem_cons_of_mem _ (List.mem_append_left _ (List.mem_append_left _ (List.mem_append_left _ (List.mem_append_left _ (List.mem_append_left _ (List.mem_append_right _ h)))))))
set_option maxRecDepth 100000 in
theorem fl_X9_order_55 : bh_fl wsX9_order yX9_order.cls 55 "BeetHouse" "orders" "LBeetHouse$Orders;" := Or.inl (List.mem_of_getElem? (i := 1) rfl)
set_option maxRecDepth 100000 in
theorem g_X9_order_X5_plotAtPlace : GoodIn wsX9_order wsX5_plotAtPlace := goodIn_r _ [95, 16, 82, 45, 127, 128, 129, 130, 131, 132, 133] rfl (by decide +kernel)
set_option maxRecDepth 100000 in
theorem g_X9_order_X9_refuse_82 : GoodIn wsX9_order (wsV yX9_order.cls 82 RX9 yX9_refuse wsX9_refuse) := goodIn_r _ [88, 89, 90, 5, 91, 92, 96, 97, 98, 99, 100, 101, 102, 103, 104, 105, 106, 107] rfl (by decide +kernel)
def f_X9_order (N : Nat) (this : Nat) (p1 : Int32) (σ : bh_S) : Option (Int32 × bh_S) :=
  (bh_ck σ this 10).bind fun _ =>
  bh_bnd (f_X9_findOrder N this σ) fun v2 σ3 =>
  if v2 = 0 then
    (bh_ck σ3 this 10).bind fun _ =>
    bh_bnd (f_X9_refuse this (-3) σ3) fun v15 σ16 =>
    some (v15, σ16)
  else
    (bh_rdR σ3 10 this 7).bind fun v6 =>
    (v6).bind fun a8 =>
    (bh_ck σ3 a8 6).bind fun _ =>
    bh_bnd (f_X5_plotAtPlace N a8 p1 σ3) fun v11 σ12 =>
    some (v11, σ12)
set_option maxHeartbeats 4000000 in
set_option maxRecDepth 100000 in
theorem c_X9_order (X : bh_X) (N : Nat) (this : Nat) (p1 : Int32) (σ : bh_S) : bh_MX eI X yX9_order wsX9_order 5 110 [.ref this, .int p1] σ (f_X9_order N this p1 σ) := by
  refine bh_enter (cc := cX9_order) (NL := 2) (ret := (some .int)) (by decide) rfl (Nat.le_of_ble_eq_true rfl) (fun X => ?_)
  show bh_J eI yX9_order cX9_order wsX9_order (some .int) 2 5 110 X σ 0 [(0, .ref this), (1, .int p1)] [] _
  unfold f_X9_order
  refine bj_aload_nS dX9_order_0 rfl 0 rfl ?_
  refine bj_op (fun _ h1 => ?_)
  refine bj_callI (br_V (As := []) (rest := []) (q := (RX9, TX9, 12)) (c_X9_findOrder X N this σ) rfl g_X9_order_X9_findOrder_198 rfl (bh_ck_spec h1) ⟨rfl, hd_X9_findOrder⟩ rfl ⟨by decide, by decide⟩ rfl (Nat.le_of_ble_eq_true rfl) dX9_order_1) (fun v2 σ3 h4 => ?_)
  refine bj_if_ne (tgt := 14) dX9_order_4 (by decide) (fun h5 => ?_) (fun h5 => ?_)
  · refine bj_aload_nS dX9_order_14 rfl 0 rfl ?_
    refine bj_getR (ci := 10) (k := 7) (C := RX9) (T := TX9) (N := 12) rfl hi_X9_order_X9 (by decide) rfl fl_X9_order_55 (Or.inl rfl) dX9_order_15 (fun v6 h7 => ?_)
    refine bj_iload_n dX9_order_18 rfl 1 rfl ?_
    refine bj_nn (fun a8 h9 => ?_)
    subst h9
    refine bj_op (fun _ h10 => ?_)
    refine bj_callI (br_VN (As := [.int p1]) (rest := []) (host := "BeetHouse") (q := (RX5, TX5, 7)) (c_X5_plotAtPlace X N a8 p1 σ3) rfl g_X9_order_X5_plotAtPlace (List.mem_of_getElem? (i := 89) rfl) (List.mem_of_getElem? (i := 13) rfl) (List.mem_of_getElem? (i := 93) rfl) (List.mem_of_getElem? (i := 94) rfl) rfl (bh_ck_spec h10) hd_X5_plotAtPlace rfl ⟨by decide, by decide⟩ rfl (Nat.le_of_ble_eq_true rfl) dX9_order_19) (fun v11 σ12 h13 => ?_)
    exact bj_iret dX9_order_22
  · refine bj_aload_nS dX9_order_7 rfl 0 rfl ?_
    refine bj_bipush (v := (-3)) dX9_order_8 (by decide) ?_
    refine bj_op (fun _ h14 => ?_)
    refine bj_callI (br_V (As := [.int (-3)]) (rest := []) (q := (RX9, TX9, 12)) (c_X9_refuse X this (-3) σ3) rfl g_X9_order_X9_refuse_82 rfl (bh_ck_spec h14) ⟨rfl, hd_X9_refuse⟩ rfl ⟨by decide, by decide⟩ rfl (Nat.le_of_ble_eq_true rfl) dX9_order_10) (fun v15 σ16 h17 => ?_)
    exact bj_iret dX9_order_13
/-! BeetHouse.lorriesOutTo(LBeetHouse$Plot;)I -/
theorem hi_X9_lorriesOutTo_X9 : ∀ w ∈ u_ws RX9 TX9 12, w ∈ wsX9_lorriesOutTo := fun _ h => (List.mem_cons_of_mem _ (List.mem_append_left _ (List.mem_append_left _ (List.mem_append_right _ h))))
set_option maxRecDepth 100000 in
theorem fl_X9_lorriesOutTo_28 : bh_fl wsX9_lorriesOutTo yX9_lorriesOutTo.cls 28 "BeetHouse" "lorries" "Ljava/util/ArrayList;" := Or.inl (List.mem_of_getElem? (i := 1) rfl)
set_option maxRecDepth 100000 in
theorem g_X9_lorriesOutTo_Jx4a65c_size_8abf5_93 : GoodIn wsX9_lorriesOutTo (wsV yX9_lorriesOutTo.cls 93 RJx4a65c yJx4a65c_size_8abf5 wsJx4a65c_size_8abf5) := goodIn_r _ [3, 4, 5, 6, 7, 8, 44, 45, 46] rfl (by decide +kernel)
set_option maxRecDepth 100000 in
theorem g_X9_lorriesOutTo_Jx4a65c_get_915e3_172 : GoodIn wsX9_lorriesOutTo (wsV yX9_lorriesOutTo.cls 172 RJx4a65c yJx4a65c_get_915e3 wsJx4a65c_get_915e3) := goodIn_r _ [9, 10, 11, 6, 12, 8, 13, 14, 15, 16, 17, 18, 19, 20, 21, 22, 23, 6, 24, 25, 44, 45, 46] rfl (by decide +kernel)
set_option maxRecDepth 100000 in
theorem g_X9_lorriesOutTo_X3_isOutTo : GoodIn wsX9_lorriesOutTo wsX3_isOutTo := goodIn_r _ [29, 30, 31, 47, 48, 49, 50, 51, 52, 53, 54] rfl (by decide +kernel)
def f_X9_lorriesOutTo_b36 (N : Nat) (k4 : Nat → Nat → Int32 → Int32 → bh_S → Option (Int32 × bh_S)) (this : Nat) (x1 : Nat) (x2 : Int32) (x3 : Int32) (σ : bh_S) : Option (Int32 × bh_S) :=
  k4 this x1 x2 (x3 + 1) σ
set_option maxHeartbeats 4000000 in
set_option maxRecDepth 100000 in
theorem j_X9_lorriesOutTo_b36 (X : bh_X) (N : Nat) (k4 : Nat → Nat → Int32 → Int32 → bh_S → Option (Int32 × bh_S)) (hk4 : ∀ (this : Nat) (x1 : Nat) (x2 : Int32) (x3 : Int32) (σ : bh_S), bh_J eI yX9_lorriesOutTo cX9_lorriesOutTo wsX9_lorriesOutTo (some .int) 4 3 64 X σ 4 [(0, .ref this), (1, .ref x1), (2, .int x2), (3, .int x3)] [] (k4 this x1 x2 x3 σ)) (this : Nat) (x1 : Nat) (x2 : Int32) (x3 : Int32) (σ : bh_S) : bh_J eI yX9_lorriesOutTo cX9_lorriesOutTo wsX9_lorriesOutTo (some .int) 4 3 64 X σ 36 [(0, .ref this), (1, .ref x1), (2, .int x2), (3, .int x3)] [] (f_X9_lorriesOutTo_b36 N k4 this x1 x2 x3 σ) := by
  unfold f_X9_lorriesOutTo_b36
  refine bj_iinc (v := x3 + 1) (lv' := [(3, .int (x3 + 1)), (0, .ref this), (1, .ref x1), (2, .int x2)]) dX9_lorriesOutTo_36 3 rfl rfl (by decide) rfl ?_
  refine bj_goto (tgt := 4) dX9_lorriesOutTo_39 (by decide) ?_
  refine bj_sub (lv' := [(0, .ref this), (1, .ref x1), (2, .int x2), (3, .int (x3 + 1))]) [1, 2, 3, 0] rfl ?_
  exact hk4 this x1 x2 (x3 + 1) σ
def f_X9_lorriesOutTo_b4 (N : Nat) : Nat → Nat → Nat → Int32 → Int32 → bh_S → Option (Int32 × bh_S)
  | 0, _, _, _, _, _ => none
  | n + 1, this, x1, x2, x3, σ =>
    (bh_rdR σ 10 this 3).bind fun v1 =>
    (v1).bind fun a3 =>
    (bh_ck σ a3 0).bind fun _ =>
    bh_bnd (f_Jx4a65c_size_8abf5 a3 σ) fun v6 σ7 =>
    if v6 ≤ x3 then
      some (x2, σ7)
    else
      (bh_rdR σ7 10 this 3).bind fun v10 =>
      (v10).bind fun a12 =>
      (bh_ck σ7 a12 0).bind fun _ =>
      bh_bnd (f_Jx4a65c_get_915e3 a12 x3 σ7) fun v15 σ16 =>
      (bh_cst σ16 4 v15).bind fun _ =>
      (v15).bind fun a18 =>
      (bh_ck σ16 a18 4).bind fun _ =>
      bh_bnd (f_X3_isOutTo a18 x1 σ16) fun v21 σ22 =>
      if v21 = 0 then
        f_X9_lorriesOutTo_b36 N (f_X9_lorriesOutTo_b4 N n) this x1 x2 x3 σ22
      else
        f_X9_lorriesOutTo_b36 N (f_X9_lorriesOutTo_b4 N n) this x1 (x2 + 1) x3 σ22
set_option maxHeartbeats 4000000 in
set_option maxRecDepth 100000 in
theorem j_X9_lorriesOutTo_b4 (X : bh_X) (N : Nat) : ∀ (n : Nat) (this : Nat) (x1 : Nat) (x2 : Int32) (x3 : Int32) (σ : bh_S), bh_J eI yX9_lorriesOutTo cX9_lorriesOutTo wsX9_lorriesOutTo (some .int) 4 3 64 X σ 4 [(0, .ref this), (1, .ref x1), (2, .int x2), (3, .int x3)] [] (f_X9_lorriesOutTo_b4 N n this x1 x2 x3 σ) := by
  intro n
  induction n with
  | zero => intro this x1 x2 x3 σ; exact bj_none
  | succ n ih =>
    intro this x1 x2 x3 σ
    unfold f_X9_lorriesOutTo_b4
    refine bj_iload_n dX9_lorriesOutTo_4 rfl 3 rfl ?_
    refine bj_aload_nS dX9_lorriesOutTo_5 rfl 0 rfl ?_
    refine bj_getR (ci := 10) (k := 3) (C := RX9) (T := TX9) (N := 12) rfl hi_X9_lorriesOutTo_X9 (by decide) rfl fl_X9_lorriesOutTo_28 (Or.inl rfl) dX9_lorriesOutTo_6 (fun v1 h2 => ?_)
    refine bj_nn (fun a3 h4 => ?_)
    subst h4
    refine bj_op (fun _ h5 => ?_)
    refine bj_callI (br_V (As := []) (rest := [.int x3]) (q := (RJx4a65c, TJx4a65c, 3)) (c_Jx4a65c_size_8abf5 X a3 σ) rfl g_X9_lorriesOutTo_Jx4a65c_size_8abf5_93 rfl (bh_ck_spec h5) ⟨rfl, hd_Jx4a65c_size_8abf5⟩ rfl ⟨by decide, by decide⟩ rfl (Nat.le_of_ble_eq_true rfl) dX9_lorriesOutTo_9) (fun v6 σ7 h8 => ?_)
    refine bj_icmp_ge (tgt := 42) dX9_lorriesOutTo_12 (by decide) (fun h9 => ?_) (fun h9 => ?_)
    · refine bj_iload_n dX9_lorriesOutTo_42 rfl 2 rfl ?_
      exact bj_iret dX9_lorriesOutTo_43
    · refine bj_aload_nS dX9_lorriesOutTo_15 rfl 0 rfl ?_
      refine bj_getR (ci := 10) (k := 3) (C := RX9) (T := TX9) (N := 12) rfl hi_X9_lorriesOutTo_X9 (by decide) rfl fl_X9_lorriesOutTo_28 (Or.inl rfl) dX9_lorriesOutTo_16 (fun v10 h11 => ?_)
      refine bj_iload_n dX9_lorriesOutTo_19 rfl 3 rfl ?_
      refine bj_nn (fun a12 h13 => ?_)
      subst h13
      refine bj_op (fun _ h14 => ?_)
      refine bj_callR (br_V (As := [.int x3]) (rest := []) (q := (RJx4a65c, TJx4a65c, 3)) (c_Jx4a65c_get_915e3 X a12 x3 σ7) rfl g_X9_lorriesOutTo_Jx4a65c_get_915e3_172 rfl (bh_ck_spec h14) ⟨rfl, hd_Jx4a65c_get_915e3⟩ rfl ⟨by decide, by decide⟩ rfl (Nat.le_of_ble_eq_true rfl) dX9_lorriesOutTo_20) (fun v15 σ16 h17 => ?_)
      refine bj_cast (ci := 4) (C := RX3) (T := TX3) (N := 8) (o := v15) rfl (List.mem_of_getElem? (i := 2) rfl) dX9_lorriesOutTo_23 ?_
      refine bj_aload_nS dX9_lorriesOutTo_26 rfl 1 rfl ?_
      refine bj_nn (fun a18 h19 => ?_)
      subst h19
      refine bj_op (fun _ h20 => ?_)
      refine bj_callI (br_VN (As := [.ref x1]) (rest := []) (host := "BeetHouse") (q := (RX3, TX3, 8)) (c_X3_isOutTo X a18 x1 σ16) rfl g_X9_lorriesOutTo_X3_isOutTo (List.mem_of_getElem? (i := 62) rfl) (List.mem_of_getElem? (i := 27) rfl) (List.mem_of_getElem? (i := 26) rfl) (List.mem_of_getElem? (i := 28) rfl) rfl (bh_ck_spec h20) hd_X3_isOutTo rfl ⟨by decide, by decide⟩ rfl (Nat.le_of_ble_eq_true rfl) dX9_lorriesOutTo_27) (fun v21 σ22 h23 => ?_)
      refine bj_if_eq (tgt := 36) dX9_lorriesOutTo_30 (by decide) (fun h24 => ?_) (fun h24 => ?_)
      · refine bj_sub (lv' := [(0, .ref this), (1, .ref x1), (2, .int x2), (3, .int x3)]) [0, 1, 2, 3] rfl ?_
        exact j_X9_lorriesOutTo_b36 X N (f_X9_lorriesOutTo_b4 N n) ih this x1 x2 x3 σ22
      · refine bj_iinc (v := x2 + 1) (lv' := [(2, .int (x2 + 1)), (0, .ref this), (1, .ref x1), (3, .int x3)]) dX9_lorriesOutTo_33 2 rfl rfl (by decide) rfl ?_
        refine bj_sub (lv' := [(0, .ref this), (1, .ref x1), (2, .int (x2 + 1)), (3, .int x3)]) [1, 2, 0, 3] rfl ?_
        exact j_X9_lorriesOutTo_b36 X N (f_X9_lorriesOutTo_b4 N n) ih this x1 (x2 + 1) x3 σ22
def f_X9_lorriesOutTo (N : Nat) (this : Nat) (p1 : Nat) (σ : bh_S) : Option (Int32 × bh_S) :=
  f_X9_lorriesOutTo_b4 N N this p1 0 0 σ
set_option maxHeartbeats 4000000 in
set_option maxRecDepth 100000 in
theorem c_X9_lorriesOutTo (X : bh_X) (N : Nat) (this : Nat) (p1 : Nat) (σ : bh_S) : bh_MX eI X yX9_lorriesOutTo wsX9_lorriesOutTo 3 64 [.ref this, .ref p1] σ (f_X9_lorriesOutTo N this p1 σ) := by
  refine bh_enter (cc := cX9_lorriesOutTo) (NL := 4) (ret := (some .int)) (by decide) rfl (Nat.le_of_ble_eq_true rfl) (fun X => ?_)
  show bh_J eI yX9_lorriesOutTo cX9_lorriesOutTo wsX9_lorriesOutTo (some .int) 4 3 64 X σ 0 [(0, .ref this), (1, .ref p1)] [] _
  unfold f_X9_lorriesOutTo
  refine bj_iconst (v := 0) dX9_lorriesOutTo_0 (by decide) ?_
  refine bj_istore_n (lv' := [(2, .int 0), (0, .ref this), (1, .ref p1)]) dX9_lorriesOutTo_1 rfl (by decide) rfl ?_
  refine bj_iconst (v := 0) dX9_lorriesOutTo_2 (by decide) ?_
  refine bj_istore_n (lv' := [(3, .int 0), (2, .int 0), (0, .ref this), (1, .ref p1)]) dX9_lorriesOutTo_3 rfl (by decide) rfl ?_
  refine bj_sub (lv' := [(0, .ref this), (1, .ref p1), (2, .int 0), (3, .int 0)]) [2, 3, 1, 0] rfl ?_
  exact j_X9_lorriesOutTo_b4 X N N this p1 0 0 σ
/-! BeetHouse.fieldOf(II)I -/
set_option maxRecDepth 100000 in
theorem g_X9_fieldOf_X9_plotAt_106 : GoodIn wsX9_fieldOf (wsV yX9_fieldOf.cls 106 RX9 yX9_plotAt wsX9_plotAt) := goodIn_r _ [1, 2, 3, 4, 5, 6, 7, 8, 9, 10, 11, 12, 13, 14, 15, 16, 17, 18, 19, 20, 21, 22, 23, 24, 25, 26, 27, 28, 29, 30, 66, 67, 68, 69, 70, 71, 72, 73, 74, 75, 76, 77, 78, 79, 80] rfl (by decide +kernel)
set_option maxRecDepth 100000 in
theorem g_X9_fieldOf_X9_refuse_82 : GoodIn wsX9_fieldOf (wsV yX9_fieldOf.cls 82 RX9 yX9_refuse wsX9_refuse) := goodIn_r _ [31, 32, 33, 4, 34, 35, 66, 67, 68, 69, 70, 71, 72, 73, 74, 75, 76, 77] rfl (by decide +kernel)
theorem hi_X9_fieldOf_X6 : ∀ w ∈ u_ws RX6 TX6 14, w ∈ wsX9_fieldOf := fun _ h => (List.mem_cons_of_mem _ (List.mem_append_left _ (List.mem_append_left _ (List.mem_append_left _ (List.mem_append_left _ (List.mem_append_right _ h))))))
set_option maxRecDepth 100000 in
theorem fl_X9_fieldOf_207 : bh_fl wsX9_fieldOf yX9_fieldOf.cls 207 "BeetHouse$Plot" "ground" "I" := Or.inr ⟨"BeetHouse", List.mem_of_getElem? (i := 24) rfl⟩
set_option maxRecDepth 100000 in
theorem fl_X9_fieldOf_163 : bh_fl wsX9_fieldOf yX9_fieldOf.cls 163 "BeetHouse$Plot" "roots" "I" := Or.inr ⟨"BeetHouse", List.mem_of_getElem? (i := 27) rfl⟩
set_option maxRecDepth 100000 in
theorem fl_X9_fieldOf_210 : bh_fl wsX9_fieldOf yX9_fieldOf.cls 210 "BeetHouse$Plot" "sugar" "I" := Or.inr ⟨"BeetHouse", List.mem_of_getElem? (i := 29) rfl⟩
set_option maxRecDepth 100000 in
theorem fl_X9_fieldOf_169 : bh_fl wsX9_fieldOf yX9_fieldOf.cls 169 "BeetHouse$Plot" "covered" "Z" := Or.inr ⟨"BeetHouse", List.mem_of_getElem? (i := 30) rfl⟩
set_option maxRecDepth 100000 in
theorem fl_X9_fieldOf_166 : bh_fl wsX9_fieldOf yX9_fieldOf.cls 166 "BeetHouse$Plot" "frozen" "Z" := Or.inr ⟨"BeetHouse", List.mem_of_getElem? (i := 31) rfl⟩
set_option maxRecDepth 100000 in
theorem fl_X9_fieldOf_213 : bh_fl wsX9_fieldOf yX9_fieldOf.cls 213 "BeetHouse$Plot" "thawedSince" "I" := Or.inr ⟨"BeetHouse", List.mem_of_getElem? (i := 32) rfl⟩
set_option maxRecDepth 100000 in
theorem fl_X9_fieldOf_216 : bh_fl wsX9_fieldOf yX9_fieldOf.cls 216 "BeetHouse$Plot" "wasted" "I" := Or.inr ⟨"BeetHouse", List.mem_of_getElem? (i := 33) rfl⟩
set_option maxRecDepth 100000 in
theorem fl_X9_fieldOf_219 : bh_fl wsX9_fieldOf yX9_fieldOf.cls 219 "BeetHouse$Plot" "spoiled" "I" := Or.inr ⟨"BeetHouse", List.mem_of_getElem? (i := 34) rfl⟩
set_option maxRecDepth 100000 in
theorem fl_X9_fieldOf_222 : bh_fl wsX9_fieldOf yX9_fieldOf.cls 222 "BeetHouse$Plot" "came" "I" := Or.inr ⟨"BeetHouse", List.mem_of_getElem? (i := 36) rfl⟩
set_option maxRecDepth 100000 in
theorem fl_X9_fieldOf_223 : bh_fl wsX9_fieldOf yX9_fieldOf.cls 223 "BeetHouse$Plot" "farmer" "LBeetHouse$Farmer;" := Or.inr ⟨"BeetHouse", List.mem_of_getElem? (i := 22) rfl⟩
theorem hi_X9_fieldOf_X0 : ∀ w ∈ u_ws RX0 TX0 4, w ∈ wsX9_fieldOf := fun _ h => (List.mem_cons_of_mem _ (List.mem_append_left _ (List.mem_append_left _ (List.mem_append_left _ (List.mem_append_right _ h)))))
set_option maxRecDepth 100000 in
theorem fl_X9_fieldOf_197 : bh_fl wsX9_fieldOf yX9_fieldOf.cls 197 "BeetHouse$Farmer" "number" "I" := Or.inr ⟨"BeetHouse", List.mem_of_getElem? (i := 13) rfl⟩
set_option maxRecDepth 100000 in
theorem g_X9_fieldOf_X9_lorriesOutTo_227 : GoodIn wsX9_fieldOf (wsV yX9_fieldOf.cls 227 RX9 yX9_lorriesOutTo wsX9_lorriesOutTo) := goodIn_r _ [36, 37, 38, 4, 39, 40, 41, 8, 9, 10, 11, 12, 13, 14, 15, 16, 17, 18, 19, 20, 21, 22, 23, 24, 25, 26, 27, 28, 29, 30, 42, 43, 44, 45, 46, 47, 66, 67, 68, 69, 70, 71, 72, 73, 74, 75, 76, 77, 78, 79, 80, 81, 82, 83, 84, 85, 86, 87, 88] rfl (by decide +kernel)
def f_X9_fieldOf (N : Nat) (this : Nat) (p1 : Int32) (p2 : Int32) (σ : bh_S) : Option (Int32 × bh_S) :=
  (bh_ck σ this 10).bind fun _ =>
  bh_bnd (f_X9_plotAt this p1 σ) fun v2 σ3 =>
  bh_cs v2 (
    (bh_ck σ3 this 10).bind fun _ =>
    bh_bnd (f_X9_refuse this (-1) σ3) fun v8 σ9 =>
    some (v8, σ9)
  ) (fun a5 =>
    if p2 = 0 then
      (bh_rdI σ3 7 a5 5).bind fun v12 =>
      some (v12, σ3)
    else
    if p2 = 1 then
      (bh_rdI σ3 7 a5 6).bind fun v15 =>
      some (v15, σ3)
    else
    if p2 = 2 then
      (bh_rdI σ3 7 a5 7).bind fun v18 =>
      some (v18, σ3)
    else
    if p2 = 3 then
      (bh_rdI σ3 7 a5 8).bind fun v21 =>
      if v21 = 0 then
        some (0, σ3)
      else
        some (1, σ3)
    else
    if p2 = 4 then
      (bh_rdI σ3 7 a5 9).bind fun v25 =>
      if v25 = 0 then
        some (0, σ3)
      else
        some (1, σ3)
    else
    if p2 = 5 then
      (bh_rdI σ3 7 a5 10).bind fun v29 =>
      some (v29, σ3)
    else
    if p2 = 6 then
      (bh_rdI σ3 7 a5 11).bind fun v32 =>
      some (v32, σ3)
    else
    if p2 = 7 then
      (bh_rdI σ3 7 a5 12).bind fun v35 =>
      some (v35, σ3)
    else
    if p2 = 8 then
      (bh_rdI σ3 7 a5 13).bind fun v38 =>
      some (v38, σ3)
    else
    if p2 = 9 then
      (bh_rdR σ3 7 a5 1).bind fun v41 =>
      (v41).bind fun a43 =>
      (bh_rdI σ3 1 a43 0).bind fun v45 =>
      some (v45, σ3)
    else
    if p2 = 10 then
      (bh_ck σ3 this 10).bind fun _ =>
      bh_bnd (f_X9_lorriesOutTo N this a5 σ3) fun v49 σ50 =>
      some (v49, σ50)
    else
      (bh_ck σ3 this 10).bind fun _ =>
      bh_bnd (f_X9_refuse this (-2) σ3) fun v53 σ54 =>
      some (v53, σ54)
  )
set_option maxHeartbeats 4000000 in
set_option maxRecDepth 100000 in
theorem c_X9_fieldOf (X : bh_X) (N : Nat) (this : Nat) (p1 : Int32) (p2 : Int32) (σ : bh_S) : bh_MX eI X yX9_fieldOf wsX9_fieldOf 4 87 [.ref this, .int p1, .int p2] σ (f_X9_fieldOf N this p1 p2 σ) := by
  refine bh_enter (cc := cX9_fieldOf) (NL := 4) (ret := (some .int)) (by decide) rfl (Nat.le_of_ble_eq_true rfl) (fun X => ?_)
  show bh_J eI yX9_fieldOf cX9_fieldOf wsX9_fieldOf (some .int) 4 4 87 X σ 0 [(0, .ref this), (1, .int p1), (2, .int p2)] [] _
  unfold f_X9_fieldOf
  refine bj_aload_nS dX9_fieldOf_0 rfl 0 rfl ?_
  refine bj_iload_n dX9_fieldOf_1 rfl 1 rfl ?_
  refine bj_op (fun _ h1 => ?_)
  refine bj_callR (br_V (As := [.int p1]) (rest := []) (q := (RX9, TX9, 12)) (c_X9_plotAt X this p1 σ) rfl g_X9_fieldOf_X9_plotAt_106 rfl (bh_ck_spec h1) ⟨rfl, hd_X9_plotAt⟩ rfl ⟨by decide, by decide⟩ rfl (Nat.le_of_ble_eq_true rfl) dX9_fieldOf_2) (fun v2 σ3 h4 => ?_)
  refine bj_astore_n (lv' := [(3, va_rf v2), (0, .ref this), (1, .int p1), (2, .int p2)]) (o := v2) dX9_fieldOf_5 rfl (by decide) rfl ?_
  refine bj_aload_n dX9_fieldOf_6 rfl 0 rfl ?_
  refine bj_ifnonnull (o := v2) (tgt := 16) dX9_fieldOf_7 (by decide) (fun h6 => ?_) (fun a5 h6 => ?_)
  · subst h6
    refine bj_aload_nS dX9_fieldOf_10 rfl 1 rfl ?_
    refine bj_iconst (v := (-1)) dX9_fieldOf_11 (by decide) ?_
    refine bj_op (fun _ h7 => ?_)
    refine bj_callI (br_V (As := [.int (-1)]) (rest := []) (q := (RX9, TX9, 12)) (c_X9_refuse X this (-1) σ3) rfl g_X9_fieldOf_X9_refuse_82 rfl (bh_ck_spec h7) ⟨rfl, hd_X9_refuse⟩ rfl ⟨by decide, by decide⟩ rfl (Nat.le_of_ble_eq_true rfl) dX9_fieldOf_12) (fun v8 σ9 h10 => ?_)
    exact bj_iret dX9_fieldOf_15
  · subst h6
    refine bj_iload_n dX9_fieldOf_16 rfl 3 rfl ?_
    refine bj_ite (fun h11 => ?_) (fun h11 => ?_)
    · refine bj_tblIn (tgt := 76) (kv := 0) (off := 59) dX9_fieldOf_17 h11 (by decide) (by decide) rfl (by decide) ?_
      refine bj_aload_nS dX9_fieldOf_76 rfl 0 rfl ?_
      refine bj_getI (ci := 7) (k := 5) (C := RX6) (T := TX6) (N := 14) rfl hi_X9_fieldOf_X6 (by decide) rfl fl_X9_fieldOf_207 (Or.inl rfl) dX9_fieldOf_77 (fun v12 h13 => ?_)
      exact bj_iret dX9_fieldOf_80
    refine bj_ite (fun h14 => ?_) (fun h14 => ?_)
    · refine bj_tblIn (tgt := 81) (kv := 1) (off := 64) dX9_fieldOf_17 h14 (by decide) (by decide) rfl (by decide) ?_
      refine bj_aload_nS dX9_fieldOf_81 rfl 0 rfl ?_
      refine bj_getI (ci := 7) (k := 6) (C := RX6) (T := TX6) (N := 14) rfl hi_X9_fieldOf_X6 (by decide) rfl fl_X9_fieldOf_163 (Or.inl rfl) dX9_fieldOf_82 (fun v15 h16 => ?_)
      exact bj_iret dX9_fieldOf_85
    refine bj_ite (fun h17 => ?_) (fun h17 => ?_)
    · refine bj_tblIn (tgt := 86) (kv := 2) (off := 69) dX9_fieldOf_17 h17 (by decide) (by decide) rfl (by decide) ?_
      refine bj_aload_nS dX9_fieldOf_86 rfl 0 rfl ?_
      refine bj_getI (ci := 7) (k := 7) (C := RX6) (T := TX6) (N := 14) rfl hi_X9_fieldOf_X6 (by decide) rfl fl_X9_fieldOf_210 (Or.inl rfl) dX9_fieldOf_87 (fun v18 h19 => ?_)
      exact bj_iret dX9_fieldOf_90
    refine bj_ite (fun h20 => ?_) (fun h20 => ?_)
    · refine bj_tblIn (tgt := 91) (kv := 3) (off := 74) dX9_fieldOf_17 h20 (by decide) (by decide) rfl (by decide) ?_
      refine bj_aload_nS dX9_fieldOf_91 rfl 0 rfl ?_
      refine bj_getI (ci := 7) (k := 8) (C := RX6) (T := TX6) (N := 14) rfl hi_X9_fieldOf_X6 (by decide) rfl fl_X9_fieldOf_169 (Or.inl rfl) dX9_fieldOf_92 (fun v21 h22 => ?_)
      refine bj_if_eq (tgt := 102) dX9_fieldOf_95 (by decide) (fun h23 => ?_) (fun h23 => ?_)
      · refine bj_iconst (v := 0) dX9_fieldOf_102 (by decide) ?_
        exact bj_iret dX9_fieldOf_103
      · refine bj_iconst (v := 1) dX9_fieldOf_98 (by decide) ?_
        refine bj_goto (tgt := 103) dX9_fieldOf_99 (by decide) ?_
        exact bj_iret dX9_fieldOf_103
    refine bj_ite (fun h24 => ?_) (fun h24 => ?_)
    · refine bj_tblIn (tgt := 104) (kv := 4) (off := 87) dX9_fieldOf_17 h24 (by decide) (by decide) rfl (by decide) ?_
      refine bj_aload_nS dX9_fieldOf_104 rfl 0 rfl ?_
      refine bj_getI (ci := 7) (k := 9) (C := RX6) (T := TX6) (N := 14) rfl hi_X9_fieldOf_X6 (by decide) rfl fl_X9_fieldOf_166 (Or.inl rfl) dX9_fieldOf_105 (fun v25 h26 => ?_)
      refine bj_if_eq (tgt := 115) dX9_fieldOf_108 (by decide) (fun h27 => ?_) (fun h27 => ?_)
      · refine bj_iconst (v := 0) dX9_fieldOf_115 (by decide) ?_
        exact bj_iret dX9_fieldOf_116
      · refine bj_iconst (v := 1) dX9_fieldOf_111 (by decide) ?_
        refine bj_goto (tgt := 116) dX9_fieldOf_112 (by decide) ?_
        exact bj_iret dX9_fieldOf_116
    refine bj_ite (fun h28 => ?_) (fun h28 => ?_)
    · refine bj_tblIn (tgt := 117) (kv := 5) (off := 100) dX9_fieldOf_17 h28 (by decide) (by decide) rfl (by decide) ?_
      refine bj_aload_nS dX9_fieldOf_117 rfl 0 rfl ?_
      refine bj_getI (ci := 7) (k := 10) (C := RX6) (T := TX6) (N := 14) rfl hi_X9_fieldOf_X6 (by decide) rfl fl_X9_fieldOf_213 (Or.inl rfl) dX9_fieldOf_118 (fun v29 h30 => ?_)
      exact bj_iret dX9_fieldOf_121
    refine bj_ite (fun h31 => ?_) (fun h31 => ?_)
    · refine bj_tblIn (tgt := 122) (kv := 6) (off := 105) dX9_fieldOf_17 h31 (by decide) (by decide) rfl (by decide) ?_
      refine bj_aload_nS dX9_fieldOf_122 rfl 0 rfl ?_
      refine bj_getI (ci := 7) (k := 11) (C := RX6) (T := TX6) (N := 14) rfl hi_X9_fieldOf_X6 (by decide) rfl fl_X9_fieldOf_216 (Or.inl rfl) dX9_fieldOf_123 (fun v32 h33 => ?_)
      exact bj_iret dX9_fieldOf_126
    refine bj_ite (fun h34 => ?_) (fun h34 => ?_)
    · refine bj_tblIn (tgt := 127) (kv := 7) (off := 110) dX9_fieldOf_17 h34 (by decide) (by decide) rfl (by decide) ?_
      refine bj_aload_nS dX9_fieldOf_127 rfl 0 rfl ?_
      refine bj_getI (ci := 7) (k := 12) (C := RX6) (T := TX6) (N := 14) rfl hi_X9_fieldOf_X6 (by decide) rfl fl_X9_fieldOf_219 (Or.inl rfl) dX9_fieldOf_128 (fun v35 h36 => ?_)
      exact bj_iret dX9_fieldOf_131
    refine bj_ite (fun h37 => ?_) (fun h37 => ?_)
    · refine bj_tblIn (tgt := 132) (kv := 8) (off := 115) dX9_fieldOf_17 h37 (by decide) (by decide) rfl (by decide) ?_
      refine bj_aload_nS dX9_fieldOf_132 rfl 0 rfl ?_
      refine bj_getI (ci := 7) (k := 13) (C := RX6) (T := TX6) (N := 14) rfl hi_X9_fieldOf_X6 (by decide) rfl fl_X9_fieldOf_222 (Or.inl rfl) dX9_fieldOf_133 (fun v38 h39 => ?_)
      exact bj_iret dX9_fieldOf_136
    refine bj_ite (fun h40 => ?_) (fun h40 => ?_)
    · refine bj_tblIn (tgt := 137) (kv := 9) (off := 120) dX9_fieldOf_17 h40 (by decide) (by decide) rfl (by decide) ?_
      refine bj_aload_nS dX9_fieldOf_137 rfl 0 rfl ?_
      refine bj_getR (ci := 7) (k := 1) (C := RX6) (T := TX6) (N := 14) rfl hi_X9_fieldOf_X6 (by decide) rfl fl_X9_fieldOf_223 (Or.inl rfl) dX9_fieldOf_138 (fun v41 h42 => ?_)
      refine bj_nn (fun a43 h44 => ?_)
      subst h44
      refine bj_getI (ci := 1) (k := 0) (C := RX0) (T := TX0) (N := 4) rfl hi_X9_fieldOf_X0 (by decide) rfl fl_X9_fieldOf_197 (Or.inl rfl) dX9_fieldOf_141 (fun v45 h46 => ?_)
      exact bj_iret dX9_fieldOf_144
    refine bj_ite (fun h47 => ?_) (fun h47 => ?_)
    · refine bj_tblIn (tgt := 145) (kv := 10) (off := 128) dX9_fieldOf_17 h47 (by decide) (by decide) rfl (by decide) ?_
      refine bj_aload_nS dX9_fieldOf_145 rfl 1 rfl ?_
      refine bj_aload_nS dX9_fieldOf_146 rfl 0 rfl ?_
      refine bj_op (fun _ h48 => ?_)
      refine bj_callI (br_V (As := [.ref a5]) (rest := []) (q := (RX9, TX9, 12)) (c_X9_lorriesOutTo X N this a5 σ3) rfl g_X9_fieldOf_X9_lorriesOutTo_227 rfl (bh_ck_spec h48) ⟨rfl, hd_X9_lorriesOutTo⟩ rfl ⟨by decide, by decide⟩ rfl (Nat.le_of_ble_eq_true rfl) dX9_fieldOf_147) (fun v49 σ50 h51 => ?_)
      exact bj_iret dX9_fieldOf_150
    refine bj_tblOut (tgt := 151) dX9_fieldOf_17 (by have h11n := lv_neT h11 (show (0 : Int32).toInt = 0 by decide); have h14n := lv_neT h14 (show (1 : Int32).toInt = 1 by decide); have h17n := lv_neT h17 (show (2 : Int32).toInt = 2 by decide); have h20n := lv_neT h20 (show (3 : Int32).toInt = 3 by decide); have h24n := lv_neT h24 (show (4 : Int32).toInt = 4 by decide); have h28n := lv_neT h28 (show (5 : Int32).toInt = 5 by decide); have h31n := lv_neT h31 (show (6 : Int32).toInt = 6 by decide); have h34n := lv_neT h34 (show (7 : Int32).toInt = 7 by decide); have h37n := lv_neT h37 (show (8 : Int32).toInt = 8 by decide); have h40n := lv_neT h40 (show (9 : Int32).toInt = 9 by decide); have h47n := lv_neT h47 (show (10 : Int32).toInt = 10 by decide); omega) (by decide) ?_
    refine bj_aload_nS dX9_fieldOf_151 rfl 1 rfl ?_
    refine bj_bipush (v := (-2)) dX9_fieldOf_152 (by decide) ?_
    refine bj_op (fun _ h52 => ?_)
    refine bj_callI (br_V (As := [.int (-2)]) (rest := []) (q := (RX9, TX9, 12)) (c_X9_refuse X this (-2) σ3) rfl g_X9_fieldOf_X9_refuse_82 rfl (bh_ck_spec h52) ⟨rfl, hd_X9_refuse⟩ rfl ⟨by decide, by decide⟩ rfl (Nat.le_of_ble_eq_true rfl) dX9_fieldOf_154) (fun v53 σ54 h55 => ?_)
    exact bj_iret dX9_fieldOf_157
/-! BeetHouse.lorryOf(II)I -/
set_option maxRecDepth 100000 in
theorem g_X9_lorryOf_X9_lorryAt_120 : GoodIn wsX9_lorryOf (wsV yX9_lorryOf.cls 120 RX9 yX9_lorryAt wsX9_lorryAt) := goodIn_r _ [1, 2, 3, 4, 5, 6, 7, 8, 9, 10, 11, 12, 13, 14, 15, 16, 17, 18, 19, 20, 21, 22, 23, 24, 25, 26, 27, 28, 29, 30, 58, 59, 60, 61, 62, 63, 64, 65, 66, 67, 68, 69, 70, 71, 72] rfl (by decide +kernel)
set_option maxRecDepth 100000 in
theorem g_X9_lorryOf_X9_refuse_82 : GoodIn wsX9_lorryOf (wsV yX9_lorryOf.cls 82 RX9 yX9_refuse wsX9_refuse) := goodIn_r _ [31, 32, 33, 4, 34, 35, 58, 59, 60, 61, 62, 63, 64, 65, 66, 67, 68, 69] rfl (by decide +kernel)
theorem hi_X9_lorryOf_X3 : ∀ w ∈ u_ws RX3 TX3 8, w ∈ wsX9_lorryOf := fun _ h => (List.mem_cons_of_mem _ (List.mem_append_left _ (List.mem_append_left _ (List.mem_append_left _ (List.mem_append_right _ h)))))
set_option maxRecDepth 100000 in
theorem fl_X9_lorryOf_124 : bh_fl wsX9_lorryOf yX9_lorryOf.cls 124 "BeetHouse$Lorry" "state" "I" := Or.inr ⟨"BeetHouse", List.mem_of_getElem? (i := 38) rfl⟩
set_option maxRecDepth 100000 in
theorem fl_X9_lorryOf_231 : bh_fl wsX9_lorryOf yX9_lorryOf.cls 231 "BeetHouse$Lorry" "plot" "LBeetHouse$Plot;" := Or.inr ⟨"BeetHouse", List.mem_of_getElem? (i := 39) rfl⟩
theorem hi_X9_lorryOf_X6 : ∀ w ∈ u_ws RX6 TX6 14, w ∈ wsX9_lorryOf := fun _ h => (List.mem_cons_of_mem _ (List.mem_append_left _ (List.mem_append_left _ (List.mem_append_right _ h))))
set_option maxRecDepth 100000 in
theorem fl_X9_lorryOf_146 : bh_fl wsX9_lorryOf yX9_lorryOf.cls 146 "BeetHouse$Plot" "number" "I" := Or.inr ⟨"BeetHouse", List.mem_of_getElem? (i := 20) rfl⟩
set_option maxRecDepth 100000 in
theorem fl_X9_lorryOf_131 : bh_fl wsX9_lorryOf yX9_lorryOf.cls 131 "BeetHouse$Lorry" "there" "I" := Or.inr ⟨"BeetHouse", List.mem_of_getElem? (i := 40) rfl⟩
set_option maxRecDepth 100000 in
theorem fl_X9_lorryOf_232 : bh_fl wsX9_lorryOf yX9_lorryOf.cls 232 "BeetHouse$Lorry" "roots" "I" := Or.inr ⟨"BeetHouse", List.mem_of_getElem? (i := 41) rfl⟩
set_option maxRecDepth 100000 in
theorem fl_X9_lorryOf_233 : bh_fl wsX9_lorryOf yX9_lorryOf.cls 233 "BeetHouse$Lorry" "sugar" "I" := Or.inr ⟨"BeetHouse", List.mem_of_getElem? (i := 42) rfl⟩
set_option maxRecDepth 100000 in
theorem fl_X9_lorryOf_234 : bh_fl wsX9_lorryOf yX9_lorryOf.cls 234 "BeetHouse$Lorry" "drowned" "I" := Or.inr ⟨"BeetHouse", List.mem_of_getElem? (i := 43) rfl⟩
set_option maxRecDepth 100000 in
theorem fl_X9_lorryOf_237 : bh_fl wsX9_lorryOf yX9_lorryOf.cls 237 "BeetHouse$Lorry" "brought" "I" := Or.inr ⟨"BeetHouse", List.mem_of_getElem? (i := 44) rfl⟩
def f_X9_lorryOf (this : Nat) (p1 : Int32) (p2 : Int32) (σ : bh_S) : Option (Int32 × bh_S) :=
  (bh_ck σ this 10).bind fun _ =>
  bh_bnd (f_X9_lorryAt this p1 σ) fun v2 σ3 =>
  bh_cs v2 (
    (bh_ck σ3 this 10).bind fun _ =>
    bh_bnd (f_X9_refuse this (-1) σ3) fun v8 σ9 =>
    some (v8, σ9)
  ) (fun a5 =>
    if p2 = 0 then
      (bh_rdI σ3 4 a5 1).bind fun v12 =>
      some (v12, σ3)
    else
    if p2 = 1 then
      (bh_rdR σ3 4 a5 2).bind fun v15 =>
      bh_cs v15 (
        some ((-9), σ3)
      ) (fun a17 =>
        (bh_rdR σ3 4 a5 2).bind fun v19 =>
        (v19).bind fun a21 =>
        (bh_rdI σ3 7 a21 0).bind fun v23 =>
        some (v23, σ3)
      )
    else
    if p2 = 2 then
      (bh_rdI σ3 4 a5 3).bind fun v26 =>
      some (v26, σ3)
    else
    if p2 = 3 then
      (bh_rdI σ3 4 a5 4).bind fun v29 =>
      some (v29, σ3)
    else
    if p2 = 4 then
      (bh_rdI σ3 4 a5 5).bind fun v32 =>
      some (v32, σ3)
    else
    if p2 = 5 then
      (bh_rdI σ3 4 a5 6).bind fun v35 =>
      some (v35, σ3)
    else
    if p2 = 6 then
      (bh_rdI σ3 4 a5 7).bind fun v38 =>
      some (v38, σ3)
    else
      (bh_ck σ3 this 10).bind fun _ =>
      bh_bnd (f_X9_refuse this (-2) σ3) fun v41 σ42 =>
      some (v41, σ42)
  )
set_option maxHeartbeats 4000000 in
set_option maxRecDepth 100000 in
theorem c_X9_lorryOf (X : bh_X) (this : Nat) (p1 : Int32) (p2 : Int32) (σ : bh_S) : bh_MX eI X yX9_lorryOf wsX9_lorryOf 4 85 [.ref this, .int p1, .int p2] σ (f_X9_lorryOf this p1 p2 σ) := by
  refine bh_enter (cc := cX9_lorryOf) (NL := 4) (ret := (some .int)) (by decide) rfl (Nat.le_of_ble_eq_true rfl) (fun X => ?_)
  show bh_J eI yX9_lorryOf cX9_lorryOf wsX9_lorryOf (some .int) 4 4 85 X σ 0 [(0, .ref this), (1, .int p1), (2, .int p2)] [] _
  unfold f_X9_lorryOf
  refine bj_aload_nS dX9_lorryOf_0 rfl 0 rfl ?_
  refine bj_iload_n dX9_lorryOf_1 rfl 1 rfl ?_
  refine bj_op (fun _ h1 => ?_)
  refine bj_callR (br_V (As := [.int p1]) (rest := []) (q := (RX9, TX9, 12)) (c_X9_lorryAt X this p1 σ) rfl g_X9_lorryOf_X9_lorryAt_120 rfl (bh_ck_spec h1) ⟨rfl, hd_X9_lorryAt⟩ rfl ⟨by decide, by decide⟩ rfl (Nat.le_of_ble_eq_true rfl) dX9_lorryOf_2) (fun v2 σ3 h4 => ?_)
  refine bj_astore_n (lv' := [(3, va_rf v2), (0, .ref this), (1, .int p1), (2, .int p2)]) (o := v2) dX9_lorryOf_5 rfl (by decide) rfl ?_
  refine bj_aload_n dX9_lorryOf_6 rfl 0 rfl ?_
  refine bj_ifnonnull (o := v2) (tgt := 16) dX9_lorryOf_7 (by decide) (fun h6 => ?_) (fun a5 h6 => ?_)
  · subst h6
    refine bj_aload_nS dX9_lorryOf_10 rfl 1 rfl ?_
    refine bj_iconst (v := (-1)) dX9_lorryOf_11 (by decide) ?_
    refine bj_op (fun _ h7 => ?_)
    refine bj_callI (br_V (As := [.int (-1)]) (rest := []) (q := (RX9, TX9, 12)) (c_X9_refuse X this (-1) σ3) rfl g_X9_lorryOf_X9_refuse_82 rfl (bh_ck_spec h7) ⟨rfl, hd_X9_refuse⟩ rfl ⟨by decide, by decide⟩ rfl (Nat.le_of_ble_eq_true rfl) dX9_lorryOf_12) (fun v8 σ9 h10 => ?_)
    exact bj_iret dX9_lorryOf_15
  · subst h6
    refine bj_iload_n dX9_lorryOf_16 rfl 3 rfl ?_
    refine bj_ite (fun h11 => ?_) (fun h11 => ?_)
    · refine bj_tblIn (tgt := 60) (kv := 0) (off := 43) dX9_lorryOf_17 h11 (by decide) (by decide) rfl (by decide) ?_
      refine bj_aload_nS dX9_lorryOf_60 rfl 0 rfl ?_
      refine bj_getI (ci := 4) (k := 1) (C := RX3) (T := TX3) (N := 8) rfl hi_X9_lorryOf_X3 (by decide) rfl fl_X9_lorryOf_124 (Or.inl rfl) dX9_lorryOf_61 (fun v12 h13 => ?_)
      exact bj_iret dX9_lorryOf_64
    refine bj_ite (fun h14 => ?_) (fun h14 => ?_)
    · refine bj_tblIn (tgt := 65) (kv := 1) (off := 48) dX9_lorryOf_17 h14 (by decide) (by decide) rfl (by decide) ?_
      refine bj_aload_nS dX9_lorryOf_65 rfl 0 rfl ?_
      refine bj_getR (ci := 4) (k := 2) (C := RX3) (T := TX3) (N := 8) rfl hi_X9_lorryOf_X3 (by decide) rfl fl_X9_lorryOf_231 (Or.inl rfl) dX9_lorryOf_66 (fun v15 h16 => ?_)
      refine bj_ifnonnull (o := v15) (tgt := 77) dX9_lorryOf_69 (by decide) (fun h18 => ?_) (fun a17 h18 => ?_)
      · subst h18
        refine bj_bipush (v := (-9)) dX9_lorryOf_72 (by decide) ?_
        refine bj_goto (tgt := 84) dX9_lorryOf_74 (by decide) ?_
        exact bj_iret dX9_lorryOf_84
      · subst h18
        refine bj_aload_nS dX9_lorryOf_77 rfl 0 rfl ?_
        refine bj_getR (ci := 4) (k := 2) (C := RX3) (T := TX3) (N := 8) rfl hi_X9_lorryOf_X3 (by decide) rfl fl_X9_lorryOf_231 (Or.inl rfl) dX9_lorryOf_78 (fun v19 h20 => ?_)
        refine bj_nn (fun a21 h22 => ?_)
        subst h22
        refine bj_getI (ci := 7) (k := 0) (C := RX6) (T := TX6) (N := 14) rfl hi_X9_lorryOf_X6 (by decide) rfl fl_X9_lorryOf_146 (Or.inl rfl) dX9_lorryOf_81 (fun v23 h24 => ?_)
        exact bj_iret dX9_lorryOf_84
    refine bj_ite (fun h25 => ?_) (fun h25 => ?_)
    · refine bj_tblIn (tgt := 85) (kv := 2) (off := 68) dX9_lorryOf_17 h25 (by decide) (by decide) rfl (by decide) ?_
      refine bj_aload_nS dX9_lorryOf_85 rfl 0 rfl ?_
      refine bj_getI (ci := 4) (k := 3) (C := RX3) (T := TX3) (N := 8) rfl hi_X9_lorryOf_X3 (by decide) rfl fl_X9_lorryOf_131 (Or.inl rfl) dX9_lorryOf_86 (fun v26 h27 => ?_)
      exact bj_iret dX9_lorryOf_89
    refine bj_ite (fun h28 => ?_) (fun h28 => ?_)
    · refine bj_tblIn (tgt := 90) (kv := 3) (off := 73) dX9_lorryOf_17 h28 (by decide) (by decide) rfl (by decide) ?_
      refine bj_aload_nS dX9_lorryOf_90 rfl 0 rfl ?_
      refine bj_getI (ci := 4) (k := 4) (C := RX3) (T := TX3) (N := 8) rfl hi_X9_lorryOf_X3 (by decide) rfl fl_X9_lorryOf_232 (Or.inl rfl) dX9_lorryOf_91 (fun v29 h30 => ?_)
      exact bj_iret dX9_lorryOf_94
    refine bj_ite (fun h31 => ?_) (fun h31 => ?_)
    · refine bj_tblIn (tgt := 95) (kv := 4) (off := 78) dX9_lorryOf_17 h31 (by decide) (by decide) rfl (by decide) ?_
      refine bj_aload_nS dX9_lorryOf_95 rfl 0 rfl ?_
      refine bj_getI (ci := 4) (k := 5) (C := RX3) (T := TX3) (N := 8) rfl hi_X9_lorryOf_X3 (by decide) rfl fl_X9_lorryOf_233 (Or.inl rfl) dX9_lorryOf_96 (fun v32 h33 => ?_)
      exact bj_iret dX9_lorryOf_99
    refine bj_ite (fun h34 => ?_) (fun h34 => ?_)
    · refine bj_tblIn (tgt := 100) (kv := 5) (off := 83) dX9_lorryOf_17 h34 (by decide) (by decide) rfl (by decide) ?_
      refine bj_aload_nS dX9_lorryOf_100 rfl 0 rfl ?_
      refine bj_getI (ci := 4) (k := 6) (C := RX3) (T := TX3) (N := 8) rfl hi_X9_lorryOf_X3 (by decide) rfl fl_X9_lorryOf_234 (Or.inl rfl) dX9_lorryOf_101 (fun v35 h36 => ?_)
      exact bj_iret dX9_lorryOf_104
    refine bj_ite (fun h37 => ?_) (fun h37 => ?_)
    · refine bj_tblIn (tgt := 105) (kv := 6) (off := 88) dX9_lorryOf_17 h37 (by decide) (by decide) rfl (by decide) ?_
      refine bj_aload_nS dX9_lorryOf_105 rfl 0 rfl ?_
      refine bj_getI (ci := 4) (k := 7) (C := RX3) (T := TX3) (N := 8) rfl hi_X9_lorryOf_X3 (by decide) rfl fl_X9_lorryOf_237 (Or.inl rfl) dX9_lorryOf_106 (fun v38 h39 => ?_)
      exact bj_iret dX9_lorryOf_109
    refine bj_tblOut (tgt := 110) dX9_lorryOf_17 (by have h11n := lv_neT h11 (show (0 : Int32).toInt = 0 by decide); have h14n := lv_neT h14 (show (1 : Int32).toInt = 1 by decide); have h25n := lv_neT h25 (show (2 : Int32).toInt = 2 by decide); have h28n := lv_neT h28 (show (3 : Int32).toInt = 3 by decide); have h31n := lv_neT h31 (show (4 : Int32).toInt = 4 by decide); have h34n := lv_neT h34 (show (5 : Int32).toInt = 5 by decide); have h37n := lv_neT h37 (show (6 : Int32).toInt = 6 by decide); omega) (by decide) ?_
    refine bj_aload_nS dX9_lorryOf_110 rfl 1 rfl ?_
    refine bj_bipush (v := (-2)) dX9_lorryOf_111 (by decide) ?_
    refine bj_op (fun _ h40 => ?_)
    refine bj_callI (br_V (As := [.int (-2)]) (rest := []) (q := (RX9, TX9, 12)) (c_X9_refuse X this (-2) σ3) rfl g_X9_lorryOf_X9_refuse_82 rfl (bh_ck_spec h40) ⟨rfl, hd_X9_refuse⟩ rfl ⟨by decide, by decide⟩ rfl (Nat.le_of_ble_eq_true rfl) dX9_lorryOf_113) (fun v41 σ42 h43 => ?_)
    exact bj_iret dX9_lorryOf_116
/-! BeetHouse.load(II)I -/
theorem hi_X9_load_X9 : ∀ w ∈ u_ws RX9 TX9 12, w ∈ wsX9_load := fun _ h => (List.mem_cons_of_mem _ (List.mem_append_left _ (List.mem_append_left _ (List.mem_append_left _ (List.mem_append_left _ (List.mem_append_right _ h))))))
set_option maxRecDepth 100000 in
theorem fl_X9_load_41 : bh_fl wsX9_load yX9_load.cls 41 "BeetHouse" "yard" "LBeetHouse$Yard;" := Or.inl (List.mem_of_getElem? (i := 1) rfl)
theorem hi_X9_load_X8 : ∀ w ∈ u_ws RX8 TX8 4, w ∈ wsX9_load := fun _ h => (List.mem_cons_of_mem _ (List.mem_append_left _ (List.mem_append_left _ (List.mem_append_left _ (List.mem_append_right _ h)))))
set_option maxRecDepth 100000 in
theorem fl_X9_load_240 : bh_fl wsX9_load yX9_load.cls 240 "BeetHouse$Yard" "loads" "Ljava/util/ArrayList;" := Or.inr ⟨"BeetHouse", List.mem_of_getElem? (i := 3) rfl⟩
set_option maxRecDepth 100000 in
theorem g_X9_load_Jx4a65c_size_8abf5_93 : GoodIn wsX9_load (wsV yX9_load.cls 93 RJx4a65c yJx4a65c_size_8abf5 wsJx4a65c_size_8abf5) := goodIn_r _ [3, 4, 5, 6, 7, 8, 59, 60, 61] rfl (by decide +kernel)
set_option maxRecDepth 100000 in
theorem g_X9_load_Jx4a65c_get_915e3_172 : GoodIn wsX9_load (wsV yX9_load.cls 172 RJx4a65c yJx4a65c_get_915e3 wsJx4a65c_get_915e3) := goodIn_r _ [9, 10, 11, 6, 12, 8, 13, 14, 15, 16, 17, 18, 19, 20, 21, 22, 23, 6, 24, 25, 59, 60, 61] rfl (by decide +kernel)
theorem hi_X9_load_X2 : ∀ w ∈ u_ws RX2 TX2 3, w ∈ wsX9_load := fun _ h => (List.mem_cons_of_mem _ (List.mem_append_left _ (List.mem_append_left _ (List.mem_append_right _ h))))
set_option maxRecDepth 100000 in
theorem fl_X9_load_245 : bh_fl wsX9_load yX9_load.cls 245 "BeetHouse$Load" "plot" "LBeetHouse$Plot;" := Or.inr ⟨"BeetHouse", List.mem_of_getElem? (i := 47) rfl⟩
theorem hi_X9_load_X6 : ∀ w ∈ u_ws RX6 TX6 14, w ∈ wsX9_load := fun _ h => (List.mem_cons_of_mem _ (List.mem_append_left _ (List.mem_append_right _ h)))
set_option maxRecDepth 100000 in
theorem fl_X9_load_146 : bh_fl wsX9_load yX9_load.cls 146 "BeetHouse$Plot" "number" "I" := Or.inr ⟨"BeetHouse", List.mem_of_getElem? (i := 20) rfl⟩
set_option maxRecDepth 100000 in
theorem fl_X9_load_246 : bh_fl wsX9_load yX9_load.cls 246 "BeetHouse$Load" "roots" "I" := Or.inr ⟨"BeetHouse", List.mem_of_getElem? (i := 50) rfl⟩
set_option maxRecDepth 100000 in
theorem fl_X9_load_247 : bh_fl wsX9_load yX9_load.cls 247 "BeetHouse$Load" "sugar" "I" := Or.inr ⟨"BeetHouse", List.mem_of_getElem? (i := 52) rfl⟩
def f_X9_load (this : Nat) (p1 : Int32) (p2 : Int32) (σ : bh_S) : Option (Int32 × bh_S) :=
  if p1 < 0 then
    some ((-9), σ)
  else
    (bh_rdR σ 10 this 5).bind fun v2 =>
    (v2).bind fun a4 =>
    (bh_rdR σ 9 a4 0).bind fun v6 =>
    (v6).bind fun a8 =>
    (bh_ck σ a8 0).bind fun _ =>
    bh_bnd (f_Jx4a65c_size_8abf5 a8 σ) fun v11 σ12 =>
    if p1 < v11 then
      (bh_rdR σ12 10 this 5).bind fun v15 =>
      (v15).bind fun a17 =>
      (bh_rdR σ12 9 a17 0).bind fun v19 =>
      (v19).bind fun a21 =>
      (bh_ck σ12 a21 0).bind fun _ =>
      bh_bnd (f_Jx4a65c_get_915e3 a21 p1 σ12) fun v24 σ25 =>
      (bh_cst σ25 3 v24).bind fun _ =>
      if p2 = 0 then
        (v24).bind fun a28 =>
        (bh_rdR σ25 3 a28 0).bind fun v30 =>
        (v30).bind fun a32 =>
        (bh_rdI σ25 7 a32 0).bind fun v34 =>
        some (v34, σ25)
      else
      if p2 = 1 then
        (v24).bind fun a37 =>
        (bh_rdI σ25 3 a37 1).bind fun v39 =>
        some (v39, σ25)
      else
      if p2 = 2 then
        (v24).bind fun a42 =>
        (bh_rdI σ25 3 a42 2).bind fun v44 =>
        some (v44, σ25)
      else
        some ((-9), σ25)
    else
      some ((-9), σ12)
set_option maxHeartbeats 4000000 in
set_option maxRecDepth 100000 in
theorem c_X9_load (X : bh_X) (this : Nat) (p1 : Int32) (p2 : Int32) (σ : bh_S) : bh_MX eI X yX9_load wsX9_load 3 64 [.ref this, .int p1, .int p2] σ (f_X9_load this p1 p2 σ) := by
  refine bh_enter (cc := cX9_load) (NL := 4) (ret := (some .int)) (by decide) rfl (Nat.le_of_ble_eq_true rfl) (fun X => ?_)
  show bh_J eI yX9_load cX9_load wsX9_load (some .int) 4 3 64 X σ 0 [(0, .ref this), (1, .int p1), (2, .int p2)] [] _
  unfold f_X9_load
  refine bj_iload_n dX9_load_0 rfl 1 rfl ?_
  refine bj_if_lt (tgt := 18) dX9_load_1 (by decide) (fun h1 => ?_) (fun h1 => ?_)
  · refine bj_bipush (v := (-9)) dX9_load_18 (by decide) ?_
    exact bj_iret dX9_load_20
  · refine bj_iload_n dX9_load_4 rfl 1 rfl ?_
    refine bj_aload_nS dX9_load_5 rfl 0 rfl ?_
    refine bj_getR (ci := 10) (k := 5) (C := RX9) (T := TX9) (N := 12) rfl hi_X9_load_X9 (by decide) rfl fl_X9_load_41 (Or.inl rfl) dX9_load_6 (fun v2 h3 => ?_)
    refine bj_nn (fun a4 h5 => ?_)
    subst h5
    refine bj_getR (ci := 9) (k := 0) (C := RX8) (T := TX8) (N := 4) rfl hi_X9_load_X8 (by decide) rfl fl_X9_load_240 (Or.inl rfl) dX9_load_9 (fun v6 h7 => ?_)
    refine bj_nn (fun a8 h9 => ?_)
    subst h9
    refine bj_op (fun _ h10 => ?_)
    refine bj_callI (br_V (As := []) (rest := [.int p1]) (q := (RJx4a65c, TJx4a65c, 3)) (c_Jx4a65c_size_8abf5 X a8 σ) rfl g_X9_load_Jx4a65c_size_8abf5_93 rfl (bh_ck_spec h10) ⟨rfl, hd_Jx4a65c_size_8abf5⟩ rfl ⟨by decide, by decide⟩ rfl (Nat.le_of_ble_eq_true rfl) dX9_load_12) (fun v11 σ12 h13 => ?_)
    refine bj_icmp_lt (tgt := 21) dX9_load_15 (by decide) (fun h14 => ?_) (fun h14 => ?_)
    · refine bj_aload_nS dX9_load_21 rfl 0 rfl ?_
      refine bj_getR (ci := 10) (k := 5) (C := RX9) (T := TX9) (N := 12) rfl hi_X9_load_X9 (by decide) rfl fl_X9_load_41 (Or.inl rfl) dX9_load_22 (fun v15 h16 => ?_)
      refine bj_nn (fun a17 h18 => ?_)
      subst h18
      refine bj_getR (ci := 9) (k := 0) (C := RX8) (T := TX8) (N := 4) rfl hi_X9_load_X8 (by decide) rfl fl_X9_load_240 (Or.inl rfl) dX9_load_25 (fun v19 h20 => ?_)
      refine bj_iload_n dX9_load_28 rfl 1 rfl ?_
      refine bj_nn (fun a21 h22 => ?_)
      subst h22
      refine bj_op (fun _ h23 => ?_)
      refine bj_callR (br_V (As := [.int p1]) (rest := []) (q := (RJx4a65c, TJx4a65c, 3)) (c_Jx4a65c_get_915e3 X a21 p1 σ12) rfl g_X9_load_Jx4a65c_get_915e3_172 rfl (bh_ck_spec h23) ⟨rfl, hd_Jx4a65c_get_915e3⟩ rfl ⟨by decide, by decide⟩ rfl (Nat.le_of_ble_eq_true rfl) dX9_load_29) (fun v24 σ25 h26 => ?_)
      refine bj_cast (ci := 3) (C := RX2) (T := TX2) (N := 3) (o := v24) rfl (List.mem_of_getElem? (i := 2) rfl) dX9_load_32 ?_
      refine bj_astore_n (lv' := [(3, va_rf v24), (0, .ref this), (1, .int p1), (2, .int p2)]) (o := v24) dX9_load_35 rfl (by decide) rfl ?_
      refine bj_iload_n dX9_load_36 rfl 3 rfl ?_
      refine bj_ite (fun h27 => ?_) (fun h27 => ?_)
      · refine bj_tblIn (tgt := 64) (kv := 0) (off := 27) dX9_load_37 h27 (by decide) (by decide) rfl (by decide) ?_
        refine bj_aload_n dX9_load_64 rfl 0 rfl ?_
        refine bj_nn (fun a28 h29 => ?_)
        subst h29
        refine bj_getR (ci := 3) (k := 0) (C := RX2) (T := TX2) (N := 3) rfl hi_X9_load_X2 (by decide) rfl fl_X9_load_245 (Or.inl rfl) dX9_load_65 (fun v30 h31 => ?_)
        refine bj_nn (fun a32 h33 => ?_)
        subst h33
        refine bj_getI (ci := 7) (k := 0) (C := RX6) (T := TX6) (N := 14) rfl hi_X9_load_X6 (by decide) rfl fl_X9_load_146 (Or.inl rfl) dX9_load_68 (fun v34 h35 => ?_)
        exact bj_iret dX9_load_71
      refine bj_ite (fun h36 => ?_) (fun h36 => ?_)
      · refine bj_tblIn (tgt := 72) (kv := 1) (off := 35) dX9_load_37 h36 (by decide) (by decide) rfl (by decide) ?_
        refine bj_aload_n dX9_load_72 rfl 0 rfl ?_
        refine bj_nn (fun a37 h38 => ?_)
        subst h38
        refine bj_getI (ci := 3) (k := 1) (C := RX2) (T := TX2) (N := 3) rfl hi_X9_load_X2 (by decide) rfl fl_X9_load_246 (Or.inl rfl) dX9_load_73 (fun v39 h40 => ?_)
        exact bj_iret dX9_load_76
      refine bj_ite (fun h41 => ?_) (fun h41 => ?_)
      · refine bj_tblIn (tgt := 77) (kv := 2) (off := 40) dX9_load_37 h41 (by decide) (by decide) rfl (by decide) ?_
        refine bj_aload_n dX9_load_77 rfl 0 rfl ?_
        refine bj_nn (fun a42 h43 => ?_)
        subst h43
        refine bj_getI (ci := 3) (k := 2) (C := RX2) (T := TX2) (N := 3) rfl hi_X9_load_X2 (by decide) rfl fl_X9_load_247 (Or.inl rfl) dX9_load_78 (fun v44 h45 => ?_)
        exact bj_iret dX9_load_81
      refine bj_tblOut (tgt := 82) dX9_load_37 (by have h27n := lv_neT h27 (show (0 : Int32).toInt = 0 by decide); have h36n := lv_neT h36 (show (1 : Int32).toInt = 1 by decide); have h41n := lv_neT h41 (show (2 : Int32).toInt = 2 by decide); omega) (by decide) ?_
      refine bj_bipush (v := (-9)) dX9_load_82 (by decide) ?_
      exact bj_iret dX9_load_84
    · refine bj_bipush (v := (-9)) dX9_load_18 (by decide) ?_
      exact bj_iret dX9_load_20
/-! BeetHouse.coins(I)I -/
set_option maxRecDepth 100000 in
theorem g_X9_coins_X9_farmerAt_78 : GoodIn wsX9_coins (wsV yX9_coins.cls 78 RX9 yX9_farmerAt wsX9_farmerAt) := goodIn_r _ [1, 2, 3, 4, 5, 6, 16, 17, 18, 19, 20, 21, 22, 23, 24, 25, 26, 27] rfl (by decide +kernel)
set_option maxRecDepth 100000 in
theorem g_X9_coins_X9_refuse_82 : GoodIn wsX9_coins (wsV yX9_coins.cls 82 RX9 yX9_refuse wsX9_refuse) := goodIn_r _ [7, 8, 9, 4, 10, 11, 16, 17, 18, 19, 20, 21, 22, 23, 24, 25, 26, 27] rfl (by decide +kernel)
theorem hi_X9_coins_X0 : ∀ w ∈ u_ws RX0 TX0 4, w ∈ wsX9_coins := fun _ h => (List.mem_cons_of_mem _ (List.mem_append_left _ (List.mem_append_right _ h)))
set_option maxRecDepth 100000 in
theorem fl_X9_coins_248 : bh_fl wsX9_coins yX9_coins.cls 248 "BeetHouse$Farmer" "coins" "I" := Or.inr ⟨"BeetHouse", List.mem_of_getElem? (i := 15) rfl⟩
def f_X9_coins (this : Nat) (p1 : Int32) (σ : bh_S) : Option (Int32 × bh_S) :=
  (bh_ck σ this 10).bind fun _ =>
  bh_bnd (f_X9_farmerAt this p1 σ) fun v2 σ3 =>
  bh_cs v2 (
    (bh_ck σ3 this 10).bind fun _ =>
    bh_bnd (f_X9_refuse this (-1) σ3) fun v8 σ9 =>
    some (v8, σ9)
  ) (fun a5 =>
    (bh_rdI σ3 1 a5 2).bind fun v11 =>
    some (v11, σ3)
  )
set_option maxHeartbeats 4000000 in
set_option maxRecDepth 100000 in
theorem c_X9_coins (X : bh_X) (this : Nat) (p1 : Int32) (σ : bh_S) : bh_MX eI X yX9_coins wsX9_coins 1 21 [.ref this, .int p1] σ (f_X9_coins this p1 σ) := by
  refine bh_enter (cc := cX9_coins) (NL := 3) (ret := (some .int)) (by decide) rfl (Nat.le_of_ble_eq_true rfl) (fun X => ?_)
  show bh_J eI yX9_coins cX9_coins wsX9_coins (some .int) 3 1 21 X σ 0 [(0, .ref this), (1, .int p1)] [] _
  unfold f_X9_coins
  refine bj_aload_nS dX9_coins_0 rfl 0 rfl ?_
  refine bj_iload_n dX9_coins_1 rfl 1 rfl ?_
  refine bj_op (fun _ h1 => ?_)
  refine bj_callR (br_V (As := [.int p1]) (rest := []) (q := (RX9, TX9, 12)) (c_X9_farmerAt X this p1 σ) rfl g_X9_coins_X9_farmerAt_78 rfl (bh_ck_spec h1) ⟨rfl, hd_X9_farmerAt⟩ rfl ⟨by decide, by decide⟩ rfl (Nat.le_of_ble_eq_true rfl) dX9_coins_2) (fun v2 σ3 h4 => ?_)
  refine bj_astore_n (lv' := [(2, va_rf v2), (0, .ref this), (1, .int p1)]) (o := v2) dX9_coins_5 rfl (by decide) rfl ?_
  refine bj_aload_n dX9_coins_6 rfl 0 rfl ?_
  refine bj_ifnonnull (o := v2) (tgt := 18) dX9_coins_7 (by decide) (fun h6 => ?_) (fun a5 h6 => ?_)
  · subst h6
    refine bj_aload_nS dX9_coins_10 rfl 1 rfl ?_
    refine bj_iconst (v := (-1)) dX9_coins_11 (by decide) ?_
    refine bj_op (fun _ h7 => ?_)
    refine bj_callI (br_V (As := [.int (-1)]) (rest := []) (q := (RX9, TX9, 12)) (c_X9_refuse X this (-1) σ3) rfl g_X9_coins_X9_refuse_82 rfl (bh_ck_spec h7) ⟨rfl, hd_X9_refuse⟩ rfl ⟨by decide, by decide⟩ rfl (Nat.le_of_ble_eq_true rfl) dX9_coins_12) (fun v8 σ9 h10 => ?_)
    refine bj_goto (tgt := 22) dX9_coins_15 (by decide) ?_
    exact bj_iret dX9_coins_22
  · subst h6
    refine bj_aload_nS dX9_coins_18 rfl 0 rfl ?_
    refine bj_getI (ci := 1) (k := 2) (C := RX0) (T := TX0) (N := 4) rfl hi_X9_coins_X0 (by decide) rfl fl_X9_coins_248 (Or.inl rfl) dX9_coins_19 (fun v11 h12 => ?_)
    exact bj_iret dX9_coins_22
/-! BeetHouse.spoiledOfAll()I -/
theorem hi_X9_spoiledOfAll_X9 : ∀ w ∈ u_ws RX9 TX9 12, w ∈ wsX9_spoiledOfAll := fun _ h => (List.mem_cons_of_mem _ (List.mem_append_left _ (List.mem_append_left _ (List.mem_append_right _ h))))
set_option maxRecDepth 100000 in
theorem fl_X9_spoiledOfAll_18 : bh_fl wsX9_spoiledOfAll yX9_spoiledOfAll.cls 18 "BeetHouse" "plots" "Ljava/util/ArrayList;" := Or.inl (List.mem_of_getElem? (i := 1) rfl)
set_option maxRecDepth 100000 in
theorem g_X9_spoiledOfAll_Jx4a65c_size_8abf5_93 : GoodIn wsX9_spoiledOfAll (wsV yX9_spoiledOfAll.cls 93 RJx4a65c yJx4a65c_size_8abf5 wsJx4a65c_size_8abf5) := goodIn_r _ [3, 4, 5, 6, 7, 8, 52, 53, 54] rfl (by decide +kernel)
set_option maxRecDepth 100000 in
theorem g_X9_spoiledOfAll_Jx4a65c_get_915e3_172 : GoodIn wsX9_spoiledOfAll (wsV yX9_spoiledOfAll.cls 172 RJx4a65c yJx4a65c_get_915e3 wsJx4a65c_get_915e3) := goodIn_r _ [9, 10, 11, 6, 12, 8, 13, 14, 15, 16, 17, 18, 19, 20, 21, 22, 23, 6, 24, 25, 52, 53, 54] rfl (by decide +kernel)
theorem hi_X9_spoiledOfAll_X6 : ∀ w ∈ u_ws RX6 TX6 14, w ∈ wsX9_spoiledOfAll := fun _ h => (List.mem_cons_of_mem _ (List.mem_append_left _ (List.mem_append_right _ h)))
set_option maxRecDepth 100000 in
theorem fl_X9_spoiledOfAll_219 : bh_fl wsX9_spoiledOfAll yX9_spoiledOfAll.cls 219 "BeetHouse$Plot" "spoiled" "I" := Or.inr ⟨"BeetHouse", List.mem_of_getElem? (i := 34) rfl⟩
def f_X9_spoiledOfAll_b4 (N : Nat) : Nat → Nat → Int32 → Int32 → bh_S → Option (Int32 × bh_S)
  | 0, _, _, _, _ => none
  | n + 1, this, x1, x2, σ =>
    (bh_rdR σ 10 this 1).bind fun v1 =>
    (v1).bind fun a3 =>
    (bh_ck σ a3 0).bind fun _ =>
    bh_bnd (f_Jx4a65c_size_8abf5 a3 σ) fun v6 σ7 =>
    if v6 ≤ x2 then
      some (x1, σ7)
    else
      (bh_rdR σ7 10 this 1).bind fun v10 =>
      (v10).bind fun a12 =>
      (bh_ck σ7 a12 0).bind fun _ =>
      bh_bnd (f_Jx4a65c_get_915e3 a12 x2 σ7) fun v15 σ16 =>
      (bh_cst σ16 7 v15).bind fun _ =>
      (v15).bind fun a18 =>
      (bh_rdI σ16 7 a18 12).bind fun v20 =>
      f_X9_spoiledOfAll_b4 N n this (x1 + v20) (x2 + 1) σ16
set_option maxHeartbeats 4000000 in
set_option maxRecDepth 100000 in
theorem j_X9_spoiledOfAll_b4 (X : bh_X) (N : Nat) : ∀ (n : Nat) (this : Nat) (x1 : Int32) (x2 : Int32) (σ : bh_S), bh_J eI yX9_spoiledOfAll cX9_spoiledOfAll wsX9_spoiledOfAll (some .int) 3 3 64 X σ 4 [(0, .ref this), (1, .int x1), (2, .int x2)] [] (f_X9_spoiledOfAll_b4 N n this x1 x2 σ) := by
  intro n
  induction n with
  | zero => intro this x1 x2 σ; exact bj_none
  | succ n ih =>
    intro this x1 x2 σ
    unfold f_X9_spoiledOfAll_b4
    refine bj_iload_n dX9_spoiledOfAll_4 rfl 2 rfl ?_
    refine bj_aload_nS dX9_spoiledOfAll_5 rfl 0 rfl ?_
    refine bj_getR (ci := 10) (k := 1) (C := RX9) (T := TX9) (N := 12) rfl hi_X9_spoiledOfAll_X9 (by decide) rfl fl_X9_spoiledOfAll_18 (Or.inl rfl) dX9_spoiledOfAll_6 (fun v1 h2 => ?_)
    refine bj_nn (fun a3 h4 => ?_)
    subst h4
    refine bj_op (fun _ h5 => ?_)
    refine bj_callI (br_V (As := []) (rest := [.int x2]) (q := (RJx4a65c, TJx4a65c, 3)) (c_Jx4a65c_size_8abf5 X a3 σ) rfl g_X9_spoiledOfAll_Jx4a65c_size_8abf5_93 rfl (bh_ck_spec h5) ⟨rfl, hd_Jx4a65c_size_8abf5⟩ rfl ⟨by decide, by decide⟩ rfl (Nat.le_of_ble_eq_true rfl) dX9_spoiledOfAll_9) (fun v6 σ7 h8 => ?_)
    refine bj_icmp_ge (tgt := 38) dX9_spoiledOfAll_12 (by decide) (fun h9 => ?_) (fun h9 => ?_)
    · refine bj_iload_n dX9_spoiledOfAll_38 rfl 1 rfl ?_
      exact bj_iret dX9_spoiledOfAll_39
    · refine bj_iload_n dX9_spoiledOfAll_15 rfl 1 rfl ?_
      refine bj_aload_nS dX9_spoiledOfAll_16 rfl 0 rfl ?_
      refine bj_getR (ci := 10) (k := 1) (C := RX9) (T := TX9) (N := 12) rfl hi_X9_spoiledOfAll_X9 (by decide) rfl fl_X9_spoiledOfAll_18 (Or.inl rfl) dX9_spoiledOfAll_17 (fun v10 h11 => ?_)
      refine bj_iload_n dX9_spoiledOfAll_20 rfl 2 rfl ?_
      refine bj_nn (fun a12 h13 => ?_)
      subst h13
      refine bj_op (fun _ h14 => ?_)
      refine bj_callR (br_V (As := [.int x2]) (rest := [.int x1]) (q := (RJx4a65c, TJx4a65c, 3)) (c_Jx4a65c_get_915e3 X a12 x2 σ7) rfl g_X9_spoiledOfAll_Jx4a65c_get_915e3_172 rfl (bh_ck_spec h14) ⟨rfl, hd_Jx4a65c_get_915e3⟩ rfl ⟨by decide, by decide⟩ rfl (Nat.le_of_ble_eq_true rfl) dX9_spoiledOfAll_21) (fun v15 σ16 h17 => ?_)
      refine bj_cast (ci := 7) (C := RX6) (T := TX6) (N := 14) (o := v15) rfl (List.mem_of_getElem? (i := 2) rfl) dX9_spoiledOfAll_24 ?_
      refine bj_nn (fun a18 h19 => ?_)
      subst h19
      refine bj_getI (ci := 7) (k := 12) (C := RX6) (T := TX6) (N := 14) rfl hi_X9_spoiledOfAll_X6 (by decide) rfl fl_X9_spoiledOfAll_219 (Or.inl rfl) dX9_spoiledOfAll_27 (fun v20 h21 => ?_)
      refine bj_iadd dX9_spoiledOfAll_30 ?_
      refine bj_istore_n (lv' := [(1, .int (x1 + v20)), (0, .ref this), (2, .int x2)]) dX9_spoiledOfAll_31 rfl (by decide) rfl ?_
      refine bj_iinc (v := x2 + 1) (lv' := [(2, .int (x2 + 1)), (1, .int (x1 + v20)), (0, .ref this)]) dX9_spoiledOfAll_32 2 rfl rfl (by decide) rfl ?_
      refine bj_goto (tgt := 4) dX9_spoiledOfAll_35 (by decide) ?_
      refine bj_sub (lv' := [(0, .ref this), (1, .int (x1 + v20)), (2, .int (x2 + 1))]) [2, 1, 0] rfl ?_
      exact ih this (x1 + v20) (x2 + 1) σ16
def f_X9_spoiledOfAll (N : Nat) (this : Nat) (σ : bh_S) : Option (Int32 × bh_S) :=
  f_X9_spoiledOfAll_b4 N N this 0 0 σ
set_option maxHeartbeats 4000000 in
set_option maxRecDepth 100000 in
theorem c_X9_spoiledOfAll (X : bh_X) (N : Nat) (this : Nat) (σ : bh_S) : bh_MX eI X yX9_spoiledOfAll wsX9_spoiledOfAll 3 64 [.ref this] σ (f_X9_spoiledOfAll N this σ) := by
  refine bh_enter (cc := cX9_spoiledOfAll) (NL := 3) (ret := (some .int)) (by decide) rfl (Nat.le_of_ble_eq_true rfl) (fun X => ?_)
  show bh_J eI yX9_spoiledOfAll cX9_spoiledOfAll wsX9_spoiledOfAll (some .int) 3 3 64 X σ 0 [(0, .ref this)] [] _
  unfold f_X9_spoiledOfAll
  refine bj_iconst (v := 0) dX9_spoiledOfAll_0 (by decide) ?_
  refine bj_istore_n (lv' := [(1, .int 0), (0, .ref this)]) dX9_spoiledOfAll_1 rfl (by decide) rfl ?_
  refine bj_iconst (v := 0) dX9_spoiledOfAll_2 (by decide) ?_
  refine bj_istore_n (lv' := [(2, .int 0), (1, .int 0), (0, .ref this)]) dX9_spoiledOfAll_3 rfl (by decide) rfl ?_
  refine bj_sub (lv' := [(0, .ref this), (1, .int 0), (2, .int 0)]) [2, 1, 0] rfl ?_
  exact j_X9_spoiledOfAll_b4 X N N this 0 0 σ
/-! BeetHouse.wasteOfAll()I -/
theorem hi_X9_wasteOfAll_X9 : ∀ w ∈ u_ws RX9 TX9 12, w ∈ wsX9_wasteOfAll := fun _ h => (List.mem_cons_of_mem _ (List.mem_append_left _ (List.mem_append_left _ (List.mem_append_right _ h))))
set_option maxRecDepth 100000 in
theorem fl_X9_wasteOfAll_18 : bh_fl wsX9_wasteOfAll yX9_wasteOfAll.cls 18 "BeetHouse" "plots" "Ljava/util/ArrayList;" := Or.inl (List.mem_of_getElem? (i := 1) rfl)
set_option maxRecDepth 100000 in
theorem g_X9_wasteOfAll_Jx4a65c_size_8abf5_93 : GoodIn wsX9_wasteOfAll (wsV yX9_wasteOfAll.cls 93 RJx4a65c yJx4a65c_size_8abf5 wsJx4a65c_size_8abf5) := goodIn_r _ [3, 4, 5, 6, 7, 8, 52, 53, 54] rfl (by decide +kernel)
set_option maxRecDepth 100000 in
theorem g_X9_wasteOfAll_Jx4a65c_get_915e3_172 : GoodIn wsX9_wasteOfAll (wsV yX9_wasteOfAll.cls 172 RJx4a65c yJx4a65c_get_915e3 wsJx4a65c_get_915e3) := goodIn_r _ [9, 10, 11, 6, 12, 8, 13, 14, 15, 16, 17, 18, 19, 20, 21, 22, 23, 6, 24, 25, 52, 53, 54] rfl (by decide +kernel)
theorem hi_X9_wasteOfAll_X6 : ∀ w ∈ u_ws RX6 TX6 14, w ∈ wsX9_wasteOfAll := fun _ h => (List.mem_cons_of_mem _ (List.mem_append_left _ (List.mem_append_right _ h)))
set_option maxRecDepth 100000 in
theorem fl_X9_wasteOfAll_216 : bh_fl wsX9_wasteOfAll yX9_wasteOfAll.cls 216 "BeetHouse$Plot" "wasted" "I" := Or.inr ⟨"BeetHouse", List.mem_of_getElem? (i := 33) rfl⟩
def f_X9_wasteOfAll_b4 (N : Nat) : Nat → Nat → Int32 → Int32 → bh_S → Option (Int32 × bh_S)
  | 0, _, _, _, _ => none
  | n + 1, this, x1, x2, σ =>
    (bh_rdR σ 10 this 1).bind fun v1 =>
    (v1).bind fun a3 =>
    (bh_ck σ a3 0).bind fun _ =>
    bh_bnd (f_Jx4a65c_size_8abf5 a3 σ) fun v6 σ7 =>
    if v6 ≤ x2 then
      some (x1, σ7)
    else
      (bh_rdR σ7 10 this 1).bind fun v10 =>
      (v10).bind fun a12 =>
      (bh_ck σ7 a12 0).bind fun _ =>
      bh_bnd (f_Jx4a65c_get_915e3 a12 x2 σ7) fun v15 σ16 =>
      (bh_cst σ16 7 v15).bind fun _ =>
      (v15).bind fun a18 =>
      (bh_rdI σ16 7 a18 11).bind fun v20 =>
      f_X9_wasteOfAll_b4 N n this (x1 + v20) (x2 + 1) σ16
set_option maxHeartbeats 4000000 in
set_option maxRecDepth 100000 in
theorem j_X9_wasteOfAll_b4 (X : bh_X) (N : Nat) : ∀ (n : Nat) (this : Nat) (x1 : Int32) (x2 : Int32) (σ : bh_S), bh_J eI yX9_wasteOfAll cX9_wasteOfAll wsX9_wasteOfAll (some .int) 3 3 64 X σ 4 [(0, .ref this), (1, .int x1), (2, .int x2)] [] (f_X9_wasteOfAll_b4 N n this x1 x2 σ) := by
  intro n
  induction n with
  | zero => intro this x1 x2 σ; exact bj_none
  | succ n ih =>
    intro this x1 x2 σ
    unfold f_X9_wasteOfAll_b4
    refine bj_iload_n dX9_wasteOfAll_4 rfl 2 rfl ?_
    refine bj_aload_nS dX9_wasteOfAll_5 rfl 0 rfl ?_
    refine bj_getR (ci := 10) (k := 1) (C := RX9) (T := TX9) (N := 12) rfl hi_X9_wasteOfAll_X9 (by decide) rfl fl_X9_wasteOfAll_18 (Or.inl rfl) dX9_wasteOfAll_6 (fun v1 h2 => ?_)
    refine bj_nn (fun a3 h4 => ?_)
    subst h4
    refine bj_op (fun _ h5 => ?_)
    refine bj_callI (br_V (As := []) (rest := [.int x2]) (q := (RJx4a65c, TJx4a65c, 3)) (c_Jx4a65c_size_8abf5 X a3 σ) rfl g_X9_wasteOfAll_Jx4a65c_size_8abf5_93 rfl (bh_ck_spec h5) ⟨rfl, hd_Jx4a65c_size_8abf5⟩ rfl ⟨by decide, by decide⟩ rfl (Nat.le_of_ble_eq_true rfl) dX9_wasteOfAll_9) (fun v6 σ7 h8 => ?_)
    refine bj_icmp_ge (tgt := 38) dX9_wasteOfAll_12 (by decide) (fun h9 => ?_) (fun h9 => ?_)
    · refine bj_iload_n dX9_wasteOfAll_38 rfl 1 rfl ?_
      exact bj_iret dX9_wasteOfAll_39
    · refine bj_iload_n dX9_wasteOfAll_15 rfl 1 rfl ?_
      refine bj_aload_nS dX9_wasteOfAll_16 rfl 0 rfl ?_
      refine bj_getR (ci := 10) (k := 1) (C := RX9) (T := TX9) (N := 12) rfl hi_X9_wasteOfAll_X9 (by decide) rfl fl_X9_wasteOfAll_18 (Or.inl rfl) dX9_wasteOfAll_17 (fun v10 h11 => ?_)
      refine bj_iload_n dX9_wasteOfAll_20 rfl 2 rfl ?_
      refine bj_nn (fun a12 h13 => ?_)
      subst h13
      refine bj_op (fun _ h14 => ?_)
      refine bj_callR (br_V (As := [.int x2]) (rest := [.int x1]) (q := (RJx4a65c, TJx4a65c, 3)) (c_Jx4a65c_get_915e3 X a12 x2 σ7) rfl g_X9_wasteOfAll_Jx4a65c_get_915e3_172 rfl (bh_ck_spec h14) ⟨rfl, hd_Jx4a65c_get_915e3⟩ rfl ⟨by decide, by decide⟩ rfl (Nat.le_of_ble_eq_true rfl) dX9_wasteOfAll_21) (fun v15 σ16 h17 => ?_)
      refine bj_cast (ci := 7) (C := RX6) (T := TX6) (N := 14) (o := v15) rfl (List.mem_of_getElem? (i := 2) rfl) dX9_wasteOfAll_24 ?_
      refine bj_nn (fun a18 h19 => ?_)
      subst h19
      refine bj_getI (ci := 7) (k := 11) (C := RX6) (T := TX6) (N := 14) rfl hi_X9_wasteOfAll_X6 (by decide) rfl fl_X9_wasteOfAll_216 (Or.inl rfl) dX9_wasteOfAll_27 (fun v20 h21 => ?_)
      refine bj_iadd dX9_wasteOfAll_30 ?_
      refine bj_istore_n (lv' := [(1, .int (x1 + v20)), (0, .ref this), (2, .int x2)]) dX9_wasteOfAll_31 rfl (by decide) rfl ?_
      refine bj_iinc (v := x2 + 1) (lv' := [(2, .int (x2 + 1)), (1, .int (x1 + v20)), (0, .ref this)]) dX9_wasteOfAll_32 2 rfl rfl (by decide) rfl ?_
      refine bj_goto (tgt := 4) dX9_wasteOfAll_35 (by decide) ?_
      refine bj_sub (lv' := [(0, .ref this), (1, .int (x1 + v20)), (2, .int (x2 + 1))]) [2, 1, 0] rfl ?_
      exact ih this (x1 + v20) (x2 + 1) σ16
def f_X9_wasteOfAll (N : Nat) (this : Nat) (σ : bh_S) : Option (Int32 × bh_S) :=
  f_X9_wasteOfAll_b4 N N this 0 0 σ
set_option maxHeartbeats 4000000 in
set_option maxRecDepth 100000 in
theorem c_X9_wasteOfAll (X : bh_X) (N : Nat) (this : Nat) (σ : bh_S) : bh_MX eI X yX9_wasteOfAll wsX9_wasteOfAll 3 64 [.ref this] σ (f_X9_wasteOfAll N this σ) := by
  refine bh_enter (cc := cX9_wasteOfAll) (NL := 3) (ret := (some .int)) (by decide) rfl (Nat.le_of_ble_eq_true rfl) (fun X => ?_)
  show bh_J eI yX9_wasteOfAll cX9_wasteOfAll wsX9_wasteOfAll (some .int) 3 3 64 X σ 0 [(0, .ref this)] [] _
  unfold f_X9_wasteOfAll
  refine bj_iconst (v := 0) dX9_wasteOfAll_0 (by decide) ?_
  refine bj_istore_n (lv' := [(1, .int 0), (0, .ref this)]) dX9_wasteOfAll_1 rfl (by decide) rfl ?_
  refine bj_iconst (v := 0) dX9_wasteOfAll_2 (by decide) ?_
  refine bj_istore_n (lv' := [(2, .int 0), (1, .int 0), (0, .ref this)]) dX9_wasteOfAll_3 rfl (by decide) rfl ?_
  refine bj_sub (lv' := [(0, .ref this), (1, .int 0), (2, .int 0)]) [2, 1, 0] rfl ?_
  exact j_X9_wasteOfAll_b4 X N N this 0 0 σ
/-! BeetHouse.count(I)I -/
theorem hi_X9_count_X9 : ∀ w ∈ u_ws RX9 TX9 12, w ∈ wsX9_count := fun _ h => (List.mem_cons_of_mem _ (List.mem_append_left _ (List.mem_append_left _ (List.mem_append_left _ (List.mem_append_left _ (List.mem_append_right _ h))))))
set_option maxRecDepth 100000 in
theorem fl_X9_count_63 : bh_fl wsX9_count yX9_count.cls 63 "BeetHouse" "refusals" "[I" := Or.inl (List.mem_of_getElem? (i := 1) rfl)
set_option maxRecDepth 100000 in
theorem fl_X9_count_70 : bh_fl wsX9_count yX9_count.cls 70 "BeetHouse" "hour" "I" := Or.inl (List.mem_of_getElem? (i := 2) rfl)
set_option maxRecDepth 100000 in
theorem fl_X9_count_18 : bh_fl wsX9_count yX9_count.cls 18 "BeetHouse" "plots" "Ljava/util/ArrayList;" := Or.inl (List.mem_of_getElem? (i := 3) rfl)
set_option maxRecDepth 100000 in
theorem g_X9_count_Jx4a65c_size_8abf5_93 : GoodIn wsX9_count (wsV yX9_count.cls 93 RJx4a65c yJx4a65c_size_8abf5 wsJx4a65c_size_8abf5) := goodIn_r _ [8, 9, 10, 11, 12, 13, 62, 63, 64] rfl (by decide +kernel)
set_option maxRecDepth 100000 in
theorem fl_X9_count_28 : bh_fl wsX9_count yX9_count.cls 28 "BeetHouse" "lorries" "Ljava/util/ArrayList;" := Or.inl (List.mem_of_getElem? (i := 4) rfl)
set_option maxRecDepth 100000 in
theorem fl_X9_count_41 : bh_fl wsX9_count yX9_count.cls 41 "BeetHouse" "yard" "LBeetHouse$Yard;" := Or.inl (List.mem_of_getElem? (i := 5) rfl)
theorem hi_X9_count_X8 : ∀ w ∈ u_ws RX8 TX8 4, w ∈ wsX9_count := fun _ h => (List.mem_cons_of_mem _ (List.mem_append_left _ (List.mem_append_left _ (List.mem_append_left _ (List.mem_append_right _ h)))))
set_option maxRecDepth 100000 in
theorem fl_X9_count_251 : bh_fl wsX9_count yX9_count.cls 251 "BeetHouse$Yard" "roots" "I" := Or.inr ⟨"BeetHouse", List.mem_of_getElem? (i := 6) rfl⟩
set_option maxRecDepth 100000 in
theorem fl_X9_count_48 : bh_fl wsX9_count yX9_count.cls 48 "BeetHouse" "mill" "LBeetHouse$Mill;" := Or.inl (List.mem_of_getElem? (i := 6) rfl)
theorem hi_X9_count_X4 : ∀ w ∈ u_ws RX4 TX4 5, w ∈ wsX9_count := fun _ h => (List.mem_cons_of_mem _ (List.mem_append_left _ (List.mem_append_left _ (List.mem_append_right _ h))))
set_option maxRecDepth 100000 in
theorem fl_X9_count_184 : bh_fl wsX9_count yX9_count.cls 184 "BeetHouse$Mill" "eaten" "I" := Or.inr ⟨"BeetHouse", List.mem_of_getElem? (i := 9) rfl⟩
set_option maxRecDepth 100000 in
theorem fl_X9_count_252 : bh_fl wsX9_count yX9_count.cls 252 "BeetHouse$Mill" "sugarWon" "I" := Or.inr ⟨"BeetHouse", List.mem_of_getElem? (i := 10) rfl⟩
set_option maxRecDepth 100000 in
theorem fl_X9_count_255 : bh_fl wsX9_count yX9_count.cls 255 "BeetHouse$Mill" "stood" "I" := Or.inr ⟨"BeetHouse", List.mem_of_getElem? (i := 11) rfl⟩
set_option maxRecDepth 100000 in
theorem fl_X9_count_258 : bh_fl wsX9_count yX9_count.cls 258 "BeetHouse$Mill" "lack" "I" := Or.inr ⟨"BeetHouse", List.mem_of_getElem? (i := 12) rfl⟩
set_option maxRecDepth 100000 in
theorem g_X9_count_X9_wasteOfAll_261 : GoodIn wsX9_count (wsV yX9_count.cls 261 RX9 yX9_wasteOfAll wsX9_wasteOfAll) := goodIn_r _ [14, 15, 16, 17, 18, 3, 19, 8, 9, 10, 11, 12, 13, 20, 21, 22, 23, 24, 25, 26, 27, 28, 29, 30, 31, 32, 33, 34, 35, 36, 41, 42, 43, 44, 45, 46, 47, 48, 49, 50, 51, 52, 65, 66, 67, 68, 69, 70, 71, 72, 73, 74, 75, 76, 77, 78, 62, 63, 64] rfl (by decide +kernel)
set_option maxRecDepth 100000 in
theorem g_X9_count_X9_spoiledOfAll_264 : GoodIn wsX9_count (wsV yX9_count.cls 264 RX9 yX9_spoiledOfAll wsX9_spoiledOfAll) := goodIn_r _ [37, 38, 39, 17, 40, 3, 19, 8, 9, 10, 11, 12, 13, 20, 21, 22, 23, 24, 25, 26, 27, 28, 29, 30, 31, 32, 33, 34, 35, 36, 41, 42, 43, 44, 45, 46, 47, 48, 49, 50, 51, 52, 65, 66, 67, 68, 69, 70, 71, 72, 73, 74, 75, 76, 77, 78, 62, 63, 64] rfl (by decide +kernel)
set_option maxRecDepth 100000 in
theorem fl_X9_count_66 : bh_fl wsX9_count yX9_count.cls 66 "BeetHouse" "freezing" "Z" := Or.inl (List.mem_of_getElem? (i := 7) rfl)
def f_X9_count_b22 (N : Nat) (this : Nat) (x1 : Int32) (σ : bh_S) : Option (Int32 × bh_S) :=
  if x1 = 0 then
    (bh_rdI σ 10 this 11).bind fun v2 =>
    some (v2, σ)
  else
  if x1 = 1 then
    (bh_rdR σ 10 this 1).bind fun v5 =>
    (v5).bind fun a7 =>
    (bh_ck σ a7 0).bind fun _ =>
    bh_bnd (f_Jx4a65c_size_8abf5 a7 σ) fun v10 σ11 =>
    some (v10, σ11)
  else
  if x1 = 2 then
    (bh_rdR σ 10 this 3).bind fun v14 =>
    (v14).bind fun a16 =>
    (bh_ck σ a16 0).bind fun _ =>
    bh_bnd (f_Jx4a65c_size_8abf5 a16 σ) fun v19 σ20 =>
    some (v19, σ20)
  else
  if x1 = 3 then
    (bh_rdR σ 10 this 5).bind fun v23 =>
    (v23).bind fun a25 =>
    (bh_rdI σ 9 a25 2).bind fun v27 =>
    some (v27, σ)
  else
  if x1 = 4 then
    (bh_rdR σ 10 this 6).bind fun v30 =>
    (v30).bind fun a32 =>
    (bh_rdI σ 5 a32 1).bind fun v34 =>
    some (v34, σ)
  else
  if x1 = 5 then
    (bh_rdR σ 10 this 6).bind fun v37 =>
    (v37).bind fun a39 =>
    (bh_rdI σ 5 a39 2).bind fun v41 =>
    some (v41, σ)
  else
  if x1 = 6 then
    (bh_rdR σ 10 this 6).bind fun v44 =>
    (v44).bind fun a46 =>
    (bh_rdI σ 5 a46 3).bind fun v48 =>
    some (v48, σ)
  else
  if x1 = 7 then
    (bh_rdR σ 10 this 6).bind fun v51 =>
    (v51).bind fun a53 =>
    (bh_rdI σ 5 a53 4).bind fun v55 =>
    some (v55, σ)
  else
  if x1 = 8 then
    (bh_ck σ this 10).bind fun _ =>
    bh_bnd (f_X9_wasteOfAll N this σ) fun v59 σ60 =>
    some (v59, σ60)
  else
  if x1 = 9 then
    (bh_ck σ this 10).bind fun _ =>
    bh_bnd (f_X9_spoiledOfAll N this σ) fun v64 σ65 =>
    some (v64, σ65)
  else
  if x1 = 10 then
    some ((-9), σ)
  else
  if x1 = 11 then
    some ((-9), σ)
  else
  if x1 = 12 then
    some ((-9), σ)
  else
  if x1 = 13 then
    some ((-9), σ)
  else
  if x1 = 14 then
    some ((-9), σ)
  else
  if x1 = 15 then
    some ((-9), σ)
  else
  if x1 = 16 then
    some ((-9), σ)
  else
  if x1 = 17 then
    (bh_rdI σ 10 this 10).bind fun v75 =>
    if v75 = 0 then
      some (0, σ)
    else
      some (1, σ)
  else
    some ((-9), σ)
set_option maxHeartbeats 4000000 in
set_option maxRecDepth 100000 in
theorem j_X9_count_b22 (X : bh_X) (N : Nat) (this : Nat) (x1 : Int32) (σ : bh_S) : bh_J eI yX9_count cX9_count wsX9_count (some .int) 2 4 86 X σ 22 [(0, .ref this), (1, .int x1)] [] (f_X9_count_b22 N this x1 σ) := by
  unfold f_X9_count_b22
  refine bj_iload_n dX9_count_22 rfl 1 rfl ?_
  refine bj_ite (fun h1 => ?_) (fun h1 => ?_)
  · refine bj_tblIn (tgt := 108) (kv := 0) (off := 85) dX9_count_23 h1 (by decide) (by decide) rfl (by decide) ?_
    refine bj_aload_nS dX9_count_108 rfl 0 rfl ?_
    refine bj_getI (ci := 10) (k := 11) (C := RX9) (T := TX9) (N := 12) rfl hi_X9_count_X9 (by decide) rfl fl_X9_count_70 (Or.inl rfl) dX9_count_109 (fun v2 h3 => ?_)
    exact bj_iret dX9_count_112
  refine bj_ite (fun h4 => ?_) (fun h4 => ?_)
  · refine bj_tblIn (tgt := 113) (kv := 1) (off := 90) dX9_count_23 h4 (by decide) (by decide) rfl (by decide) ?_
    refine bj_aload_nS dX9_count_113 rfl 0 rfl ?_
    refine bj_getR (ci := 10) (k := 1) (C := RX9) (T := TX9) (N := 12) rfl hi_X9_count_X9 (by decide) rfl fl_X9_count_18 (Or.inl rfl) dX9_count_114 (fun v5 h6 => ?_)
    refine bj_nn (fun a7 h8 => ?_)
    subst h8
    refine bj_op (fun _ h9 => ?_)
    refine bj_callI (br_V (As := []) (rest := []) (q := (RJx4a65c, TJx4a65c, 3)) (c_Jx4a65c_size_8abf5 X a7 σ) rfl g_X9_count_Jx4a65c_size_8abf5_93 rfl (bh_ck_spec h9) ⟨rfl, hd_Jx4a65c_size_8abf5⟩ rfl ⟨by decide, by decide⟩ rfl (Nat.le_of_ble_eq_true rfl) dX9_count_117) (fun v10 σ11 h12 => ?_)
    exact bj_iret dX9_count_120
  refine bj_ite (fun h13 => ?_) (fun h13 => ?_)
  · refine bj_tblIn (tgt := 121) (kv := 2) (off := 98) dX9_count_23 h13 (by decide) (by decide) rfl (by decide) ?_
    refine bj_aload_nS dX9_count_121 rfl 0 rfl ?_
    refine bj_getR (ci := 10) (k := 3) (C := RX9) (T := TX9) (N := 12) rfl hi_X9_count_X9 (by decide) rfl fl_X9_count_28 (Or.inl rfl) dX9_count_122 (fun v14 h15 => ?_)
    refine bj_nn (fun a16 h17 => ?_)
    subst h17
    refine bj_op (fun _ h18 => ?_)
    refine bj_callI (br_V (As := []) (rest := []) (q := (RJx4a65c, TJx4a65c, 3)) (c_Jx4a65c_size_8abf5 X a16 σ) rfl g_X9_count_Jx4a65c_size_8abf5_93 rfl (bh_ck_spec h18) ⟨rfl, hd_Jx4a65c_size_8abf5⟩ rfl ⟨by decide, by decide⟩ rfl (Nat.le_of_ble_eq_true rfl) dX9_count_125) (fun v19 σ20 h21 => ?_)
    exact bj_iret dX9_count_128
  refine bj_ite (fun h22 => ?_) (fun h22 => ?_)
  · refine bj_tblIn (tgt := 129) (kv := 3) (off := 106) dX9_count_23 h22 (by decide) (by decide) rfl (by decide) ?_
    refine bj_aload_nS dX9_count_129 rfl 0 rfl ?_
    refine bj_getR (ci := 10) (k := 5) (C := RX9) (T := TX9) (N := 12) rfl hi_X9_count_X9 (by decide) rfl fl_X9_count_41 (Or.inl rfl) dX9_count_130 (fun v23 h24 => ?_)
    refine bj_nn (fun a25 h26 => ?_)
    subst h26
    refine bj_getI (ci := 9) (k := 2) (C := RX8) (T := TX8) (N := 4) rfl hi_X9_count_X8 (by decide) rfl fl_X9_count_251 (Or.inl rfl) dX9_count_133 (fun v27 h28 => ?_)
    exact bj_iret dX9_count_136
  refine bj_ite (fun h29 => ?_) (fun h29 => ?_)
  · refine bj_tblIn (tgt := 137) (kv := 4) (off := 114) dX9_count_23 h29 (by decide) (by decide) rfl (by decide) ?_
    refine bj_aload_nS dX9_count_137 rfl 0 rfl ?_
    refine bj_getR (ci := 10) (k := 6) (C := RX9) (T := TX9) (N := 12) rfl hi_X9_count_X9 (by decide) rfl fl_X9_count_48 (Or.inl rfl) dX9_count_138 (fun v30 h31 => ?_)
    refine bj_nn (fun a32 h33 => ?_)
    subst h33
    refine bj_getI (ci := 5) (k := 1) (C := RX4) (T := TX4) (N := 5) rfl hi_X9_count_X4 (by decide) rfl fl_X9_count_184 (Or.inl rfl) dX9_count_141 (fun v34 h35 => ?_)
    exact bj_iret dX9_count_144
  refine bj_ite (fun h36 => ?_) (fun h36 => ?_)
  · refine bj_tblIn (tgt := 145) (kv := 5) (off := 122) dX9_count_23 h36 (by decide) (by decide) rfl (by decide) ?_
    refine bj_aload_nS dX9_count_145 rfl 0 rfl ?_
    refine bj_getR (ci := 10) (k := 6) (C := RX9) (T := TX9) (N := 12) rfl hi_X9_count_X9 (by decide) rfl fl_X9_count_48 (Or.inl rfl) dX9_count_146 (fun v37 h38 => ?_)
    refine bj_nn (fun a39 h40 => ?_)
    subst h40
    refine bj_getI (ci := 5) (k := 2) (C := RX4) (T := TX4) (N := 5) rfl hi_X9_count_X4 (by decide) rfl fl_X9_count_252 (Or.inl rfl) dX9_count_149 (fun v41 h42 => ?_)
    exact bj_iret dX9_count_152
  refine bj_ite (fun h43 => ?_) (fun h43 => ?_)
  · refine bj_tblIn (tgt := 153) (kv := 6) (off := 130) dX9_count_23 h43 (by decide) (by decide) rfl (by decide) ?_
    refine bj_aload_nS dX9_count_153 rfl 0 rfl ?_
    refine bj_getR (ci := 10) (k := 6) (C := RX9) (T := TX9) (N := 12) rfl hi_X9_count_X9 (by decide) rfl fl_X9_count_48 (Or.inl rfl) dX9_count_154 (fun v44 h45 => ?_)
    refine bj_nn (fun a46 h47 => ?_)
    subst h47
    refine bj_getI (ci := 5) (k := 3) (C := RX4) (T := TX4) (N := 5) rfl hi_X9_count_X4 (by decide) rfl fl_X9_count_255 (Or.inl rfl) dX9_count_157 (fun v48 h49 => ?_)
    exact bj_iret dX9_count_160
  refine bj_ite (fun h50 => ?_) (fun h50 => ?_)
  · refine bj_tblIn (tgt := 161) (kv := 7) (off := 138) dX9_count_23 h50 (by decide) (by decide) rfl (by decide) ?_
    refine bj_aload_nS dX9_count_161 rfl 0 rfl ?_
    refine bj_getR (ci := 10) (k := 6) (C := RX9) (T := TX9) (N := 12) rfl hi_X9_count_X9 (by decide) rfl fl_X9_count_48 (Or.inl rfl) dX9_count_162 (fun v51 h52 => ?_)
    refine bj_nn (fun a53 h54 => ?_)
    subst h54
    refine bj_getI (ci := 5) (k := 4) (C := RX4) (T := TX4) (N := 5) rfl hi_X9_count_X4 (by decide) rfl fl_X9_count_258 (Or.inl rfl) dX9_count_165 (fun v55 h56 => ?_)
    exact bj_iret dX9_count_168
  refine bj_ite (fun h57 => ?_) (fun h57 => ?_)
  · refine bj_tblIn (tgt := 169) (kv := 8) (off := 146) dX9_count_23 h57 (by decide) (by decide) rfl (by decide) ?_
    refine bj_aload_nS dX9_count_169 rfl 0 rfl ?_
    refine bj_op (fun _ h58 => ?_)
    refine bj_callI (br_V (As := []) (rest := []) (q := (RX9, TX9, 12)) (c_X9_wasteOfAll X N this σ) rfl g_X9_count_X9_wasteOfAll_261 rfl (bh_ck_spec h58) ⟨rfl, hd_X9_wasteOfAll⟩ rfl ⟨by decide, by decide⟩ rfl (Nat.le_of_ble_eq_true rfl) dX9_count_170) (fun v59 σ60 h61 => ?_)
    exact bj_iret dX9_count_173
  refine bj_ite (fun h62 => ?_) (fun h62 => ?_)
  · refine bj_tblIn (tgt := 174) (kv := 9) (off := 151) dX9_count_23 h62 (by decide) (by decide) rfl (by decide) ?_
    refine bj_aload_nS dX9_count_174 rfl 0 rfl ?_
    refine bj_op (fun _ h63 => ?_)
    refine bj_callI (br_V (As := []) (rest := []) (q := (RX9, TX9, 12)) (c_X9_spoiledOfAll X N this σ) rfl g_X9_count_X9_spoiledOfAll_264 rfl (bh_ck_spec h63) ⟨rfl, hd_X9_spoiledOfAll⟩ rfl ⟨by decide, by decide⟩ rfl (Nat.le_of_ble_eq_true rfl) dX9_count_175) (fun v64 σ65 h66 => ?_)
    exact bj_iret dX9_count_178
  refine bj_ite (fun h67 => ?_) (fun h67 => ?_)
  · refine bj_tblIn (tgt := 192) (kv := 10) (off := 169) dX9_count_23 h67 (by decide) (by decide) rfl (by decide) ?_
    refine bj_bipush (v := (-9)) dX9_count_192 (by decide) ?_
    exact bj_iret dX9_count_194
  refine bj_ite (fun h68 => ?_) (fun h68 => ?_)
  · refine bj_tblIn (tgt := 192) (kv := 11) (off := 169) dX9_count_23 h68 (by decide) (by decide) rfl (by decide) ?_
    refine bj_bipush (v := (-9)) dX9_count_192 (by decide) ?_
    exact bj_iret dX9_count_194
  refine bj_ite (fun h69 => ?_) (fun h69 => ?_)
  · refine bj_tblIn (tgt := 192) (kv := 12) (off := 169) dX9_count_23 h69 (by decide) (by decide) rfl (by decide) ?_
    refine bj_bipush (v := (-9)) dX9_count_192 (by decide) ?_
    exact bj_iret dX9_count_194
  refine bj_ite (fun h70 => ?_) (fun h70 => ?_)
  · refine bj_tblIn (tgt := 192) (kv := 13) (off := 169) dX9_count_23 h70 (by decide) (by decide) rfl (by decide) ?_
    refine bj_bipush (v := (-9)) dX9_count_192 (by decide) ?_
    exact bj_iret dX9_count_194
  refine bj_ite (fun h71 => ?_) (fun h71 => ?_)
  · refine bj_tblIn (tgt := 192) (kv := 14) (off := 169) dX9_count_23 h71 (by decide) (by decide) rfl (by decide) ?_
    refine bj_bipush (v := (-9)) dX9_count_192 (by decide) ?_
    exact bj_iret dX9_count_194
  refine bj_ite (fun h72 => ?_) (fun h72 => ?_)
  · refine bj_tblIn (tgt := 192) (kv := 15) (off := 169) dX9_count_23 h72 (by decide) (by decide) rfl (by decide) ?_
    refine bj_bipush (v := (-9)) dX9_count_192 (by decide) ?_
    exact bj_iret dX9_count_194
  refine bj_ite (fun h73 => ?_) (fun h73 => ?_)
  · refine bj_tblIn (tgt := 192) (kv := 16) (off := 169) dX9_count_23 h73 (by decide) (by decide) rfl (by decide) ?_
    refine bj_bipush (v := (-9)) dX9_count_192 (by decide) ?_
    exact bj_iret dX9_count_194
  refine bj_ite (fun h74 => ?_) (fun h74 => ?_)
  · refine bj_tblIn (tgt := 179) (kv := 17) (off := 156) dX9_count_23 h74 (by decide) (by decide) rfl (by decide) ?_
    refine bj_aload_nS dX9_count_179 rfl 0 rfl ?_
    refine bj_getI (ci := 10) (k := 10) (C := RX9) (T := TX9) (N := 12) rfl hi_X9_count_X9 (by decide) rfl fl_X9_count_66 (Or.inl rfl) dX9_count_180 (fun v75 h76 => ?_)
    refine bj_if_eq (tgt := 190) dX9_count_183 (by decide) (fun h77 => ?_) (fun h77 => ?_)
    · refine bj_iconst (v := 0) dX9_count_190 (by decide) ?_
      exact bj_iret dX9_count_191
    · refine bj_iconst (v := 1) dX9_count_186 (by decide) ?_
      refine bj_goto (tgt := 191) dX9_count_187 (by decide) ?_
      exact bj_iret dX9_count_191
  refine bj_tblOut (tgt := 192) dX9_count_23 (by have h1n := lv_neT h1 (show (0 : Int32).toInt = 0 by decide); have h4n := lv_neT h4 (show (1 : Int32).toInt = 1 by decide); have h13n := lv_neT h13 (show (2 : Int32).toInt = 2 by decide); have h22n := lv_neT h22 (show (3 : Int32).toInt = 3 by decide); have h29n := lv_neT h29 (show (4 : Int32).toInt = 4 by decide); have h36n := lv_neT h36 (show (5 : Int32).toInt = 5 by decide); have h43n := lv_neT h43 (show (6 : Int32).toInt = 6 by decide); have h50n := lv_neT h50 (show (7 : Int32).toInt = 7 by decide); have h57n := lv_neT h57 (show (8 : Int32).toInt = 8 by decide); have h62n := lv_neT h62 (show (9 : Int32).toInt = 9 by decide); have h67n := lv_neT h67 (show (10 : Int32).toInt = 10 by decide); have h68n := lv_neT h68 (show (11 : Int32).toInt = 11 by decide); have h69n := lv_neT h69 (show (12 : Int32).toInt = 12 by decide); have h70n := lv_neT h70 (show (13 : Int32).toInt = 13 by decide); have h71n := lv_neT h71 (show (14 : Int32).toInt = 14 by decide); have h72n := lv_neT h72 (show (15 : Int32).toInt = 15 by decide); have h73n := lv_neT h73 (show (16 : Int32).toInt = 16 by decide); have h74n := lv_neT h74 (show (17 : Int32).toInt = 17 by decide); omega) (by decide) ?_
  refine bj_bipush (v := (-9)) dX9_count_192 (by decide) ?_
  exact bj_iret dX9_count_194
def f_X9_count (N : Nat) (this : Nat) (p1 : Int32) (σ : bh_S) : Option (Int32 × bh_S) :=
  if p1 < 11 then
    f_X9_count_b22 N this p1 σ
  else
    if 16 < p1 then
      f_X9_count_b22 N this p1 σ
    else
      (bh_rdR σ 10 this 9).bind fun v3 =>
      (v3).bind fun a5 =>
      (bh_ldI σ 12 a5 (p1 - 10)).bind fun v7 =>
      some (v7, σ)
set_option maxHeartbeats 4000000 in
set_option maxRecDepth 100000 in
theorem c_X9_count (X : bh_X) (N : Nat) (this : Nat) (p1 : Int32) (σ : bh_S) : bh_MX eI X yX9_count wsX9_count 4 86 [.ref this, .int p1] σ (f_X9_count N this p1 σ) := by
  refine bh_enter (cc := cX9_count) (NL := 2) (ret := (some .int)) (by decide) rfl (Nat.le_of_ble_eq_true rfl) (fun X => ?_)
  show bh_J eI yX9_count cX9_count wsX9_count (some .int) 2 4 86 X σ 0 [(0, .ref this), (1, .int p1)] [] _
  unfold f_X9_count
  refine bj_iload_n dX9_count_0 rfl 1 rfl ?_
  refine bj_bipush (v := 11) dX9_count_1 (by decide) ?_
  refine bj_icmp_lt (tgt := 22) dX9_count_3 (by decide) (fun h1 => ?_) (fun h1 => ?_)
  · refine bj_sub (lv' := [(0, .ref this), (1, .int p1)]) [0, 1] rfl ?_
    exact j_X9_count_b22 X N this p1 σ
  · refine bj_iload_n dX9_count_6 rfl 1 rfl ?_
    refine bj_bipush (v := 16) dX9_count_7 (by decide) ?_
    refine bj_icmp_gt (tgt := 22) dX9_count_9 (by decide) (fun h2 => ?_) (fun h2 => ?_)
    · refine bj_sub (lv' := [(0, .ref this), (1, .int p1)]) [0, 1] rfl ?_
      exact j_X9_count_b22 X N this p1 σ
    · refine bj_aload_nS dX9_count_12 rfl 0 rfl ?_
      refine bj_getR (ci := 10) (k := 9) (C := RX9) (T := TX9) (N := 12) rfl hi_X9_count_X9 (by decide) rfl fl_X9_count_63 (Or.inl rfl) dX9_count_13 (fun v3 h4 => ?_)
      refine bj_iload_n dX9_count_16 rfl 1 rfl ?_
      refine bj_bipush (v := 10) dX9_count_17 (by decide) ?_
      refine bj_isub dX9_count_19 ?_
      refine bj_nn (fun a5 h6 => ?_)
      subst h6
      refine bj_iald dX9_count_20 (fun v7 h8 => ?_)
      exact bj_iret dX9_count_21
