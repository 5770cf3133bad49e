/-! jdk/internal/util/Preconditions.checkIndex(IILjava/util/function/BiFunction;)I -/
def f_J3_checkIndex_8e157 (p0 : Int32) (p1 : Int32) (p2 : Option Nat) (σ : bh_S) : Option (Int32 × bh_S) :=
  if p0 < 0 then
    none
  else
    if p0 < p1 then
      some (p0, σ)
    else
      none
set_option maxHeartbeats 4000000 in
set_option maxRecDepth 100000 in
theorem c_J3_checkIndex_8e157 (X : bh_X) (p0 : Int32) (p1 : Int32) (p2 : Option Nat) (σ : bh_S) : bh_MX eI X yJ3_checkIndex_8e157 wsJ3_checkIndex_8e157 0 0 [.int p0, .int p1, va_rf p2] σ (f_J3_checkIndex_8e157 p0 p1 p2 σ) := by
  refine bh_enterF (cc := cJ3_checkIndex_8e157) (NL := 3) (ret := (some .int)) (by decide) rfl (by cases p2 <;> exact Nat.le_of_ble_eq_true rfl) (fun X => ?_)
  show bh_J eI yJ3_checkIndex_8e157 cJ3_checkIndex_8e157 wsJ3_checkIndex_8e157 (some .int) 3 0 0 X σ 0 [(0, .int p0), (1, .int p1), (2, va_rf p2)] [] _
  unfold f_J3_checkIndex_8e157
  refine bj_iload_n dJ3_checkIndex_8e157_0 rfl 0 rfl ?_
  refine bj_if_lt (tgt := 9) dJ3_checkIndex_8e157_1 (by decide) (fun h1 => ?_) (fun h1 => ?_)
  · exact bj_none
  · refine bj_iload_n dJ3_checkIndex_8e157_4 rfl 0 rfl ?_
    refine bj_iload_n dJ3_checkIndex_8e157_5 rfl 1 rfl ?_
    refine bj_icmp_lt (tgt := 16) dJ3_checkIndex_8e157_6 (by decide) (fun h2 => ?_) (fun h2 => ?_)
    · refine bj_iload_n dJ3_checkIndex_8e157_16 rfl 0 rfl ?_
      exact bj_iret dJ3_checkIndex_8e157_17
    · exact bj_none
/-! java/util/Objects.checkIndex(II)I -/
set_option maxRecDepth 100000 in
theorem g_J15_checkIndex_7cf53_J3_checkIndex_8e157_105 : GoodIn wsJ15_checkIndex_7cf53 (va_wsS yJ15_checkIndex_7cf53.cls 105 yJ3_checkIndex_8e157 wsJ3_checkIndex_8e157) := goodIn_r _ [1, 2, 3, 4] rfl (by decide +kernel)
def f_J15_checkIndex_7cf53 (p0 : Int32) (p1 : Int32) (σ : bh_S) : Option (Int32 × bh_S) :=
  bh_bnd (f_J3_checkIndex_8e157 p0 p1 none σ) fun v1 σ2 =>
  some (v1, σ2)
set_option maxHeartbeats 4000000 in
set_option maxRecDepth 100000 in
theorem c_J15_checkIndex_7cf53 (X : bh_X) (p0 : Int32) (p1 : Int32) (σ : bh_S) : bh_MX eI X yJ15_checkIndex_7cf53 wsJ15_checkIndex_7cf53 1 22 [.int p0, .int p1] σ (f_J15_checkIndex_7cf53 p0 p1 σ) := by
  refine bh_enterF (cc := cJ15_checkIndex_7cf53) (NL := 2) (ret := (some .int)) (by decide) rfl (Nat.le_of_ble_eq_true rfl) (fun X => ?_)
  show bh_J eI yJ15_checkIndex_7cf53 cJ15_checkIndex_7cf53 wsJ15_checkIndex_7cf53 (some .int) 2 1 22 X σ 0 [(0, .int p0), (1, .int p1)] [] _
  unfold f_J15_checkIndex_7cf53
  refine bj_iload_n dJ15_checkIndex_7cf53_0 rfl 0 rfl ?_
  refine bj_iload_n dJ15_checkIndex_7cf53_1 rfl 1 rfl ?_
  refine bj_null dJ15_checkIndex_7cf53_2 ?_
  refine bj_callI (br_S (As := [.int p0, .int p1, va_rf none]) (rest := []) (c_J3_checkIndex_8e157 X p0 p1 none σ) rfl g_J15_checkIndex_7cf53_J3_checkIndex_8e157_105 hd_J3_checkIndex_8e157 rfl ⟨by decide, by decide⟩ rfl (Nat.le_of_ble_eq_true rfl) dJ15_checkIndex_7cf53_3) (fun v1 σ2 h3 => ?_)
  exact bj_iret dJ15_checkIndex_7cf53_6
/-! java/util/ArrayList.elementData(I)Ljava/lang/Object; -/
theorem hi_Jx4a65c_elementData_915e3_Jx4a65c : ∀ w ∈ u_ws RJx4a65c TJx4a65c 3, w ∈ wsJx4a65c_elementData_915e3 := fun _ h => (List.mem_cons_of_mem _ (List.mem_append_right _ h))
set_option maxRecDepth 100000 in
theorem fl_Jx4a65c_elementData_915e3_9 : bh_fl wsJx4a65c_elementData_915e3 yJx4a65c_elementData_915e3.cls 9 "java/util/ArrayList" "elementData" "[Ljava/lang/Object;" := Or.inl (List.mem_of_getElem? (i := 1) rfl)
def f_Jx4a65c_elementData_915e3 (this : Nat) (p1 : Int32) (σ : bh_S) : Option (Option Nat × bh_S) :=
  (bh_rdR σ 0 this 1).bind fun v1 =>
  (v1).bind fun a3 =>
  (bh_ldR σ 16 a3 p1).bind fun v5 =>
  some (v5, σ)
set_option maxHeartbeats 4000000 in
set_option maxRecDepth 100000 in
theorem c_Jx4a65c_elementData_915e3 (X : bh_X) (this : Nat) (p1 : Int32) (σ : bh_S) : bh_MX eR X yJx4a65c_elementData_915e3 wsJx4a65c_elementData_915e3 0 0 [.ref this, .int p1] σ (f_Jx4a65c_elementData_915e3 this p1 σ) := by
  refine bh_enterF (cc := cJx4a65c_elementData_915e3) (NL := 2) (ret := (some (.object "java/lang/Object"))) (by decide) rfl (Nat.le_of_ble_eq_true rfl) (fun X => ?_)
  show bh_J eR yJx4a65c_elementData_915e3 cJx4a65c_elementData_915e3 wsJx4a65c_elementData_915e3 (some (.object "java/lang/Object")) 2 0 0 X σ 0 [(0, .ref this), (1, .int p1)] [] _
  unfold f_Jx4a65c_elementData_915e3
  refine bj_aload_nS dJx4a65c_elementData_915e3_0 rfl 0 rfl ?_
  refine bj_getR (ci := 0) (k := 1) (C := RJx4a65c) (T := TJx4a65c) (N := 3) rfl hi_Jx4a65c_elementData_915e3_Jx4a65c (by decide) rfl fl_Jx4a65c_elementData_915e3_9 (Or.inl rfl) dJx4a65c_elementData_915e3_1 (fun v1 h2 => ?_)
  refine bj_iload_n dJx4a65c_elementData_915e3_4 rfl 1 rfl ?_
  refine bj_nn (fun a3 h4 => ?_)
  subst h4
  refine bj_aald (ci := 16) (by decide) dJx4a65c_elementData_915e3_5 (fun v5 h6 => ?_)
  exact bj_aret (o := v5) dJx4a65c_elementData_915e3_6 (Or.inl ⟨_, rfl⟩)
/-! java/util/ArrayList.get(I)Ljava/lang/Object; -/
theorem hi_Jx4a65c_get_915e3_Jx4a65c : ∀ w ∈ u_ws RJx4a65c TJx4a65c 3, w ∈ wsJx4a65c_get_915e3 := fun _ h => (List.mem_cons_of_mem _ (List.mem_append_right _ h))
set_option maxRecDepth 100000 in
theorem fl_Jx4a65c_get_915e3_48 : bh_fl wsJx4a65c_get_915e3 yJx4a65c_get_915e3.cls 48 "java/util/ArrayList" "size" "I" := Or.inl (List.mem_of_getElem? (i := 1) rfl)
set_option maxRecDepth 100000 in
theorem g_Jx4a65c_get_915e3_J15_checkIndex_7cf53_118 : GoodIn wsJx4a65c_get_915e3 (va_wsS yJx4a65c_get_915e3.cls 118 yJ15_checkIndex_7cf53 wsJ15_checkIndex_7cf53) := goodIn_r _ [2, 3, 4, 5, 6, 7, 8, 9] rfl (by decide +kernel)
set_option maxRecDepth 100000 in
theorem g_Jx4a65c_get_915e3_Jx4a65c_elementData_915e3_123 : GoodIn wsJx4a65c_get_915e3 (wsV yJx4a65c_get_915e3.cls 123 RJx4a65c yJx4a65c_elementData_915e3 wsJx4a65c_elementData_915e3) := goodIn_r _ [10, 11, 12, 13, 14, 15, 16, 17, 18] rfl (by decide +kernel)
def f_Jx4a65c_get_915e3 (this : Nat) (p1 : Int32) (σ : bh_S) : Option (Option Nat × bh_S) :=
  (bh_rdI σ 0 this 2).bind fun v1 =>
  bh_bnd (f_J15_checkIndex_7cf53 p1 v1 σ) fun v3 σ4 =>
  (bh_ck σ4 this 0).bind fun _ =>
  bh_bnd (f_Jx4a65c_elementData_915e3 this p1 σ4) fun v7 σ8 =>
  some (v7, σ8)
set_option maxHeartbeats 4000000 in
set_option maxRecDepth 100000 in
theorem c_Jx4a65c_get_915e3 (X : bh_X) (this : Nat) (p1 : Int32) (σ : bh_S) : bh_MX eR X yJx4a65c_get_915e3 wsJx4a65c_get_915e3 2 43 [.ref this, .int p1] σ (f_Jx4a65c_get_915e3 this p1 σ) := by
  refine bh_enterF (cc := cJx4a65c_get_915e3) (NL := 2) (ret := (some (.object "java/lang/Object"))) (by decide) rfl (Nat.le_of_ble_eq_true rfl) (fun X => ?_)
  show bh_J eR yJx4a65c_get_915e3 cJx4a65c_get_915e3 wsJx4a65c_get_915e3 (some (.object "java/lang/Object")) 2 2 43 X σ 0 [(0, .ref this), (1, .int p1)] [] _
  unfold f_Jx4a65c_get_915e3
  refine bj_iload_n dJx4a65c_get_915e3_0 rfl 1 rfl ?_
  refine bj_aload_nS dJx4a65c_get_915e3_1 rfl 0 rfl ?_
  refine bj_getI (ci := 0) (k := 2) (C := RJx4a65c) (T := TJx4a65c) (N := 3) rfl hi_Jx4a65c_get_915e3_Jx4a65c (by decide) rfl fl_Jx4a65c_get_915e3_48 (Or.inl rfl) dJx4a65c_get_915e3_2 (fun v1 h2 => ?_)
  refine bj_callI (br_S (As := [.int p1, .int v1]) (rest := []) (c_J15_checkIndex_7cf53 X p1 v1 σ) rfl g_Jx4a65c_get_915e3_J15_checkIndex_7cf53_118 hd_J15_checkIndex_7cf53 rfl ⟨by decide, by decide⟩ rfl (Nat.le_of_ble_eq_true rfl) dJx4a65c_get_915e3_5) (fun v3 σ4 h5 => ?_)
  refine bj_pop dJx4a65c_get_915e3_8 rfl ?_
  refine bj_aload_nS dJx4a65c_get_915e3_9 rfl 0 rfl ?_
  refine bj_iload_n dJx4a65c_get_915e3_10 rfl 1 rfl ?_
  refine bj_op (fun _ h6 => ?_)
  refine bj_callR (br_V (As := [.int p1]) (rest := []) (q := (RJx4a65c, TJx4a65c, 3)) (c_Jx4a65c_elementData_915e3 X this p1 σ4) rfl g_Jx4a65c_get_915e3_Jx4a65c_elementData_915e3_123 rfl (bh_ck_spec h6) ⟨rfl, hd_Jx4a65c_elementData_915e3⟩ rfl ⟨by decide, by decide⟩ rfl (Nat.le_of_ble_eq_true rfl) dJx4a65c_get_915e3_11) (fun v7 σ8 h9 => ?_)
  exact bj_aret (o := v7) dJx4a65c_get_915e3_14 (Or.inl ⟨_, rfl⟩)
/-! java/util/ArrayList.isEmpty()Z -/
theorem hi_Jx4a65c_isEmpty_aae02_Jx4a65c : ∀ w ∈ u_ws RJx4a65c TJx4a65c 3, w ∈ wsJx4a65c_isEmpty_aae02 := fun _ h => (List.mem_cons_of_mem _ (List.mem_append_right _ h))
set_option maxRecDepth 100000 in
theorem fl_Jx4a65c_isEmpty_aae02_48 : bh_fl wsJx4a65c_isEmpty_aae02 yJx4a65c_isEmpty_aae02.cls 48 "java/util/ArrayList" "size" "I" := Or.inl (List.mem_of_getElem? (i := 1) rfl)
def f_Jx4a65c_isEmpty_aae02 (this : Nat) (σ : bh_S) : Option (Int32 × bh_S) :=
  (bh_rdI σ 0 this 2).bind fun v1 =>
  if v1 = 0 then
    bh_retZ σ 1
  else
    bh_retZ σ 0
set_option maxHeartbeats 4000000 in
set_option maxRecDepth 100000 in
theorem c_Jx4a65c_isEmpty_aae02 (X : bh_X) (this : Nat) (σ : bh_S) : bh_MX eI X yJx4a65c_isEmpty_aae02 wsJx4a65c_isEmpty_aae02 0 0 [.ref this] σ (f_Jx4a65c_isEmpty_aae02 this σ) := by
  refine bh_enterF (cc := cJx4a65c_isEmpty_aae02) (NL := 1) (ret := (some .boolean)) (by decide) rfl (Nat.le_of_ble_eq_true rfl) (fun X => ?_)
  show bh_J eI yJx4a65c_isEmpty_aae02 cJx4a65c_isEmpty_aae02 wsJx4a65c_isEmpty_aae02 (some .boolean) 1 0 0 X σ 0 [(0, .ref this)] [] _
  unfold f_Jx4a65c_isEmpty_aae02
  refine bj_aload_nS dJx4a65c_isEmpty_aae02_0 rfl 0 rfl ?_
  refine bj_getI (ci := 0) (k := 2) (C := RJx4a65c) (T := TJx4a65c) (N := 3) rfl hi_Jx4a65c_isEmpty_aae02_Jx4a65c (by decide) rfl fl_Jx4a65c_isEmpty_aae02_48 (Or.inl rfl) dJx4a65c_isEmpty_aae02_1 (fun v1 h2 => ?_)
  refine bj_if_ne (tgt := 11) dJx4a65c_isEmpty_aae02_4 (by decide) (fun h3 => ?_) (fun h3 => ?_)
  · refine bj_iconst (v := 0) dJx4a65c_isEmpty_aae02_11 (by decide) ?_
    exact bj_zret dJx4a65c_isEmpty_aae02_12
  · refine bj_iconst (v := 1) dJx4a65c_isEmpty_aae02_7 (by decide) ?_
    refine bj_goto (tgt := 12) dJx4a65c_isEmpty_aae02_8 (by decide) ?_
    exact bj_zret dJx4a65c_isEmpty_aae02_12
/-! java/util/ArrayList.fastRemove([Ljava/lang/Object;I)V -/
theorem hi_Jx4a65c_fastRemove_b59b0_Jx4a65c : ∀ w ∈ u_ws RJx4a65c TJx4a65c 3, w ∈ wsJx4a65c_fastRemove_b59b0 := fun _ h => (List.mem_cons_of_mem _ (List.mem_append_right _ h))
set_option maxRecDepth 100000 in
theorem fl_Jx4a65c_fastRemove_b59b0_63 : bh_fl wsJx4a65c_fastRemove_b59b0 yJx4a65c_fastRemove_b59b0.cls 63 "java/util/ArrayList" "modCount" "I" := Or.inl (List.mem_of_getElem? (i := 1) rfl)
set_option maxRecDepth 100000 in
theorem fl_Jx4a65c_fastRemove_b59b0_48 : bh_fl wsJx4a65c_fastRemove_b59b0 yJx4a65c_fastRemove_b59b0.cls 48 "java/util/ArrayList" "size" "I" := Or.inl (List.mem_of_getElem? (i := 3) rfl)
def f_Jx4a65c_fastRemove_b59b0_b34 (this : Nat) (x1 : Nat) (x3 : Int32) (σ : bh_S) : Option (Unit × bh_S) :=
  (bh_wrI σ 0 this 2 x3).bind fun σ1 =>
  (bh_stR σ1 16 x1 x3 none).bind fun σ3 =>
  some ((), σ3)
set_option maxHeartbeats 4000000 in
set_option maxRecDepth 100000 in
theorem j_Jx4a65c_fastRemove_b59b0_b34 (X : bh_X) (this : Nat) (x1 : Nat) (x3 : Int32) (σ : bh_S) : bh_J eU yJx4a65c_fastRemove_b59b0 cJx4a65c_fastRemove_b59b0 wsJx4a65c_fastRemove_b59b0 none 4 1 40 X σ 34 [(0, .ref this), (1, .ref x1), (3, .int x3)] [] (f_Jx4a65c_fastRemove_b59b0_b34 this x1 x3 σ) := by
  unfold f_Jx4a65c_fastRemove_b59b0_b34
  refine bj_aload_nS dJx4a65c_fastRemove_b59b0_34 rfl 1 rfl ?_
  refine bj_aload_nS dJx4a65c_fastRemove_b59b0_35 rfl 0 rfl ?_
  refine bj_iload_n dJx4a65c_fastRemove_b59b0_36 rfl 2 rfl ?_
  refine bj_dup_x1 dJx4a65c_fastRemove_b59b0_37 rfl rfl ?_
  refine bj_putI (ci := 0) (k := 2) (C := RJx4a65c) (T := TJx4a65c) (N := 3) rfl hi_Jx4a65c_fastRemove_b59b0_Jx4a65c (by decide) rfl fl_Jx4a65c_fastRemove_b59b0_48 (Or.inl rfl) tyJx4a65c tyJx4a65c_ok nmJx4a65c rfl (Or.inl rfl) dJx4a65c_fastRemove_b59b0_38 (fun σ1 h2 => ?_)
  refine bj_null dJx4a65c_fastRemove_b59b0_41 ?_
  refine bj_aast (ci := 16) (v := none) (by decide) dJx4a65c_fastRemove_b59b0_42 (fun σ3 h4 => ?_)
  exact bj_vret dJx4a65c_fastRemove_b59b0_43
def f_Jx4a65c_fastRemove_b59b0 (this : Nat) (p1 : Nat) (p2 : Int32) (σ : bh_S) : Option (Unit × bh_S) :=
  (bh_rdI σ 0 this 0).bind fun v1 =>
  (bh_wrI σ 0 this 0 (v1 + 1)).bind fun σ3 =>
  (bh_rdI σ3 0 this 2).bind fun v5 =>
  if (v5 - 1) ≤ p2 then
    f_Jx4a65c_fastRemove_b59b0_b34 this p1 (v5 - 1) σ3
  else
    (bh_acp σ3 p1 (p2 + 1) p1 p2 ((v5 - 1) - p2)).bind fun σ8 =>
    f_Jx4a65c_fastRemove_b59b0_b34 this p1 (v5 - 1) σ8
set_option maxHeartbeats 4000000 in
set_option maxRecDepth 100000 in
theorem c_Jx4a65c_fastRemove_b59b0 (X : bh_X) (this : Nat) (p1 : Nat) (p2 : Int32) (σ : bh_S) : bh_MX eU X yJx4a65c_fastRemove_b59b0 wsJx4a65c_fastRemove_b59b0 1 40 [.ref this, .ref p1, .int p2] σ (f_Jx4a65c_fastRemove_b59b0 this p1 p2 σ) := by
  refine bh_enterF (cc := cJx4a65c_fastRemove_b59b0) (NL := 4) (ret := none) (by decide) rfl (Nat.le_of_ble_eq_true rfl) (fun X => ?_)
  show bh_J eU yJx4a65c_fastRemove_b59b0 cJx4a65c_fastRemove_b59b0 wsJx4a65c_fastRemove_b59b0 none 4 1 40 X σ 0 [(0, .ref this), (1, .ref p1), (2, .int p2)] [] _
  unfold f_Jx4a65c_fastRemove_b59b0
  refine bj_aload_nS dJx4a65c_fastRemove_b59b0_0 rfl 0 rfl ?_
  refine bj_dup dJx4a65c_fastRemove_b59b0_1 rfl ?_
  refine bj_getI (ci := 0) (k := 0) (C := RJx4a65c) (T := TJx4a65c) (N := 3) rfl hi_Jx4a65c_fastRemove_b59b0_Jx4a65c (by decide) rfl fl_Jx4a65c_fastRemove_b59b0_63 (Or.inr (List.mem_of_getElem? (i := 2) rfl)) dJx4a65c_fastRemove_b59b0_2 (fun v1 h2 => ?_)
  refine bj_iconst (v := 1) dJx4a65c_fastRemove_b59b0_5 (by decide) ?_
  refine bj_iadd dJx4a65c_fastRemove_b59b0_6 ?_
  refine bj_putI (ci := 0) (k := 0) (C := RJx4a65c) (T := TJx4a65c) (N := 3) rfl hi_Jx4a65c_fastRemove_b59b0_Jx4a65c (by decide) rfl fl_Jx4a65c_fastRemove_b59b0_63 (Or.inr (List.mem_of_getElem? (i := 2) rfl)) tyJx4a65c tyJx4a65c_ok nmJx4a65c rfl (Or.inl rfl) dJx4a65c_fastRemove_b59b0_7 (fun σ3 h4 => ?_)
  refine bj_aload_nS dJx4a65c_fastRemove_b59b0_10 rfl 0 rfl ?_
  refine bj_getI (ci := 0) (k := 2) (C := RJx4a65c) (T := TJx4a65c) (N := 3) rfl hi_Jx4a65c_fastRemove_b59b0_Jx4a65c (by decide) rfl fl_Jx4a65c_fastRemove_b59b0_48 (Or.inl rfl) dJx4a65c_fastRemove_b59b0_11 (fun v5 h6 => ?_)
  refine bj_iconst (v := 1) dJx4a65c_fastRemove_b59b0_14 (by decide) ?_
  refine bj_isub dJx4a65c_fastRemove_b59b0_15 ?_
  refine bj_dup dJx4a65c_fastRemove_b59b0_16 rfl ?_
  refine bj_istore_n (lv' := [(3, .int (v5 - 1)), (0, .ref this), (1, .ref p1), (2, .int p2)]) dJx4a65c_fastRemove_b59b0_17 rfl (by decide) rfl ?_
  refine bj_iload_n dJx4a65c_fastRemove_b59b0_18 rfl 3 rfl ?_
  refine bj_icmp_le (tgt := 34) dJx4a65c_fastRemove_b59b0_19 (by decide) (fun h7 => ?_) (fun h7 => ?_)
  · refine bj_sub (lv' := [(0, .ref this), (1, .ref p1), (3, .int (v5 - 1))]) [1, 2, 0] rfl ?_
    exact j_Jx4a65c_fastRemove_b59b0_b34 X this p1 (v5 - 1) σ3
  · refine bj_aload_nS dJx4a65c_fastRemove_b59b0_22 rfl 2 rfl ?_
    refine bj_iload_n dJx4a65c_fastRemove_b59b0_23 rfl 3 rfl ?_
    refine bj_iconst (v := 1) dJx4a65c_fastRemove_b59b0_24 (by decide) ?_
    refine bj_iadd dJx4a65c_fastRemove_b59b0_25 ?_
    refine bj_aload_nS dJx4a65c_fastRemove_b59b0_26 rfl 2 rfl ?_
    refine bj_iload_n dJx4a65c_fastRemove_b59b0_27 rfl 3 rfl ?_
    refine bj_iload_n dJx4a65c_fastRemove_b59b0_28 rfl 0 rfl ?_
    refine bj_iload_n dJx4a65c_fastRemove_b59b0_29 rfl 3 rfl ?_
    refine bj_isub dJx4a65c_fastRemove_b59b0_30 ?_
    refine bj_acp (List.mem_of_getElem? (i := 4) rfl) (List.mem_of_getElem? (i := 5) rfl) (List.mem_of_getElem? (i := 6) rfl) (List.mem_of_getElem? (i := 7) rfl) (by decide) (Nat.le_of_ble_eq_true rfl) dJx4a65c_fastRemove_b59b0_31 (fun σ8 h9 => ?_)
    refine bj_sub (lv' := [(0, .ref this), (1, .ref p1), (3, .int (v5 - 1))]) [1, 2, 0] rfl ?_
    exact j_Jx4a65c_fastRemove_b59b0_b34 X this p1 (v5 - 1) σ8
/-! java/util/ArrayList.remove(I)Ljava/lang/Object; -/
theorem hi_Jx4a65c_remove_915e3_Jx4a65c : ∀ w ∈ u_ws RJx4a65c TJx4a65c 3, w ∈ wsJx4a65c_remove_915e3 := fun _ h => (List.mem_cons_of_mem _ (List.mem_append_right _ h))
set_option maxRecDepth 100000 in
theorem fl_Jx4a65c_remove_915e3_48 : bh_fl wsJx4a65c_remove_915e3 yJx4a65c_remove_915e3.cls 48 "java/util/ArrayList" "size" "I" := Or.inl (List.mem_of_getElem? (i := 1) rfl)
set_option maxRecDepth 100000 in
theorem g_Jx4a65c_remove_915e3_J15_checkIndex_7cf53_118 : GoodIn wsJx4a65c_remove_915e3 (va_wsS yJx4a65c_remove_915e3.cls 118 yJ15_checkIndex_7cf53 wsJ15_checkIndex_7cf53) := goodIn_r _ [3, 4, 5, 6, 7, 8, 9, 10] rfl (by decide +kernel)
set_option maxRecDepth 100000 in
theorem fl_Jx4a65c_remove_915e3_9 : bh_fl wsJx4a65c_remove_915e3 yJx4a65c_remove_915e3.cls 9 "java/util/ArrayList" "elementData" "[Ljava/lang/Object;" := Or.inl (List.mem_of_getElem? (i := 2) rfl)
set_option maxRecDepth 100000 in
theorem g_Jx4a65c_remove_915e3_Jx4a65c_fastRemove_b59b0_144 : GoodIn wsJx4a65c_remove_915e3 (wsV yJx4a65c_remove_915e3.cls 144 RJx4a65c yJx4a65c_fastRemove_b59b0 wsJx4a65c_fastRemove_b59b0) := goodIn_r _ [11, 12, 13, 14, 15, 16, 17, 1, 18, 19, 20, 21, 22, 23, 24] rfl (by decide +kernel)
def f_Jx4a65c_remove_915e3 (this : Nat) (p1 : Int32) (σ : bh_S) : Option (Option Nat × bh_S) :=
  (bh_rdI σ 0 this 2).bind fun v1 =>
  bh_bnd (f_J15_checkIndex_7cf53 p1 v1 σ) fun v3 σ4 =>
  (bh_rdR σ4 0 this 1).bind fun v6 =>
  (v6).bind fun a8 =>
  (bh_ldR σ4 16 a8 p1).bind fun v10 =>
  (bh_ck σ4 this 0).bind fun _ =>
  bh_bnd (f_Jx4a65c_fastRemove_b59b0 this a8 p1 σ4) fun v13 σ14 =>
  some (v10, σ14)
set_option maxHeartbeats 4000000 in
set_option maxRecDepth 100000 in
theorem c_Jx4a65c_remove_915e3 (X : bh_X) (this : Nat) (p1 : Int32) (σ : bh_S) : bh_MX eR X yJx4a65c_remove_915e3 wsJx4a65c_remove_915e3 2 63 [.ref this, .int p1] σ (f_Jx4a65c_remove_915e3 this p1 σ) := by
  refine bh_enterF (cc := cJx4a65c_remove_915e3) (NL := 4) (ret := (some (.object "java/lang/Object"))) (by decide) rfl (Nat.le_of_ble_eq_true rfl) (fun X => ?_)
  show bh_J eR yJx4a65c_remove_915e3 cJx4a65c_remove_915e3 wsJx4a65c_remove_915e3 (some (.object "java/lang/Object")) 4 2 63 X σ 0 [(0, .ref this), (1, .int p1)] [] _
  unfold f_Jx4a65c_remove_915e3
  refine bj_iload_n dJx4a65c_remove_915e3_0 rfl 1 rfl ?_
  refine bj_aload_nS dJx4a65c_remove_915e3_1 rfl 0 rfl ?_
  refine bj_getI (ci := 0) (k := 2) (C := RJx4a65c) (T := TJx4a65c) (N := 3) rfl hi_Jx4a65c_remove_915e3_Jx4a65c (by decide) rfl fl_Jx4a65c_remove_915e3_48 (Or.inl rfl) dJx4a65c_remove_915e3_2 (fun v1 h2 => ?_)
  refine bj_callI (br_S (As := [.int p1, .int v1]) (rest := []) (c_J15_checkIndex_7cf53 X p1 v1 σ) rfl g_Jx4a65c_remove_915e3_J15_checkIndex_7cf53_118 hd_J15_checkIndex_7cf53 rfl ⟨by decide, by decide⟩ rfl (Nat.le_of_ble_eq_true rfl) dJx4a65c_remove_915e3_5) (fun v3 σ4 h5 => ?_)
  refine bj_pop dJx4a65c_remove_915e3_8 rfl ?_
  refine bj_aload_nS dJx4a65c_remove_915e3_9 rfl 0 rfl ?_
  refine bj_getR (ci := 0) (k := 1) (C := RJx4a65c) (T := TJx4a65c) (N := 3) rfl hi_Jx4a65c_remove_915e3_Jx4a65c (by decide) rfl fl_Jx4a65c_remove_915e3_9 (Or.inl rfl) dJx4a65c_remove_915e3_10 (fun v6 h7 => ?_)
  refine bj_astore_n (lv' := [(2, va_rf v6), (0, .ref this), (1, .int p1)]) (o := v6) dJx4a65c_remove_915e3_13 rfl (by decide) rfl ?_
  refine bj_aload_n dJx4a65c_remove_915e3_14 rfl 0 rfl ?_
  refine bj_iload_n dJx4a65c_remove_915e3_15 rfl 2 rfl ?_
  refine bj_nn (fun a8 h9 => ?_)
  subst h9
  refine bj_aald (ci := 16) (by decide) dJx4a65c_remove_915e3_16 (fun v10 h11 => ?_)
  refine bj_astore_n (lv' := [(3, va_rf v10), (2, .ref a8), (0, .ref this), (1, .int p1)]) (o := v10) dJx4a65c_remove_915e3_17 rfl (by decide) rfl ?_
  refine bj_aload_nS dJx4a65c_remove_915e3_18 rfl 2 rfl ?_
  refine bj_aload_nS dJx4a65c_remove_915e3_19 rfl 1 rfl ?_
  refine bj_iload_n dJx4a65c_remove_915e3_20 rfl 3 rfl ?_
  refine bj_op (fun _ h12 => ?_)
  refine bj_callU (br_V (As := [.ref a8, .int p1]) (rest := []) (q := (RJx4a65c, TJx4a65c, 3)) (c_Jx4a65c_fastRemove_b59b0 X this a8 p1 σ4) rfl g_Jx4a65c_remove_915e3_Jx4a65c_fastRemove_b59b0_144 rfl (bh_ck_spec h12) ⟨rfl, hd_Jx4a65c_fastRemove_b59b0⟩ rfl ⟨by decide, by decide⟩ rfl (Nat.le_of_ble_eq_true rfl) dJx4a65c_remove_915e3_21) (fun v13 σ14 h15 => ?_)
  refine bj_aload_n dJx4a65c_remove_915e3_24 rfl 0 rfl ?_
  exact bj_aret (o := v10) dJx4a65c_remove_915e3_25 (Or.inl ⟨_, rfl⟩)
/-! java/util/AbstractCollection.<init>()V -/
def f_Jxa1e45_init_da8c8 (this : Nat) (σ : bh_S) : Option (Unit × bh_S) :=
  some ((), σ)
set_option maxHeartbeats 4000000 in
set_option maxRecDepth 100000 in
theorem c_Jxa1e45_init_da8c8 (X : bh_X) (this : Nat) (σ : bh_S) : bh_MX eU X yJxa1e45_init_da8c8 wsJxa1e45_init_da8c8 1 12 [.ref this] σ (f_Jxa1e45_init_da8c8 this σ) := by
  refine bh_enterF (cc := cJxa1e45_init_da8c8) (NL := 1) (ret := none) (by decide) rfl (Nat.le_of_ble_eq_true rfl) (fun X => ?_)
  show bh_J eU yJxa1e45_init_da8c8 cJxa1e45_init_da8c8 wsJxa1e45_init_da8c8 none 1 1 12 X σ 0 [(0, .ref this)] [] _
  unfold f_Jxa1e45_init_da8c8
  refine bj_aload_nS dJxa1e45_init_da8c8_0 rfl 0 rfl ?_
  refine bj_objInit (List.mem_of_getElem? (i := 1) rfl) (List.mem_of_getElem? (i := 2) rfl) (List.mem_of_getElem? (i := 3) rfl) (by decide) (Nat.le_of_ble_eq_true rfl) dJxa1e45_init_da8c8_1 ?_
  exact bj_vret dJxa1e45_init_da8c8_4
/-! java/util/AbstractList.<init>()V -/
set_option maxRecDepth 100000 in
theorem g_Jxc12de_init_da8c8_Jxa1e45_init_da8c8 : GoodIn wsJxc12de_init_da8c8 wsJxa1e45_init_da8c8 := goodIn_r _ [5, 6, 7, 8] rfl (by decide +kernel)
theorem hi_Jxc12de_init_da8c8_Jx4a65c : ∀ w ∈ u_ws RJx4a65c TJx4a65c 3, w ∈ wsJxc12de_init_da8c8 := fun _ h => (List.mem_cons_of_mem _ (List.mem_append_right _ h))
set_option maxRecDepth 100000 in
theorem fl_Jxc12de_init_da8c8_7 : bh_fl wsJxc12de_init_da8c8 yJxc12de_init_da8c8.cls 7 "java/util/AbstractList" "modCount" "I" := Or.inl (List.mem_of_getElem? (i := 1) rfl)
def f_Jxc12de_init_da8c8 (this : Nat) (σ : bh_S) : Option (Unit × bh_S) :=
  bh_bnd (f_Jxa1e45_init_da8c8 this σ) fun v1 σ2 =>
  (bh_wrI σ2 0 this 0 0).bind fun σ4 =>
  some ((), σ4)
set_option maxHeartbeats 4000000 in
set_option maxRecDepth 100000 in
theorem c_Jxc12de_init_da8c8 (X : bh_X) (this : Nat) (σ : bh_S) : bh_MX eU X yJxc12de_init_da8c8 wsJxc12de_init_da8c8 2 32 [.ref this] σ (f_Jxc12de_init_da8c8 this σ) := by
  refine bh_enterF (cc := cJxc12de_init_da8c8) (NL := 1) (ret := none) (by decide) rfl (Nat.le_of_ble_eq_true rfl) (fun X => ?_)
  show bh_J eU yJxc12de_init_da8c8 cJxc12de_init_da8c8 wsJxc12de_init_da8c8 none 1 2 32 X σ 0 [(0, .ref this)] [] _
  unfold f_Jxc12de_init_da8c8
  refine bj_aload_nS dJxc12de_init_da8c8_0 rfl 0 rfl ?_
  refine bj_callU (br_I (As := []) (rest := []) (c_Jxa1e45_init_da8c8 X this σ) rfl g_Jxc12de_init_da8c8_Jxa1e45_init_da8c8 (List.mem_of_getElem? (i := 4) rfl) (List.mem_of_getElem? (i := 2) rfl) (List.mem_of_getElem? (i := 3) rfl) rfl hd_Jxa1e45_init_da8c8 rfl ⟨by decide, by decide⟩ rfl (Nat.le_of_ble_eq_true rfl) dJxc12de_init_da8c8_1) (fun v1 σ2 h3 => ?_)
  refine bj_aload_nS dJxc12de_init_da8c8_4 rfl 0 rfl ?_
  refine bj_iconst (v := 0) dJxc12de_init_da8c8_5 (by decide) ?_
  refine bj_putI (ci := 0) (k := 0) (C := RJx4a65c) (T := TJx4a65c) (N := 3) rfl hi_Jxc12de_init_da8c8_Jx4a65c (by decide) rfl fl_Jxc12de_init_da8c8_7 (Or.inl rfl) tyJx4a65c tyJx4a65c_ok nmJx4a65c rfl (Or.inl rfl) dJxc12de_init_da8c8_6 (fun σ4 h5 => ?_)
  exact bj_vret dJxc12de_init_da8c8_9
/-! java/util/ArrayList.<init>()V -/
set_option maxRecDepth 100000 in
theorem g_Jx4a65c_init_da8c8_Jxc12de_init_da8c8 : GoodIn wsJx4a65c_init_da8c8 wsJxc12de_init_da8c8 := goodIn_r _ [6, 7, 8, 9, 10, 11, 12, 13, 14, 15, 16, 17] rfl (by decide +kernel)
theorem hi_Jx4a65c_init_da8c8_Jx4a65c : ∀ w ∈ u_ws RJx4a65c TJx4a65c 3, w ∈ wsJx4a65c_init_da8c8 := fun _ h => (List.mem_cons_of_mem _ (List.mem_append_right _ h))
set_option maxRecDepth 100000 in
theorem fl_Jx4a65c_init_da8c8_9 : bh_fl wsJx4a65c_init_da8c8 yJx4a65c_init_da8c8.cls 9 "java/util/ArrayList" "elementData" "[Ljava/lang/Object;" := Or.inl (List.mem_of_getElem? (i := 2) rfl)
def f_Jx4a65c_init_da8c8 (this : Nat) (σ : bh_S) : Option (Unit × bh_S) :=
  bh_bnd (f_Jxc12de_init_da8c8 this σ) fun v1 σ2 =>
  (bh_wrR σ2 0 this 1 (some (bh_e σ2))).bind fun σ4 =>
  some ((), σ4)
set_option maxHeartbeats 4000000 in
set_option maxRecDepth 100000 in
theorem c_Jx4a65c_init_da8c8 (X : bh_X) (this : Nat) (σ : bh_S) : bh_MX eU X yJx4a65c_init_da8c8 wsJx4a65c_init_da8c8 3 52 [.ref this] σ (f_Jx4a65c_init_da8c8 this σ) := by
  refine bh_enterF (cc := cJx4a65c_init_da8c8) (NL := 1) (ret := none) (by decide) rfl (Nat.le_of_ble_eq_true rfl) (fun X => ?_)
  show bh_J eU yJx4a65c_init_da8c8 cJx4a65c_init_da8c8 wsJx4a65c_init_da8c8 none 1 3 52 X σ 0 [(0, .ref this)] [] _
  unfold f_Jx4a65c_init_da8c8
  refine bj_aload_nS dJx4a65c_init_da8c8_0 rfl 0 rfl ?_
  refine bj_callU (br_I (As := []) (rest := []) (c_Jxc12de_init_da8c8 X this σ) rfl g_Jx4a65c_init_da8c8_Jxc12de_init_da8c8 (List.mem_of_getElem? (i := 5) rfl) (List.mem_of_getElem? (i := 3) rfl) (List.mem_of_getElem? (i := 4) rfl) rfl hd_Jxc12de_init_da8c8 rfl ⟨by decide, by decide⟩ rfl (Nat.le_of_ble_eq_true rfl) dJx4a65c_init_da8c8_1) (fun v1 σ2 h3 => ?_)
  refine bj_aload_nS dJx4a65c_init_da8c8_4 rfl 0 rfl ?_
  refine bj_gets (List.mem_of_getElem? (i := 1) rfl) dJx4a65c_init_da8c8_5 ?_
  refine bj_putR (ci := 0) (k := 1) (C := RJx4a65c) (T := TJx4a65c) (N := 3) (v := (some (bh_e σ2))) rfl hi_Jx4a65c_init_da8c8_Jx4a65c (by decide) rfl fl_Jx4a65c_init_da8c8_9 (Or.inl rfl) tyJx4a65c tyJx4a65c_ok nmJx4a65c (Or.inr ⟨_, rfl⟩) (Or.inl rfl) dJx4a65c_init_da8c8_8 (fun σ4 h5 => ?_)
  exact bj_vret dJx4a65c_init_da8c8_11
/-! jdk/internal/util/ArraysSupport.newLength(III)I -/
def f_J8_newLength_cabcc (p0 : Int32) (p1 : Int32) (p2 : Int32) (σ : bh_S) : Option (Int32 × bh_S) :=
  if (p0 + (bh_max p1 p2)) ≤ 0 then
    none
  else
    if 2147483639 < (p0 + (bh_max p1 p2)) then
      none
    else
      some (p0 + (bh_max p1 p2), σ)
set_option maxHeartbeats 4000000 in
set_option maxRecDepth 100000 in
theorem c_J8_newLength_cabcc (X : bh_X) (p0 : Int32) (p1 : Int32) (p2 : Int32) (σ : bh_S) : bh_MX eI X yJ8_newLength_cabcc wsJ8_newLength_cabcc 1 14 [.int p0, .int p1, .int p2] σ (f_J8_newLength_cabcc p0 p1 p2 σ) := by
  refine bh_enterF (cc := cJ8_newLength_cabcc) (NL := 4) (ret := (some .int)) (by decide) rfl (Nat.le_of_ble_eq_true rfl) (fun X => ?_)
  show bh_J eI yJ8_newLength_cabcc cJ8_newLength_cabcc wsJ8_newLength_cabcc (some .int) 4 1 14 X σ 0 [(0, .int p0), (1, .int p1), (2, .int p2)] [] _
  unfold f_J8_newLength_cabcc
  refine bj_iload_n dJ8_newLength_cabcc_0 rfl 0 rfl ?_
  refine bj_iload_n dJ8_newLength_cabcc_1 rfl 1 rfl ?_
  refine bj_iload_n dJ8_newLength_cabcc_2 rfl 2 rfl ?_
  refine bj_max (List.mem_of_getElem? (i := 1) rfl) (List.mem_of_getElem? (i := 2) rfl) (List.mem_of_getElem? (i := 3) rfl) (List.mem_of_getElem? (i := 4) rfl) (by decide) (Nat.le_of_ble_eq_true rfl) dJ8_newLength_cabcc_3 ?_
  refine bj_iadd dJ8_newLength_cabcc_6 ?_
  refine bj_istore_n (lv' := [(3, .int (p0 + (bh_max p1 p2))), (0, .int p0), (1, .int p1), (2, .int p2)]) dJ8_newLength_cabcc_7 rfl (by decide) rfl ?_
  refine bj_iconst (v := 0) dJ8_newLength_cabcc_8 (by decide) ?_
  refine bj_iload_n dJ8_newLength_cabcc_9 rfl 0 rfl ?_
  refine bj_icmp_ge (tgt := 21) dJ8_newLength_cabcc_10 (by decide) (fun h1 => ?_) (fun h1 => ?_)
  · exact bj_none
  · refine bj_iload_n dJ8_newLength_cabcc_13 rfl 0 rfl ?_
    refine bj_ldc dJ8_newLength_cabcc_14 (List.mem_of_getElem? (i := 5) rfl) ?_
    refine bj_icmp_gt (tgt := 21) dJ8_newLength_cabcc_16 (by decide) (fun h2 => ?_) (fun h2 => ?_)
    · exact bj_none
    · refine bj_iload_n dJ8_newLength_cabcc_19 rfl 0 rfl ?_
      exact bj_iret dJ8_newLength_cabcc_20
/-! java/util/ArrayList.grow(I)[Ljava/lang/Object; -/
theorem hi_Jx4a65c_grow_92f84_Jx4a65c : ∀ w ∈ u_ws RJx4a65c TJx4a65c 3, w ∈ wsJx4a65c_grow_92f84 := fun _ h => (List.mem_cons_of_mem _ (List.mem_append_right _ h))
set_option maxRecDepth 100000 in
theorem fl_Jx4a65c_grow_92f84_9 : bh_fl wsJx4a65c_grow_92f84 yJx4a65c_grow_92f84.cls 9 "java/util/ArrayList" "elementData" "[Ljava/lang/Object;" := Or.inl (List.mem_of_getElem? (i := 1) rfl)
set_option maxRecDepth 100000 in
theorem g_Jx4a65c_grow_92f84_J8_newLength_cabcc_73 : GoodIn wsJx4a65c_grow_92f84 (va_wsS yJx4a65c_grow_92f84.cls 73 yJ8_newLength_cabcc wsJ8_newLength_cabcc) := goodIn_r _ [8, 9, 10, 11, 12, 4, 5, 6, 13, 14, 15, 10, 16] rfl (by decide +kernel)
set_option maxRecDepth 100000 in
theorem g_Jx4a65c_grow_92f84_J7_copyOf_1904c_66 : GoodIn wsJx4a65c_grow_92f84 (va_wsS yJx4a65c_grow_92f84.cls 66 yJ7_copyOf_1904c wsJ7_copyOf_1904c) := goodIn_r _ [17, 18, 19, 20, 21, 22, 23, 24, 25, 26, 19, 27, 28, 29, 30, 31, 5, 32, 33, 34, 35, 36] rfl (by decide +kernel)
def f_Jx4a65c_grow_92f84_b20 (this : Nat) (x1 : Int32) (x2 : Int32) (σ : bh_S) : Option (Option Nat × bh_S) :=
  bh_bnd (f_J8_newLength_cabcc x2 (x1 - x2) (x2 >>> (1 &&& 31)) σ) fun v1 σ2 =>
  (bh_rdR σ2 0 this 1).bind fun v4 =>
  (v4).bind fun a6 =>
  bh_bnd (f_J7_copyOf_1904c a6 v1 σ2) fun v8 σ9 =>
  (bh_wrR σ9 0 this 1 v8).bind fun σ11 =>
  some (v8, σ11)
set_option maxHeartbeats 4000000 in
set_option maxRecDepth 100000 in
theorem j_Jx4a65c_grow_92f84_b20 (X : bh_X) (this : Nat) (x1 : Int32) (x2 : Int32) (σ : bh_S) : bh_J eR yJx4a65c_grow_92f84 cJx4a65c_grow_92f84 wsJx4a65c_grow_92f84 (some (.array (.object "java/lang/Object"))) 4 4 121 X σ 20 [(0, .ref this), (1, .int x1), (2, .int x2)] [] (f_Jx4a65c_grow_92f84_b20 this x1 x2 σ) := by
  unfold f_Jx4a65c_grow_92f84_b20
  refine bj_iload_n dJx4a65c_grow_92f84_20 rfl 2 rfl ?_
  refine bj_iload_n dJx4a65c_grow_92f84_21 rfl 1 rfl ?_
  refine bj_iload_n dJx4a65c_grow_92f84_22 rfl 2 rfl ?_
  refine bj_isub dJx4a65c_grow_92f84_23 ?_
  refine bj_iload_n dJx4a65c_grow_92f84_24 rfl 2 rfl ?_
  refine bj_iconst (v := 1) dJx4a65c_grow_92f84_25 (by decide) ?_
  refine bj_ishr dJx4a65c_grow_92f84_26 ?_
  refine bj_callI (br_S (As := [.int x2, .int (x1 - x2), .int (x2 >>> (1 &&& 31))]) (rest := []) (c_J8_newLength_cabcc X x2 (x1 - x2) (x2 >>> (1 &&& 31)) σ) rfl g_Jx4a65c_grow_92f84_J8_newLength_cabcc_73 hd_J8_newLength_cabcc rfl ⟨by decide, by decide⟩ rfl (Nat.le_of_ble_eq_true rfl) dJx4a65c_grow_92f84_27) (fun v1 σ2 h3 => ?_)
  refine bj_istore_n (lv' := [(3, .int v1), (0, .ref this), (1, .int x1), (2, .int x2)]) dJx4a65c_grow_92f84_30 rfl (by decide) rfl ?_
  refine bj_aload_nS dJx4a65c_grow_92f84_31 rfl 1 rfl ?_
  refine bj_aload_nS dJx4a65c_grow_92f84_32 rfl 1 rfl ?_
  refine bj_getR (ci := 0) (k := 1) (C := RJx4a65c) (T := TJx4a65c) (N := 3) rfl hi_Jx4a65c_grow_92f84_Jx4a65c (by decide) rfl fl_Jx4a65c_grow_92f84_9 (Or.inl rfl) dJx4a65c_grow_92f84_33 (fun v4 h5 => ?_)
  refine bj_iload_n dJx4a65c_grow_92f84_36 rfl 0 rfl ?_
  refine bj_nn (fun a6 h7 => ?_)
  subst h7
  refine bj_callR (br_S (As := [.ref a6, .int v1]) (rest := [.ref this]) (c_J7_copyOf_1904c X a6 v1 σ2) rfl g_Jx4a65c_grow_92f84_J7_copyOf_1904c_66 hd_J7_copyOf_1904c rfl ⟨by decide, by decide⟩ rfl (Nat.le_of_ble_eq_true rfl) dJx4a65c_grow_92f84_37) (fun v8 σ9 h10 => ?_)
  refine bj_dup_x1 dJx4a65c_grow_92f84_40 (bh_cat _) rfl ?_
  refine bj_putR (ci := 0) (k := 1) (C := RJx4a65c) (T := TJx4a65c) (N := 3) (v := v8) rfl hi_Jx4a65c_grow_92f84_Jx4a65c (by decide) rfl fl_Jx4a65c_grow_92f84_9 (Or.inl rfl) tyJx4a65c tyJx4a65c_ok nmJx4a65c (Or.inr ⟨_, rfl⟩) (Or.inl rfl) dJx4a65c_grow_92f84_41 (fun σ11 h12 => ?_)
  exact bj_aret (o := v8) dJx4a65c_grow_92f84_44 (Or.inr ⟨_, rfl⟩)
def f_Jx4a65c_grow_92f84 (this : Nat) (p1 : Int32) (σ : bh_S) : Option (Option Nat × bh_S) :=
  (bh_rdR σ 0 this 1).bind fun v1 =>
  (v1).bind fun a3 =>
  (bh_len σ 16 a3).bind fun v5 =>
  if 0 < v5 then
    f_Jx4a65c_grow_92f84_b20 this p1 v5 σ
  else
    (bh_rdR σ 0 this 1).bind fun v8 =>
    if v8 = (some (bh_e σ)) then
      bh_bnd (bh_newA σ 16 (bh_max 10 p1)) fun a11 σ12 =>
      (bh_wrR σ12 0 this 1 (some a11)).bind fun σ14 =>
      some ((some a11), σ14)
    else
      f_Jx4a65c_grow_92f84_b20 this p1 v5 σ
set_option maxHeartbeats 4000000 in
set_option maxRecDepth 100000 in
theorem c_Jx4a65c_grow_92f84 (X : bh_X) (this : Nat) (p1 : Int32) (σ : bh_S) : bh_MX eR X yJx4a65c_grow_92f84 wsJx4a65c_grow_92f84 4 121 [.ref this, .int p1] σ (f_Jx4a65c_grow_92f84 this p1 σ) := by
  refine bh_enterF (cc := cJx4a65c_grow_92f84) (NL := 4) (ret := (some (.array (.object "java/lang/Object")))) (by decide) rfl (Nat.le_of_ble_eq_true rfl) (fun X => ?_)
  show bh_J eR yJx4a65c_grow_92f84 cJx4a65c_grow_92f84 wsJx4a65c_grow_92f84 (some (.array (.object "java/lang/Object"))) 4 4 121 X σ 0 [(0, .ref this), (1, .int p1)] [] _
  unfold f_Jx4a65c_grow_92f84
  refine bj_aload_nS dJx4a65c_grow_92f84_0 rfl 0 rfl ?_
  refine bj_getR (ci := 0) (k := 1) (C := RJx4a65c) (T := TJx4a65c) (N := 3) rfl hi_Jx4a65c_grow_92f84_Jx4a65c (by decide) rfl fl_Jx4a65c_grow_92f84_9 (Or.inl rfl) dJx4a65c_grow_92f84_1 (fun v1 h2 => ?_)
  refine bj_nn (fun a3 h4 => ?_)
  subst h4
  refine bj_alen (ci := 16) (by decide) dJx4a65c_grow_92f84_4 (fun v5 h6 => ?_)
  refine bj_istore_n (lv' := [(2, .int v5), (0, .ref this), (1, .int p1)]) dJx4a65c_grow_92f84_5 rfl (by decide) rfl ?_
  refine bj_iload_n dJx4a65c_grow_92f84_6 rfl 0 rfl ?_
  refine bj_if_gt (tgt := 20) dJx4a65c_grow_92f84_7 (by decide) (fun h7 => ?_) (fun h7 => ?_)
  · refine bj_sub (lv' := [(0, .ref this), (1, .int p1), (2, .int v5)]) [1, 2, 0] rfl ?_
    exact j_Jx4a65c_grow_92f84_b20 X this p1 v5 σ
  · refine bj_aload_nS dJx4a65c_grow_92f84_10 rfl 1 rfl ?_
    refine bj_getR (ci := 0) (k := 1) (C := RJx4a65c) (T := TJx4a65c) (N := 3) rfl hi_Jx4a65c_grow_92f84_Jx4a65c (by decide) rfl fl_Jx4a65c_grow_92f84_9 (Or.inl rfl) dJx4a65c_grow_92f84_11 (fun v8 h9 => ?_)
    refine bj_gets (List.mem_of_getElem? (i := 2) rfl) dJx4a65c_grow_92f84_14 ?_
    refine bj_acmp_eq (rx := v8) (ry := (some (bh_e σ))) (tgt := 45) dJx4a65c_grow_92f84_17 (by decide) (fun h10 => ?_) (fun h10 => ?_)
    · refine bj_aload_nS dJx4a65c_grow_92f84_45 rfl 1 rfl ?_
      refine bj_bipush (v := 10) dJx4a65c_grow_92f84_46 (by decide) ?_
      refine bj_iload_n dJx4a65c_grow_92f84_48 rfl 2 rfl ?_
      refine bj_max (List.mem_of_getElem? (i := 3) rfl) (List.mem_of_getElem? (i := 4) rfl) (List.mem_of_getElem? (i := 5) rfl) (List.mem_of_getElem? (i := 6) rfl) (by decide) (Nat.le_of_ble_eq_true rfl) dJx4a65c_grow_92f84_49 ?_
      refine bj_newQ (List.mem_of_getElem? (i := 7) rfl) dJx4a65c_grow_92f84_52 (fun a11 σ12 h13 => ?_)
      refine bj_dup_x1 dJx4a65c_grow_92f84_55 rfl rfl ?_
      refine bj_putR (ci := 0) (k := 1) (C := RJx4a65c) (T := TJx4a65c) (N := 3) (v := (some a11)) rfl hi_Jx4a65c_grow_92f84_Jx4a65c (by decide) rfl fl_Jx4a65c_grow_92f84_9 (Or.inl rfl) tyJx4a65c tyJx4a65c_ok nmJx4a65c (Or.inr ⟨_, rfl⟩) (Or.inl rfl) dJx4a65c_grow_92f84_56 (fun σ14 h15 => ?_)
      exact bj_aret (o := (some a11)) dJx4a65c_grow_92f84_59 (Or.inr ⟨_, rfl⟩)
    · refine bj_sub (lv' := [(0, .ref this), (1, .int p1), (2, .int v5)]) [1, 2, 0] rfl ?_
      exact j_Jx4a65c_grow_92f84_b20 X this p1 v5 σ
/-! java/util/ArrayList.grow()[Ljava/lang/Object; -/
theorem hi_Jx4a65c_grow_d5877_Jx4a65c : ∀ w ∈ u_ws RJx4a65c TJx4a65c 3, w ∈ wsJx4a65c_grow_d5877 := fun _ h => (List.mem_cons_of_mem _ (List.mem_append_right _ h))
set_option maxRecDepth 100000 in
theorem fl_Jx4a65c_grow_d5877_48 : bh_fl wsJx4a65c_grow_d5877 yJx4a65c_grow_d5877.cls 48 "java/util/ArrayList" "size" "I" := Or.inl (List.mem_of_getElem? (i := 1) rfl)
set_option maxRecDepth 100000 in
theorem g_Jx4a65c_grow_d5877_Jx4a65c_grow_92f84_69 : GoodIn wsJx4a65c_grow_d5877 (wsV yJx4a65c_grow_d5877.cls 69 RJx4a65c yJx4a65c_grow_92f84 wsJx4a65c_grow_92f84) := goodIn_r _ [2, 3, 4, 5, 6, 7, 8, 9, 10, 11, 12, 13, 14, 15, 16, 17, 18, 19, 20, 21, 22, 23, 24, 25, 26, 27, 28, 29, 30, 31, 32, 33, 34, 35, 36, 37, 38, 39, 40, 41, 42, 43, 44, 45] rfl (by decide +kernel)
def f_Jx4a65c_grow_d5877 (this : Nat) (σ : bh_S) : Option (Option Nat × bh_S) :=
  (bh_rdI σ 0 this 2).bind fun v1 =>
  (bh_ck σ this 0).bind fun _ =>
  bh_bnd (f_Jx4a65c_grow_92f84 this (v1 + 1) σ) fun v4 σ5 =>
  some (v4, σ5)
set_option maxHeartbeats 4000000 in
set_option maxRecDepth 100000 in
theorem c_Jx4a65c_grow_d5877 (X : bh_X) (this : Nat) (σ : bh_S) : bh_MX eR X yJx4a65c_grow_d5877 wsJx4a65c_grow_d5877 5 144 [.ref this] σ (f_Jx4a65c_grow_d5877 this σ) := by
  refine bh_enterF (cc := cJx4a65c_grow_d5877) (NL := 1) (ret := (some (.array (.object "java/lang/Object")))) (by decide) rfl (Nat.le_of_ble_eq_true rfl) (fun X => ?_)
  show bh_J eR yJx4a65c_grow_d5877 cJx4a65c_grow_d5877 wsJx4a65c_grow_d5877 (some (.array (.object "java/lang/Object"))) 1 5 144 X σ 0 [(0, .ref this)] [] _
  unfold f_Jx4a65c_grow_d5877
  refine bj_aload_nS dJx4a65c_grow_d5877_0 rfl 0 rfl ?_
  refine bj_aload_nS dJx4a65c_grow_d5877_1 rfl 0 rfl ?_
  refine bj_getI (ci := 0) (k := 2) (C := RJx4a65c) (T := TJx4a65c) (N := 3) rfl hi_Jx4a65c_grow_d5877_Jx4a65c (by decide) rfl fl_Jx4a65c_grow_d5877_48 (Or.inl rfl) dJx4a65c_grow_d5877_2 (fun v1 h2 => ?_)
  refine bj_iconst (v := 1) dJx4a65c_grow_d5877_5 (by decide) ?_
  refine bj_iadd dJx4a65c_grow_d5877_6 ?_
  refine bj_op (fun _ h3 => ?_)
  refine bj_callR (br_V (As := [.int (v1 + 1)]) (rest := []) (q := (RJx4a65c, TJx4a65c, 3)) (c_Jx4a65c_grow_92f84 X this (v1 + 1) σ) rfl g_Jx4a65c_grow_d5877_Jx4a65c_grow_92f84_69 rfl (bh_ck_spec h3) ⟨rfl, hd_Jx4a65c_grow_92f84⟩ rfl ⟨by decide, by decide⟩ rfl (Nat.le_of_ble_eq_true rfl) dJx4a65c_grow_d5877_7) (fun v4 σ5 h6 => ?_)
  exact bj_aret (o := v4) dJx4a65c_grow_d5877_10 (Or.inr ⟨_, rfl⟩)
/-! java/util/ArrayList.add(Ljava/lang/Object;[Ljava/lang/Object;I)V -/
set_option maxRecDepth 100000 in
theorem g_Jx4a65c_add_72be8_Jx4a65c_grow_d5877_129 : GoodIn wsJx4a65c_add_72be8 (wsV yJx4a65c_add_72be8.cls 129 RJx4a65c yJx4a65c_grow_d5877 wsJx4a65c_grow_d5877) := goodIn_r _ [2, 3, 4, 5, 6, 1, 7, 8, 9, 5, 10, 11, 12, 13, 14, 15, 16, 17, 18, 19, 20, 21, 22, 23, 24, 25, 26, 27, 28, 29, 30, 31, 32, 33, 34, 35, 36, 37, 38, 39, 40, 41, 42, 43, 44, 45, 46, 47, 48, 49] rfl (by decide +kernel)
theorem hi_Jx4a65c_add_72be8_Jx4a65c : ∀ w ∈ u_ws RJx4a65c TJx4a65c 3, w ∈ wsJx4a65c_add_72be8 := fun _ h => (List.mem_cons_of_mem _ (List.mem_append_right _ h))
set_option maxRecDepth 100000 in
theorem fl_Jx4a65c_add_72be8_48 : bh_fl wsJx4a65c_add_72be8 yJx4a65c_add_72be8.cls 48 "java/util/ArrayList" "size" "I" := Or.inl (List.mem_of_getElem? (i := 1) rfl)
def f_Jx4a65c_add_72be8_b11 (this : Nat) (x1 : Nat) (x2 : Option Nat) (x3 : Int32) (σ : bh_S) : Option (Unit × bh_S) :=
  (x2).bind fun a1 =>
  (bh_stR σ 16 a1 x3 (some x1)).bind fun σ3 =>
  (bh_wrI σ3 0 this 2 (x3 + 1)).bind fun σ5 =>
  some ((), σ5)
set_option maxHeartbeats 4000000 in
set_option maxRecDepth 100000 in
theorem j_Jx4a65c_add_72be8_b11 (X : bh_X) (this : Nat) (x1 : Nat) (x2 : Option Nat) (x3 : Int32) (σ : bh_S) : bh_J eU yJx4a65c_add_72be8 cJx4a65c_add_72be8 wsJx4a65c_add_72be8 none 4 6 164 X σ 11 [(0, .ref this), (1, .ref x1), (2, va_rf x2), (3, .int x3)] [] (f_Jx4a65c_add_72be8_b11 this x1 x2 x3 σ) := by
  unfold f_Jx4a65c_add_72be8_b11
  refine bj_aload_n dJx4a65c_add_72be8_11 rfl 2 rfl ?_
  refine bj_iload_n dJx4a65c_add_72be8_12 rfl 3 rfl ?_
  refine bj_aload_nS dJx4a65c_add_72be8_13 rfl 1 rfl ?_
  refine bj_nn (fun a1 h2 => ?_)
  subst h2
  refine bj_aast (ci := 16) (v := (some x1)) (by decide) dJx4a65c_add_72be8_14 (fun σ3 h4 => ?_)
  refine bj_aload_nS dJx4a65c_add_72be8_15 rfl 0 rfl ?_
  refine bj_iload_n dJx4a65c_add_72be8_16 rfl 3 rfl ?_
  refine bj_iconst (v := 1) dJx4a65c_add_72be8_17 (by decide) ?_
  refine bj_iadd dJx4a65c_add_72be8_18 ?_
  refine bj_putI (ci := 0) (k := 2) (C := RJx4a65c) (T := TJx4a65c) (N := 3) rfl hi_Jx4a65c_add_72be8_Jx4a65c (by decide) rfl fl_Jx4a65c_add_72be8_48 (Or.inl rfl) tyJx4a65c tyJx4a65c_ok nmJx4a65c rfl (Or.inl rfl) dJx4a65c_add_72be8_19 (fun σ5 h6 => ?_)
  exact bj_vret dJx4a65c_add_72be8_22
def f_Jx4a65c_add_72be8 (this : Nat) (p1 : Nat) (p2 : Nat) (p3 : Int32) (σ : bh_S) : Option (Unit × bh_S) :=
  (bh_len σ 16 p2).bind fun v1 =>
  if p3 = v1 then
    (bh_ck σ this 0).bind fun _ =>
    bh_bnd (f_Jx4a65c_grow_d5877 this σ) fun v5 σ6 =>
    f_Jx4a65c_add_72be8_b11 this p1 v5 p3 σ6
  else
    f_Jx4a65c_add_72be8_b11 this p1 (some p2) p3 σ
set_option maxHeartbeats 4000000 in
set_option maxRecDepth 100000 in
theorem c_Jx4a65c_add_72be8 (X : bh_X) (this : Nat) (p1 : Nat) (p2 : Nat) (p3 : Int32) (σ : bh_S) : bh_MX eU X yJx4a65c_add_72be8 wsJx4a65c_add_72be8 6 164 [.ref this, .ref p1, .ref p2, .int p3] σ (f_Jx4a65c_add_72be8 this p1 p2 p3 σ) := by
  refine bh_enterF (cc := cJx4a65c_add_72be8) (NL := 4) (ret := none) (by decide) rfl (Nat.le_of_ble_eq_true rfl) (fun X => ?_)
  show bh_J eU yJx4a65c_add_72be8 cJx4a65c_add_72be8 wsJx4a65c_add_72be8 none 4 6 164 X σ 0 [(0, .ref this), (1, .ref p1), (2, .ref p2), (3, .int p3)] [] _
  unfold f_Jx4a65c_add_72be8
  refine bj_iload_n dJx4a65c_add_72be8_0 rfl 3 rfl ?_
  refine bj_aload_nS dJx4a65c_add_72be8_1 rfl 2 rfl ?_
  refine bj_alen (ci := 16) (by decide) dJx4a65c_add_72be8_2 (fun v1 h2 => ?_)
  refine bj_icmp_ne (tgt := 11) dJx4a65c_add_72be8_3 (by decide) (fun h3 => ?_) (fun h3 => ?_)
  · refine bj_sub (lv' := [(0, .ref this), (1, .ref p1), (2, .ref p2), (3, .int p3)]) [0, 1, 2, 3] rfl ?_
    exact j_Jx4a65c_add_72be8_b11 X this p1 (some p2) p3 σ
  · refine bj_aload_nS dJx4a65c_add_72be8_6 rfl 0 rfl ?_
    refine bj_op (fun _ h4 => ?_)
    refine bj_callR (br_V (As := []) (rest := []) (q := (RJx4a65c, TJx4a65c, 3)) (c_Jx4a65c_grow_d5877 X this σ) rfl g_Jx4a65c_add_72be8_Jx4a65c_grow_d5877_129 rfl (bh_ck_spec h4) ⟨rfl, hd_Jx4a65c_grow_d5877⟩ rfl ⟨by decide, by decide⟩ rfl (Nat.le_of_ble_eq_true rfl) dJx4a65c_add_72be8_7) (fun v5 σ6 h7 => ?_)
    refine bj_astore_n (lv' := [(2, va_rf v5), (0, .ref this), (1, .ref p1), (3, .int p3)]) (o := v5) dJx4a65c_add_72be8_10 rfl (by decide) rfl ?_
    refine bj_sub (lv' := [(0, .ref this), (1, .ref p1), (2, va_rf v5), (3, .int p3)]) [1, 2, 0, 3] rfl ?_
    exact j_Jx4a65c_add_72be8_b11 X this p1 v5 p3 σ6
/-! java/util/ArrayList.add(Ljava/lang/Object;)Z -/
theorem hi_Jx4a65c_add_9ea2d_Jx4a65c : ∀ w ∈ u_ws RJx4a65c TJx4a65c 3, w ∈ wsJx4a65c_add_9ea2d := fun _ h => (List.mem_cons_of_mem _ (List.mem_append_right _ h))
set_option maxRecDepth 100000 in
theorem fl_Jx4a65c_add_9ea2d_63 : bh_fl wsJx4a65c_add_9ea2d yJx4a65c_add_9ea2d.cls 63 "java/util/ArrayList" "modCount" "I" := Or.inl (List.mem_of_getElem? (i := 1) rfl)
set_option maxRecDepth 100000 in
theorem fl_Jx4a65c_add_9ea2d_9 : bh_fl wsJx4a65c_add_9ea2d yJx4a65c_add_9ea2d.cls 9 "java/util/ArrayList" "elementData" "[Ljava/lang/Object;" := Or.inl (List.mem_of_getElem? (i := 3) rfl)
set_option maxRecDepth 100000 in
theorem fl_Jx4a65c_add_9ea2d_48 : bh_fl wsJx4a65c_add_9ea2d yJx4a65c_add_9ea2d.cls 48 "java/util/ArrayList" "size" "I" := Or.inl (List.mem_of_getElem? (i := 4) rfl)
set_option maxRecDepth 100000 in
theorem g_Jx4a65c_add_9ea2d_Jx4a65c_add_72be8_131 : GoodIn wsJx4a65c_add_9ea2d (wsV yJx4a65c_add_9ea2d.cls 131 RJx4a65c yJx4a65c_add_72be8 wsJx4a65c_add_72be8) := goodIn_r _ [5, 6, 7, 8, 9, 4, 10, 11, 12, 8, 13, 14, 15, 16, 17, 3, 18, 19, 20, 21, 22, 23, 24, 25, 26, 27, 28, 29, 30, 31, 32, 33, 34, 35, 36, 37, 38, 39, 40, 41, 42, 43, 44, 45, 46, 47, 48, 49, 50, 51, 52, 53, 54, 55] rfl (by decide +kernel)
def f_Jx4a65c_add_9ea2d (this : Nat) (p1 : Nat) (σ : bh_S) : Option (Int32 × bh_S) :=
  (bh_rdI σ 0 this 0).bind fun v1 =>
  (bh_wrI σ 0 this 0 (v1 + 1)).bind fun σ3 =>
  (bh_rdR σ3 0 this 1).bind fun v5 =>
  (bh_rdI σ3 0 this 2).bind fun v7 =>
  (v5).bind fun a9 =>
  (bh_ck σ3 this 0).bind fun _ =>
  bh_bnd (f_Jx4a65c_add_72be8 this p1 a9 v7 σ3) fun v12 σ13 =>
  bh_retZ σ13 1
set_option maxHeartbeats 4000000 in
set_option maxRecDepth 100000 in
theorem c_Jx4a65c_add_9ea2d (X : bh_X) (this : Nat) (p1 : Nat) (σ : bh_S) : bh_MX eI X yJx4a65c_add_9ea2d wsJx4a65c_add_9ea2d 7 187 [.ref this, .ref p1] σ (f_Jx4a65c_add_9ea2d this p1 σ) := by
  refine bh_enterF (cc := cJx4a65c_add_9ea2d) (NL := 2) (ret := (some .boolean)) (by decide) rfl (Nat.le_of_ble_eq_true rfl) (fun X => ?_)
  show bh_J eI yJx4a65c_add_9ea2d cJx4a65c_add_9ea2d wsJx4a65c_add_9ea2d (some .boolean) 2 7 187 X σ 0 [(0, .ref this), (1, .ref p1)] [] _
  unfold f_Jx4a65c_add_9ea2d
  refine bj_aload_nS dJx4a65c_add_9ea2d_0 rfl 0 rfl ?_
  refine bj_dup dJx4a65c_add_9ea2d_1 rfl ?_
  refine bj_getI (ci := 0) (k := 0) (C := RJx4a65c) (T := TJx4a65c) (N := 3) rfl hi_Jx4a65c_add_9ea2d_Jx4a65c (by decide) rfl fl_Jx4a65c_add_9ea2d_63 (Or.inr (List.mem_of_getElem? (i := 2) rfl)) dJx4a65c_add_9ea2d_2 (fun v1 h2 => ?_)
  refine bj_iconst (v := 1) dJx4a65c_add_9ea2d_5 (by decide) ?_
  refine bj_iadd dJx4a65c_add_9ea2d_6 ?_
  refine bj_putI (ci := 0) (k := 0) (C := RJx4a65c) (T := TJx4a65c) (N := 3) rfl hi_Jx4a65c_add_9ea2d_Jx4a65c (by decide) rfl fl_Jx4a65c_add_9ea2d_63 (Or.inr (List.mem_of_getElem? (i := 2) rfl)) tyJx4a65c tyJx4a65c_ok nmJx4a65c rfl (Or.inl rfl) dJx4a65c_add_9ea2d_7 (fun σ3 h4 => ?_)
  refine bj_aload_nS dJx4a65c_add_9ea2d_10 rfl 0 rfl ?_
  refine bj_aload_nS dJx4a65c_add_9ea2d_11 rfl 1 rfl ?_
  refine bj_aload_nS dJx4a65c_add_9ea2d_12 rfl 0 rfl ?_
  refine bj_getR (ci := 0) (k := 1) (C := RJx4a65c) (T := TJx4a65c) (N := 3) rfl hi_Jx4a65c_add_9ea2d_Jx4a65c (by decide) rfl fl_Jx4a65c_add_9ea2d_9 (Or.inl rfl) dJx4a65c_add_9ea2d_13 (fun v5 h6 => ?_)
  refine bj_aload_nS dJx4a65c_add_9ea2d_16 rfl 0 rfl ?_
  refine bj_getI (ci := 0) (k := 2) (C := RJx4a65c) (T := TJx4a65c) (N := 3) rfl hi_Jx4a65c_add_9ea2d_Jx4a65c (by decide) rfl fl_Jx4a65c_add_9ea2d_48 (Or.inl rfl) dJx4a65c_add_9ea2d_17 (fun v7 h8 => ?_)
  refine bj_nn (fun a9 h10 => ?_)
  subst h10
  refine bj_op (fun _ h11 => ?_)
  refine bj_callU (br_V (As := [.ref p1, .ref a9, .int v7]) (rest := []) (q := (RJx4a65c, TJx4a65c, 3)) (c_Jx4a65c_add_72be8 X this p1 a9 v7 σ3) rfl g_Jx4a65c_add_9ea2d_Jx4a65c_add_72be8_131 rfl (bh_ck_spec h11) ⟨rfl, hd_Jx4a65c_add_72be8⟩ rfl ⟨by decide, by decide⟩ rfl (Nat.le_of_ble_eq_true rfl) dJx4a65c_add_9ea2d_20) (fun v12 σ13 h14 => ?_)
  refine bj_iconst (v := 1) dJx4a65c_add_9ea2d_23 (by decide) ?_
  exact bj_zret dJx4a65c_add_9ea2d_24
/-! java/util/ArrayList.size()I -/
theorem hi_Jx4a65c_size_8abf5_Jx4a65c : ∀ w ∈ u_ws RJx4a65c TJx4a65c 3, w ∈ wsJx4a65c_size_8abf5 := fun _ h => (List.mem_cons_of_mem _ (List.mem_append_right _ h))
set_option maxRecDepth 100000 in
theorem fl_Jx4a65c_size_8abf5_48 : bh_fl wsJx4a65c_size_8abf5 yJx4a65c_size_8abf5.cls 48 "java/util/ArrayList" "size" "I" := Or.inl (List.mem_of_getElem? (i := 1) rfl)
def f_Jx4a65c_size_8abf5 (this : Nat) (σ : bh_S) : Option (Int32 × bh_S) :=
  (bh_rdI σ 0 this 2).bind fun v1 =>
  some (v1, σ)
set_option maxHeartbeats 4000000 in
set_option maxRecDepth 100000 in
theorem c_Jx4a65c_size_8abf5 (X : bh_X) (this : Nat) (σ : bh_S) : bh_MX eI X yJx4a65c_size_8abf5 wsJx4a65c_size_8abf5 0 0 [.ref this] σ (f_Jx4a65c_size_8abf5 this σ) := by
  refine bh_enterF (cc := cJx4a65c_size_8abf5) (NL := 1) (ret := (some .int)) (by decide) rfl (Nat.le_of_ble_eq_true rfl) (fun X => ?_)
  show bh_J eI yJx4a65c_size_8abf5 cJx4a65c_size_8abf5 wsJx4a65c_size_8abf5 (some .int) 1 0 0 X σ 0 [(0, .ref this)] [] _
  unfold f_Jx4a65c_size_8abf5
  refine bj_aload_nS dJx4a65c_size_8abf5_0 rfl 0 rfl ?_
  refine bj_getI (ci := 0) (k := 2) (C := RJx4a65c) (T := TJx4a65c) (N := 3) rfl hi_Jx4a65c_size_8abf5_Jx4a65c (by decide) rfl fl_Jx4a65c_size_8abf5_48 (Or.inl rfl) dJx4a65c_size_8abf5_1 (fun v1 h2 => ?_)
  exact bj_iret dJx4a65c_size_8abf5_4
