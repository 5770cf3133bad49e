/-! BeetHouse$Farmer.<init>(I)V -/
theorem hi_X0_init_X0 : ∀ w ∈ u_ws RX0 TX0 4, w ∈ wsX0_init := fun _ h => (List.mem_cons_of_mem _ (List.mem_append_right _ h))
set_option maxRecDepth 100000 in
theorem fl_X0_init_7 : bh_fl wsX0_init yX0_init.cls 7 "BeetHouse$Farmer" "share" "I" := Or.inl (List.mem_of_getElem? (i := 4) rfl)
set_option maxRecDepth 100000 in
theorem fl_X0_init_13 : bh_fl wsX0_init yX0_init.cls 13 "BeetHouse$Farmer" "coins" "I" := Or.inl (List.mem_of_getElem? (i := 5) rfl)
set_option maxRecDepth 100000 in
theorem fl_X0_init_16 : bh_fl wsX0_init yX0_init.cls 16 "BeetHouse$Farmer" "came" "I" := Or.inl (List.mem_of_getElem? (i := 6) rfl)
set_option maxRecDepth 100000 in
theorem fl_X0_init_19 : bh_fl wsX0_init yX0_init.cls 19 "BeetHouse$Farmer" "number" "I" := Or.inl (List.mem_of_getElem? (i := 7) rfl)
def f_X0_init (this : Nat) (p1 : Int32) (σ : bh_S) : Option (Unit × bh_S) :=
  (bh_wrI σ 1 this 1 0).bind fun σ1 =>
  (bh_wrI σ1 1 this 2 0).bind fun σ3 =>
  (bh_wrI σ3 1 this 3 0).bind fun σ5 =>
  (bh_wrI σ5 1 this 0 p1).bind fun σ7 =>
  some ((), σ7)
set_option maxHeartbeats 4000000 in
set_option maxRecDepth 100000 in
theorem c_X0_init (X : bh_X) (this : Nat) (p1 : Int32) (σ : bh_S) : bh_MX eU X yX0_init wsX0_init 1 12 [.ref this, .int p1] σ (f_X0_init this p1 σ) := by
  refine bh_enter (cc := cX0_init) (NL := 2) (ret := none) (by decide) rfl (Nat.le_of_ble_eq_true rfl) (fun X => ?_)
  show bh_J eU yX0_init cX0_init wsX0_init none 2 1 12 X σ 0 [(0, .ref this), (1, .int p1)] [] _
  unfold f_X0_init
  refine bj_aload_nS dX0_init_0 rfl 0 rfl ?_
  refine bj_objInit (List.mem_of_getElem? (i := 1) rfl) (List.mem_of_getElem? (i := 2) rfl) (List.mem_of_getElem? (i := 3) rfl) (by decide) (Nat.le_of_ble_eq_true rfl) dX0_init_1 ?_
  refine bj_aload_nS dX0_init_4 rfl 0 rfl ?_
  refine bj_iconst (v := 0) dX0_init_5 (by decide) ?_
  refine bj_putI (ci := 1) (k := 1) (C := RX0) (T := TX0) (N := 4) rfl hi_X0_init_X0 (by decide) rfl fl_X0_init_7 (Or.inl rfl) tyX0 tyX0_ok nmX0 rfl (Or.inl rfl) dX0_init_6 (fun σ1 h2 => ?_)
  refine bj_aload_nS dX0_init_9 rfl 0 rfl ?_
  refine bj_iconst (v := 0) dX0_init_10 (by decide) ?_
  refine bj_putI (ci := 1) (k := 2) (C := RX0) (T := TX0) (N := 4) rfl hi_X0_init_X0 (by decide) rfl fl_X0_init_13 (Or.inl rfl) tyX0 tyX0_ok nmX0 rfl (Or.inl rfl) dX0_init_11 (fun σ3 h4 => ?_)
  refine bj_aload_nS dX0_init_14 rfl 0 rfl ?_
  refine bj_iconst (v := 0) dX0_init_15 (by decide) ?_
  refine bj_putI (ci := 1) (k := 3) (C := RX0) (T := TX0) (N := 4) rfl hi_X0_init_X0 (by decide) rfl fl_X0_init_16 (Or.inl rfl) tyX0 tyX0_ok nmX0 rfl (Or.inl rfl) dX0_init_16 (fun σ5 h6 => ?_)
  refine bj_aload_nS dX0_init_19 rfl 0 rfl ?_
  refine bj_iload_n dX0_init_20 rfl 1 rfl ?_
  refine bj_putI (ci := 1) (k := 0) (C := RX0) (T := TX0) (N := 4) rfl hi_X0_init_X0 (by decide) rfl fl_X0_init_19 (Or.inl rfl) tyX0 tyX0_ok nmX0 rfl (Or.inr ⟨rfl, rfl, rfl, List.mem_of_getElem? (i := 7) rfl⟩) dX0_init_21 (fun σ7 h8 => ?_)
  exact bj_vret dX0_init_24
/-! BeetHouse$Farmer.claim(I)I -/
theorem hi_X0_claim_X0 : ∀ w ∈ u_ws RX0 TX0 4, w ∈ wsX0_claim := fun _ h => (List.mem_cons_of_mem _ (List.mem_append_right _ h))
set_option maxRecDepth 100000 in
theorem fl_X0_claim_7 : bh_fl wsX0_claim yX0_claim.cls 7 "BeetHouse$Farmer" "share" "I" := Or.inl (List.mem_of_getElem? (i := 1) rfl)
set_option maxRecDepth 100000 in
theorem fl_X0_claim_16 : bh_fl wsX0_claim yX0_claim.cls 16 "BeetHouse$Farmer" "came" "I" := Or.inl (List.mem_of_getElem? (i := 2) rfl)
def f_X0_claim (this : Nat) (p1 : Int32) (σ : bh_S) : Option (Int32 × bh_S) :=
  (bh_rdI σ 1 this 1).bind fun v1 =>
  (bh_rdI σ 1 this 3).bind fun v3 =>
  some ((v1 * p1) - (1000 * v3), σ)
set_option maxHeartbeats 4000000 in
set_option maxRecDepth 100000 in
theorem c_X0_claim (X : bh_X) (this : Nat) (p1 : Int32) (σ : bh_S) : bh_MX eI X yX0_claim wsX0_claim 0 0 [.ref this, .int p1] σ (f_X0_claim this p1 σ) := by
  refine bh_enter (cc := cX0_claim) (NL := 2) (ret := (some .int)) (by decide) rfl (Nat.le_of_ble_eq_true rfl) (fun X => ?_)
  show bh_J eI yX0_claim cX0_claim wsX0_claim (some .int) 2 0 0 X σ 0 [(0, .ref this), (1, .int p1)] [] _
  unfold f_X0_claim
  refine bj_aload_nS dX0_claim_0 rfl 0 rfl ?_
  refine bj_getI (ci := 1) (k := 1) (C := RX0) (T := TX0) (N := 4) rfl hi_X0_claim_X0 (by decide) rfl fl_X0_claim_7 (Or.inl rfl) dX0_claim_1 (fun v1 h2 => ?_)
  refine bj_iload_n dX0_claim_4 rfl 1 rfl ?_
  refine bj_imul dX0_claim_5 ?_
  refine bj_sipush (v := 1000) dX0_claim_6 (by decide) ?_
  refine bj_aload_nS dX0_claim_9 rfl 0 rfl ?_
  refine bj_getI (ci := 1) (k := 3) (C := RX0) (T := TX0) (N := 4) rfl hi_X0_claim_X0 (by decide) rfl fl_X0_claim_16 (Or.inl rfl) dX0_claim_10 (fun v3 h4 => ?_)
  refine bj_imul dX0_claim_13 ?_
  refine bj_isub dX0_claim_14 ?_
  exact bj_iret dX0_claim_15
/-! BeetHouse$Farmer.comesBefore(LBeetHouse$Farmer;I)Z -/
set_option maxRecDepth 100000 in
theorem g_X0_comesBefore_X0_claim_22 : GoodIn wsX0_comesBefore (wsV yX0_comesBefore.cls 22 RX0 yX0_claim wsX0_claim) := goodIn_r _ [2, 3, 4, 5, 6, 7, 8, 9, 10, 11, 12] rfl (by decide +kernel)
theorem hi_X0_comesBefore_X0 : ∀ w ∈ u_ws RX0 TX0 4, w ∈ wsX0_comesBefore := fun _ h => (List.mem_cons_of_mem _ (List.mem_append_right _ h))
set_option maxRecDepth 100000 in
theorem fl_X0_comesBefore_19 : bh_fl wsX0_comesBefore yX0_comesBefore.cls 19 "BeetHouse$Farmer" "number" "I" := Or.inl (List.mem_of_getElem? (i := 1) rfl)
def f_X0_comesBefore (this : Nat) (p1 : Nat) (p2 : Int32) (σ : bh_S) : Option (Int32 × bh_S) :=
  (bh_ck σ this 1).bind fun _ =>
  bh_bnd (f_X0_claim this p2 σ) fun v2 σ3 =>
  (bh_ck σ3 p1 1).bind fun _ =>
  bh_bnd (f_X0_claim p1 p2 σ3) fun v6 σ7 =>
  if v6 < v2 then
    bh_retZ σ7 1
  else
    if v2 = v6 then
      (bh_rdI σ7 1 this 0).bind fun v11 =>
      (bh_rdI σ7 1 p1 0).bind fun v13 =>
      if v13 ≤ v11 then
        bh_retZ σ7 0
      else
        bh_retZ σ7 1
    else
      bh_retZ σ7 0
set_option maxHeartbeats 4000000 in
set_option maxRecDepth 100000 in
theorem c_X0_comesBefore (X : bh_X) (this : Nat) (p1 : Nat) (p2 : Int32) (σ : bh_S) : bh_MX eI X yX0_comesBefore wsX0_comesBefore 1 21 [.ref this, .ref p1, .int p2] σ (f_X0_comesBefore this p1 p2 σ) := by
  refine bh_enter (cc := cX0_comesBefore) (NL := 5) (ret := (some .boolean)) (by decide) rfl (Nat.le_of_ble_eq_true rfl) (fun X => ?_)
  show bh_J eI yX0_comesBefore cX0_comesBefore wsX0_comesBefore (some .boolean) 5 1 21 X σ 0 [(0, .ref this), (1, .ref p1), (2, .int p2)] [] _
  unfold f_X0_comesBefore
  refine bj_aload_nS dX0_comesBefore_0 rfl 0 rfl ?_
  refine bj_iload_n dX0_comesBefore_1 rfl 2 rfl ?_
  refine bj_op (fun _ h1 => ?_)
  refine bj_callI (br_V (As := [.int p2]) (rest := []) (q := (RX0, TX0, 4)) (c_X0_claim X this p2 σ) rfl g_X0_comesBefore_X0_claim_22 rfl (bh_ck_spec h1) ⟨rfl, hd_X0_claim⟩ rfl ⟨by decide, by decide⟩ rfl (Nat.le_of_ble_eq_true rfl) dX0_comesBefore_2) (fun v2 σ3 h4 => ?_)
  refine bj_istore_n (lv' := [(3, .int v2), (0, .ref this), (1, .ref p1), (2, .int p2)]) dX0_comesBefore_5 rfl (by decide) rfl ?_
  refine bj_aload_nS dX0_comesBefore_6 rfl 2 rfl ?_
  refine bj_iload_n dX0_comesBefore_7 rfl 3 rfl ?_
  refine bj_op (fun _ h5 => ?_)
  refine bj_callI (br_V (As := [.int p2]) (rest := []) (q := (RX0, TX0, 4)) (c_X0_claim X p1 p2 σ3) rfl g_X0_comesBefore_X0_claim_22 rfl (bh_ck_spec h5) ⟨rfl, hd_X0_claim⟩ rfl ⟨by decide, by decide⟩ rfl (Nat.le_of_ble_eq_true rfl) dX0_comesBefore_8) (fun v6 σ7 h8 => ?_)
  refine bj_istore (lv' := [(4, .int v6), (3, .int v2), (0, .ref this), (1, .ref p1), (2, .int p2)]) dX0_comesBefore_11 (by decide) rfl ?_
  refine bj_iload_n dX0_comesBefore_13 rfl 1 rfl ?_
  refine bj_iload dX0_comesBefore_14 0 rfl ?_
  refine bj_icmp_gt (tgt := 36) dX0_comesBefore_16 (by decide) (fun h9 => ?_) (fun h9 => ?_)
  · refine bj_iconst (v := 1) dX0_comesBefore_36 (by decide) ?_
    refine bj_goto (tgt := 41) dX0_comesBefore_37 (by decide) ?_
    exact bj_zret dX0_comesBefore_41
  · refine bj_iload_n dX0_comesBefore_19 rfl 1 rfl ?_
    refine bj_iload dX0_comesBefore_20 0 rfl ?_
    refine bj_icmp_ne (tgt := 40) dX0_comesBefore_22 (by decide) (fun h10 => ?_) (fun h10 => ?_)
    · refine bj_iconst (v := 0) dX0_comesBefore_40 (by decide) ?_
      exact bj_zret dX0_comesBefore_41
    · refine bj_aload_nS dX0_comesBefore_25 rfl 2 rfl ?_
      refine bj_getI (ci := 1) (k := 0) (C := RX0) (T := TX0) (N := 4) rfl hi_X0_comesBefore_X0 (by decide) rfl fl_X0_comesBefore_19 (Or.inl rfl) dX0_comesBefore_26 (fun v11 h12 => ?_)
      refine bj_aload_nS dX0_comesBefore_29 rfl 3 rfl ?_
      refine bj_getI (ci := 1) (k := 0) (C := RX0) (T := TX0) (N := 4) rfl hi_X0_comesBefore_X0 (by decide) rfl fl_X0_comesBefore_19 (Or.inl rfl) dX0_comesBefore_30 (fun v13 h14 => ?_)
      refine bj_icmp_ge (tgt := 40) dX0_comesBefore_33 (by decide) (fun h15 => ?_) (fun h15 => ?_)
      · refine bj_iconst (v := 0) dX0_comesBefore_40 (by decide) ?_
        exact bj_zret dX0_comesBefore_41
      · refine bj_iconst (v := 1) dX0_comesBefore_36 (by decide) ?_
        refine bj_goto (tgt := 41) dX0_comesBefore_37 (by decide) ?_
        exact bj_zret dX0_comesBefore_41
/-! BeetHouse$Gang.<init>()V -/
theorem hi_X1_init_X1 : ∀ w ∈ u_ws RX1 TX1 2, w ∈ wsX1_init := fun _ h => (List.mem_cons_of_mem _ (List.mem_append_right _ h))
set_option maxRecDepth 100000 in
theorem fl_X1_init_7 : bh_fl wsX1_init yX1_init.cls 7 "BeetHouse$Gang" "rate" "I" := Or.inl (List.mem_of_getElem? (i := 4) rfl)
set_option maxRecDepth 100000 in
theorem fl_X1_init_13 : bh_fl wsX1_init yX1_init.cls 13 "BeetHouse$Gang" "plot" "LBeetHouse$Plot;" := Or.inl (List.mem_of_getElem? (i := 5) rfl)
def f_X1_init (this : Nat) (σ : bh_S) : Option (Unit × bh_S) :=
  (bh_wrI σ 2 this 0 0).bind fun σ1 =>
  (bh_wrR σ1 2 this 1 none).bind fun σ3 =>
  some ((), σ3)
set_option maxHeartbeats 4000000 in
set_option maxRecDepth 100000 in
theorem c_X1_init (X : bh_X) (this : Nat) (σ : bh_S) : bh_MX eU X yX1_init wsX1_init 1 12 [.ref this] σ (f_X1_init this σ) := by
  refine bh_enter (cc := cX1_init) (NL := 1) (ret := none) (by decide) rfl (Nat.le_of_ble_eq_true rfl) (fun X => ?_)
  show bh_J eU yX1_init cX1_init wsX1_init none 1 1 12 X σ 0 [(0, .ref this)] [] _
  unfold f_X1_init
  refine bj_aload_nS dX1_init_0 rfl 0 rfl ?_
  refine bj_objInit (List.mem_of_getElem? (i := 1) rfl) (List.mem_of_getElem? (i := 2) rfl) (List.mem_of_getElem? (i := 3) rfl) (by decide) (Nat.le_of_ble_eq_true rfl) dX1_init_1 ?_
  refine bj_aload_nS dX1_init_4 rfl 0 rfl ?_
  refine bj_iconst (v := 0) dX1_init_5 (by decide) ?_
  refine bj_putI (ci := 2) (k := 0) (C := RX1) (T := TX1) (N := 2) rfl hi_X1_init_X1 (by decide) rfl fl_X1_init_7 (Or.inl rfl) tyX1 tyX1_ok nmX1 rfl (Or.inl rfl) dX1_init_6 (fun σ1 h2 => ?_)
  refine bj_aload_nS dX1_init_9 rfl 0 rfl ?_
  refine bj_null dX1_init_10 ?_
  refine bj_putR (ci := 2) (k := 1) (C := RX1) (T := TX1) (N := 2) (v := none) rfl hi_X1_init_X1 (by decide) rfl fl_X1_init_13 (Or.inl rfl) tyX1 tyX1_ok nmX1 (Or.inl ⟨_, rfl⟩) (Or.inl rfl) dX1_init_11 (fun σ3 h4 => ?_)
  exact bj_vret dX1_init_14
/-! BeetHouse$Load.<init>(LBeetHouse$Plot;II)V -/
theorem hi_X2_init_X2 : ∀ w ∈ u_ws RX2 TX2 3, w ∈ wsX2_init := fun _ h => (List.mem_cons_of_mem _ (List.mem_append_right _ h))
set_option maxRecDepth 100000 in
theorem fl_X2_init_7 : bh_fl wsX2_init yX2_init.cls 7 "BeetHouse$Load" "plot" "LBeetHouse$Plot;" := Or.inl (List.mem_of_getElem? (i := 4) rfl)
set_option maxRecDepth 100000 in
theorem fl_X2_init_13 : bh_fl wsX2_init yX2_init.cls 13 "BeetHouse$Load" "roots" "I" := Or.inl (List.mem_of_getElem? (i := 5) rfl)
set_option maxRecDepth 100000 in
theorem fl_X2_init_17 : bh_fl wsX2_init yX2_init.cls 17 "BeetHouse$Load" "sugar" "I" := Or.inl (List.mem_of_getElem? (i := 6) rfl)
def f_X2_init (this : Nat) (p1 : Nat) (p2 : Int32) (p3 : Int32) (σ : bh_S) : Option (Unit × bh_S) :=
  (bh_wrR σ 3 this 0 (some p1)).bind fun σ1 =>
  (bh_wrI σ1 3 this 1 p2).bind fun σ3 =>
  (bh_wrI σ3 3 this 2 p3).bind fun σ5 =>
  some ((), σ5)
set_option maxHeartbeats 4000000 in
set_option maxRecDepth 100000 in
theorem c_X2_init (X : bh_X) (this : Nat) (p1 : Nat) (p2 : Int32) (p3 : Int32) (σ : bh_S) : bh_MX eU X yX2_init wsX2_init 1 12 [.ref this, .ref p1, .int p2, .int p3] σ (f_X2_init this p1 p2 p3 σ) := by
  refine bh_enter (cc := cX2_init) (NL := 4) (ret := none) (by decide) rfl (Nat.le_of_ble_eq_true rfl) (fun X => ?_)
  show bh_J eU yX2_init cX2_init wsX2_init none 4 1 12 X σ 0 [(0, .ref this), (1, .ref p1), (2, .int p2), (3, .int p3)] [] _
  unfold f_X2_init
  refine bj_aload_nS dX2_init_0 rfl 0 rfl ?_
  refine bj_objInit (List.mem_of_getElem? (i := 1) rfl) (List.mem_of_getElem? (i := 2) rfl) (List.mem_of_getElem? (i := 3) rfl) (by decide) (Nat.le_of_ble_eq_true rfl) dX2_init_1 ?_
  refine bj_aload_nS dX2_init_4 rfl 0 rfl ?_
  refine bj_aload_nS dX2_init_5 rfl 1 rfl ?_
  refine bj_putR (ci := 3) (k := 0) (C := RX2) (T := TX2) (N := 3) (v := (some p1)) rfl hi_X2_init_X2 (by decide) rfl fl_X2_init_7 (Or.inl rfl) tyX2 tyX2_ok nmX2 (Or.inl ⟨_, rfl⟩) (Or.inr ⟨rfl, rfl, rfl, List.mem_of_getElem? (i := 4) rfl⟩) dX2_init_6 (fun σ1 h2 => ?_)
  refine bj_aload_nS dX2_init_9 rfl 0 rfl ?_
  refine bj_iload_n dX2_init_10 rfl 2 rfl ?_
  refine bj_putI (ci := 3) (k := 1) (C := RX2) (T := TX2) (N := 3) rfl hi_X2_init_X2 (by decide) rfl fl_X2_init_13 (Or.inl rfl) tyX2 tyX2_ok nmX2 rfl (Or.inl rfl) dX2_init_11 (fun σ3 h4 => ?_)
  refine bj_aload_nS dX2_init_14 rfl 0 rfl ?_
  refine bj_iload_n dX2_init_15 rfl 3 rfl ?_
  refine bj_putI (ci := 3) (k := 2) (C := RX2) (T := TX2) (N := 3) rfl hi_X2_init_X2 (by decide) rfl fl_X2_init_17 (Or.inl rfl) tyX2 tyX2_ok nmX2 rfl (Or.inr ⟨rfl, rfl, rfl, List.mem_of_getElem? (i := 6) rfl⟩) dX2_init_16 (fun σ5 h6 => ?_)
  exact bj_vret dX2_init_19
/-! BeetHouse$Lorry.<init>(I)V -/
theorem hi_X3_init_X3 : ∀ w ∈ u_ws RX3 TX3 8, w ∈ wsX3_init := fun _ h => (List.mem_cons_of_mem _ (List.mem_append_right _ h))
set_option maxRecDepth 100000 in
theorem fl_X3_init_9 : bh_fl wsX3_init yX3_init.cls 9 "BeetHouse$Lorry" "state" "I" := Or.inl (List.mem_of_getElem? (i := 4) rfl)
set_option maxRecDepth 100000 in
theorem fl_X3_init_15 : bh_fl wsX3_init yX3_init.cls 15 "BeetHouse$Lorry" "plot" "LBeetHouse$Plot;" := Or.inl (List.mem_of_getElem? (i := 5) rfl)
set_option maxRecDepth 100000 in
theorem fl_X3_init_19 : bh_fl wsX3_init yX3_init.cls 19 "BeetHouse$Lorry" "there" "I" := Or.inl (List.mem_of_getElem? (i := 6) rfl)
set_option maxRecDepth 100000 in
theorem fl_X3_init_22 : bh_fl wsX3_init yX3_init.cls 22 "BeetHouse$Lorry" "roots" "I" := Or.inl (List.mem_of_getElem? (i := 7) rfl)
set_option maxRecDepth 100000 in
theorem fl_X3_init_25 : bh_fl wsX3_init yX3_init.cls 25 "BeetHouse$Lorry" "sugar" "I" := Or.inl (List.mem_of_getElem? (i := 8) rfl)
set_option maxRecDepth 100000 in
theorem fl_X3_init_28 : bh_fl wsX3_init yX3_init.cls 28 "BeetHouse$Lorry" "drowned" "I" := Or.inl (List.mem_of_getElem? (i := 9) rfl)
set_option maxRecDepth 100000 in
theorem fl_X3_init_31 : bh_fl wsX3_init yX3_init.cls 31 "BeetHouse$Lorry" "brought" "I" := Or.inl (List.mem_of_getElem? (i := 10) rfl)
set_option maxRecDepth 100000 in
theorem fl_X3_init_34 : bh_fl wsX3_init yX3_init.cls 34 "BeetHouse$Lorry" "capacity" "I" := Or.inl (List.mem_of_getElem? (i := 11) rfl)
def f_X3_init (this : Nat) (p1 : Int32) (σ : bh_S) : Option (Unit × bh_S) :=
  (bh_wrI σ 4 this 1 0).bind fun σ1 =>
  (bh_wrR σ1 4 this 2 none).bind fun σ3 =>
  (bh_wrI σ3 4 this 3 (-9)).bind fun σ5 =>
  (bh_wrI σ5 4 this 4 0).bind fun σ7 =>
  (bh_wrI σ7 4 this 5 0).bind fun σ9 =>
  (bh_wrI σ9 4 this 6 0).bind fun σ11 =>
  (bh_wrI σ11 4 this 7 0).bind fun σ13 =>
  (bh_wrI σ13 4 this 0 p1).bind fun σ15 =>
  some ((), σ15)
set_option maxHeartbeats 4000000 in
set_option maxRecDepth 100000 in
theorem c_X3_init (X : bh_X) (this : Nat) (p1 : Int32) (σ : bh_S) : bh_MX eU X yX3_init wsX3_init 1 12 [.ref this, .int p1] σ (f_X3_init this p1 σ) := by
  refine bh_enter (cc := cX3_init) (NL := 2) (ret := none) (by decide) rfl (Nat.le_of_ble_eq_true rfl) (fun X => ?_)
  show bh_J eU yX3_init cX3_init wsX3_init none 2 1 12 X σ 0 [(0, .ref this), (1, .int p1)] [] _
  unfold f_X3_init
  refine bj_aload_nS dX3_init_0 rfl 0 rfl ?_
  refine bj_objInit (List.mem_of_getElem? (i := 1) rfl) (List.mem_of_getElem? (i := 2) rfl) (List.mem_of_getElem? (i := 3) rfl) (by decide) (Nat.le_of_ble_eq_true rfl) dX3_init_1 ?_
  refine bj_aload_nS dX3_init_4 rfl 0 rfl ?_
  refine bj_iconst (v := 0) dX3_init_5 (by decide) ?_
  refine bj_putI (ci := 4) (k := 1) (C := RX3) (T := TX3) (N := 8) rfl hi_X3_init_X3 (by decide) rfl fl_X3_init_9 (Or.inl rfl) tyX3 tyX3_ok nmX3 rfl (Or.inl rfl) dX3_init_6 (fun σ1 h2 => ?_)
  refine bj_aload_nS dX3_init_9 rfl 0 rfl ?_
  refine bj_null dX3_init_10 ?_
  refine bj_putR (ci := 4) (k := 2) (C := RX3) (T := TX3) (N := 8) (v := none) rfl hi_X3_init_X3 (by decide) rfl fl_X3_init_15 (Or.inl rfl) tyX3 tyX3_ok nmX3 (Or.inl ⟨_, rfl⟩) (Or.inl rfl) dX3_init_11 (fun σ3 h4 => ?_)
  refine bj_aload_nS dX3_init_14 rfl 0 rfl ?_
  refine bj_bipush (v := (-9)) dX3_init_15 (by decide) ?_
  refine bj_putI (ci := 4) (k := 3) (C := RX3) (T := TX3) (N := 8) rfl hi_X3_init_X3 (by decide) rfl fl_X3_init_19 (Or.inl rfl) tyX3 tyX3_ok nmX3 rfl (Or.inl rfl) dX3_init_17 (fun σ5 h6 => ?_)
  refine bj_aload_nS dX3_init_20 rfl 0 rfl ?_
  refine bj_iconst (v := 0) dX3_init_21 (by decide) ?_
  refine bj_putI (ci := 4) (k := 4) (C := RX3) (T := TX3) (N := 8) rfl hi_X3_init_X3 (by decide) rfl fl_X3_init_22 (Or.inl rfl) tyX3 tyX3_ok nmX3 rfl (Or.inl rfl) dX3_init_22 (fun σ7 h8 => ?_)
  refine bj_aload_nS dX3_init_25 rfl 0 rfl ?_
  refine bj_iconst (v := 0) dX3_init_26 (by decide) ?_
  refine bj_putI (ci := 4) (k := 5) (C := RX3) (T := TX3) (N := 8) rfl hi_X3_init_X3 (by decide) rfl fl_X3_init_25 (Or.inl rfl) tyX3 tyX3_ok nmX3 rfl (Or.inl rfl) dX3_init_27 (fun σ9 h10 => ?_)
  refine bj_aload_nS dX3_init_30 rfl 0 rfl ?_
  refine bj_iconst (v := 0) dX3_init_31 (by decide) ?_
  refine bj_putI (ci := 4) (k := 6) (C := RX3) (T := TX3) (N := 8) rfl hi_X3_init_X3 (by decide) rfl fl_X3_init_28 (Or.inl rfl) tyX3 tyX3_ok nmX3 rfl (Or.inl rfl) dX3_init_32 (fun σ11 h12 => ?_)
  refine bj_aload_nS dX3_init_35 rfl 0 rfl ?_
  refine bj_iconst (v := 0) dX3_init_36 (by decide) ?_
  refine bj_putI (ci := 4) (k := 7) (C := RX3) (T := TX3) (N := 8) rfl hi_X3_init_X3 (by decide) rfl fl_X3_init_31 (Or.inl rfl) tyX3 tyX3_ok nmX3 rfl (Or.inl rfl) dX3_init_37 (fun σ13 h14 => ?_)
  refine bj_aload_nS dX3_init_40 rfl 0 rfl ?_
  refine bj_iload_n dX3_init_41 rfl 1 rfl ?_
  refine bj_putI (ci := 4) (k := 0) (C := RX3) (T := TX3) (N := 8) rfl hi_X3_init_X3 (by decide) rfl fl_X3_init_34 (Or.inl rfl) tyX3 tyX3_ok nmX3 rfl (Or.inr ⟨rfl, rfl, rfl, List.mem_of_getElem? (i := 11) rfl⟩) dX3_init_42 (fun σ15 h16 => ?_)
  exact bj_vret dX3_init_45
/-! BeetHouse$Lorry.isOutTo(LBeetHouse$Plot;)Z -/
theorem hi_X3_isOutTo_X3 : ∀ w ∈ u_ws RX3 TX3 8, w ∈ wsX3_isOutTo := fun _ h => (List.mem_cons_of_mem _ (List.mem_append_right _ h))
set_option maxRecDepth 100000 in
theorem fl_X3_isOutTo_9 : bh_fl wsX3_isOutTo yX3_isOutTo.cls 9 "BeetHouse$Lorry" "state" "I" := Or.inl (List.mem_of_getElem? (i := 1) rfl)
set_option maxRecDepth 100000 in
theorem fl_X3_isOutTo_15 : bh_fl wsX3_isOutTo yX3_isOutTo.cls 15 "BeetHouse$Lorry" "plot" "LBeetHouse$Plot;" := Or.inl (List.mem_of_getElem? (i := 2) rfl)
def f_X3_isOutTo (this : Nat) (p1 : Nat) (σ : bh_S) : Option (Int32 × bh_S) :=
  (bh_rdI σ 4 this 1).bind fun v1 =>
  if v1 = 1 then
    (bh_rdR σ 4 this 2).bind fun v4 =>
    if v4 = (some p1) then
      bh_retZ σ 1
    else
      bh_retZ σ 0
  else
    bh_retZ σ 0
set_option maxHeartbeats 4000000 in
set_option maxRecDepth 100000 in
theorem c_X3_isOutTo (X : bh_X) (this : Nat) (p1 : Nat) (σ : bh_S) : bh_MX eI X yX3_isOutTo wsX3_isOutTo 0 0 [.ref this, .ref p1] σ (f_X3_isOutTo this p1 σ) := by
  refine bh_enter (cc := cX3_isOutTo) (NL := 2) (ret := (some .boolean)) (by decide) rfl (Nat.le_of_ble_eq_true rfl) (fun X => ?_)
  show bh_J eI yX3_isOutTo cX3_isOutTo wsX3_isOutTo (some .boolean) 2 0 0 X σ 0 [(0, .ref this), (1, .ref p1)] [] _
  unfold f_X3_isOutTo
  refine bj_aload_nS dX3_isOutTo_0 rfl 0 rfl ?_
  refine bj_getI (ci := 4) (k := 1) (C := RX3) (T := TX3) (N := 8) rfl hi_X3_isOutTo_X3 (by decide) rfl fl_X3_isOutTo_9 (Or.inl rfl) dX3_isOutTo_1 (fun v1 h2 => ?_)
  refine bj_iconst (v := 1) dX3_isOutTo_4 (by decide) ?_
  refine bj_icmp_ne (tgt := 20) dX3_isOutTo_5 (by decide) (fun h3 => ?_) (fun h3 => ?_)
  · refine bj_iconst (v := 0) dX3_isOutTo_20 (by decide) ?_
    exact bj_zret dX3_isOutTo_21
  · refine bj_aload_nS dX3_isOutTo_8 rfl 0 rfl ?_
    refine bj_getR (ci := 4) (k := 2) (C := RX3) (T := TX3) (N := 8) rfl hi_X3_isOutTo_X3 (by decide) rfl fl_X3_isOutTo_15 (Or.inl rfl) dX3_isOutTo_9 (fun v4 h5 => ?_)
    refine bj_aload_nS dX3_isOutTo_12 rfl 1 rfl ?_
    refine bj_acmp_ne (rx := v4) (ry := (some p1)) (tgt := 20) dX3_isOutTo_13 (by decide) (fun h6 => ?_) (fun h6 => ?_)
    · refine bj_iconst (v := 0) dX3_isOutTo_20 (by decide) ?_
      exact bj_zret dX3_isOutTo_21
    · refine bj_iconst (v := 1) dX3_isOutTo_16 (by decide) ?_
      refine bj_goto (tgt := 21) dX3_isOutTo_17 (by decide) ?_
      exact bj_zret dX3_isOutTo_21
/-! BeetHouse$Lorry.setOut(LBeetHouse$Plot;I)V -/
theorem hi_X3_setOut_X3 : ∀ w ∈ u_ws RX3 TX3 8, w ∈ wsX3_setOut := fun _ h => (List.mem_cons_of_mem _ (List.mem_append_left _ (List.mem_append_right _ h)))
set_option maxRecDepth 100000 in
theorem fl_X3_setOut_9 : bh_fl wsX3_setOut yX3_setOut.cls 9 "BeetHouse$Lorry" "state" "I" := Or.inl (List.mem_of_getElem? (i := 1) rfl)
set_option maxRecDepth 100000 in
theorem fl_X3_setOut_15 : bh_fl wsX3_setOut yX3_setOut.cls 15 "BeetHouse$Lorry" "plot" "LBeetHouse$Plot;" := Or.inl (List.mem_of_getElem? (i := 2) rfl)
theorem hi_X3_setOut_X6 : ∀ w ∈ u_ws RX6 TX6 14, w ∈ wsX3_setOut := fun _ h => (List.mem_cons_of_mem _ (List.mem_append_right _ h))
set_option maxRecDepth 100000 in
theorem fl_X3_setOut_37 : bh_fl wsX3_setOut yX3_setOut.cls 37 "BeetHouse$Plot" "way" "I" := Or.inr ⟨"BeetHouse", List.mem_of_getElem? (i := 23) rfl⟩
set_option maxRecDepth 100000 in
theorem fl_X3_setOut_19 : bh_fl wsX3_setOut yX3_setOut.cls 19 "BeetHouse$Lorry" "there" "I" := Or.inl (List.mem_of_getElem? (i := 3) rfl)
def f_X3_setOut (this : Nat) (p1 : Nat) (p2 : Int32) (σ : bh_S) : Option (Unit × bh_S) :=
  (bh_wrI σ 4 this 1 1).bind fun σ1 =>
  (bh_wrR σ1 4 this 2 (some p1)).bind fun σ3 =>
  (bh_rdI σ3 7 p1 3).bind fun v5 =>
  (bh_wrI σ3 4 this 3 (p2 + v5)).bind fun σ7 =>
  some ((), σ7)
set_option maxHeartbeats 4000000 in
set_option maxRecDepth 100000 in
theorem c_X3_setOut (X : bh_X) (this : Nat) (p1 : Nat) (p2 : Int32) (σ : bh_S) : bh_MX eU X yX3_setOut wsX3_setOut 0 0 [.ref this, .ref p1, .int p2] σ (f_X3_setOut this p1 p2 σ) := by
  refine bh_enter (cc := cX3_setOut) (NL := 3) (ret := none) (by decide) rfl (Nat.le_of_ble_eq_true rfl) (fun X => ?_)
  show bh_J eU yX3_setOut cX3_setOut wsX3_setOut none 3 0 0 X σ 0 [(0, .ref this), (1, .ref p1), (2, .int p2)] [] _
  unfold f_X3_setOut
  refine bj_aload_nS dX3_setOut_0 rfl 0 rfl ?_
  refine bj_iconst (v := 1) dX3_setOut_1 (by decide) ?_
  refine bj_putI (ci := 4) (k := 1) (C := RX3) (T := TX3) (N := 8) rfl hi_X3_setOut_X3 (by decide) rfl fl_X3_setOut_9 (Or.inl rfl) tyX3 tyX3_ok nmX3 rfl (Or.inl rfl) dX3_setOut_2 (fun σ1 h2 => ?_)
  refine bj_aload_nS dX3_setOut_5 rfl 0 rfl ?_
  refine bj_aload_nS dX3_setOut_6 rfl 1 rfl ?_
  refine bj_putR (ci := 4) (k := 2) (C := RX3) (T := TX3) (N := 8) (v := (some p1)) rfl hi_X3_setOut_X3 (by decide) rfl fl_X3_setOut_15 (Or.inl rfl) tyX3 tyX3_ok nmX3 (Or.inl ⟨_, rfl⟩) (Or.inl rfl) dX3_setOut_7 (fun σ3 h4 => ?_)
  refine bj_aload_nS dX3_setOut_10 rfl 0 rfl ?_
  refine bj_iload_n dX3_setOut_11 rfl 2 rfl ?_
  refine bj_aload_nS dX3_setOut_12 rfl 1 rfl ?_
  refine bj_getI (ci := 7) (k := 3) (C := RX6) (T := TX6) (N := 14) rfl hi_X3_setOut_X6 (by decide) rfl fl_X3_setOut_37 (Or.inl rfl) dX3_setOut_13 (fun v5 h6 => ?_)
  refine bj_iadd dX3_setOut_16 ?_
  refine bj_putI (ci := 4) (k := 3) (C := RX3) (T := TX3) (N := 8) rfl hi_X3_setOut_X3 (by decide) rfl fl_X3_setOut_19 (Or.inl rfl) tyX3 tyX3_ok nmX3 rfl (Or.inl rfl) dX3_setOut_17 (fun σ7 h8 => ?_)
  exact bj_vret dX3_setOut_20
/-! BeetHouse$Plot.lose(II)V -/
theorem hi_X6_lose_X6 : ∀ w ∈ u_ws RX6 TX6 14, w ∈ wsX6_lose := fun _ h => (List.mem_cons_of_mem _ (List.mem_append_right _ h))
set_option maxRecDepth 100000 in
theorem fl_X6_lose_9 : bh_fl wsX6_lose yX6_lose.cls 9 "BeetHouse$Plot" "roots" "I" := Or.inl (List.mem_of_getElem? (i := 1) rfl)
set_option maxRecDepth 100000 in
theorem fl_X6_lose_15 : bh_fl wsX6_lose yX6_lose.cls 15 "BeetHouse$Plot" "sugar" "I" := Or.inl (List.mem_of_getElem? (i := 2) rfl)
set_option maxRecDepth 100000 in
theorem fl_X6_lose_25 : bh_fl wsX6_lose yX6_lose.cls 25 "BeetHouse$Plot" "thawedSince" "I" := Or.inl (List.mem_of_getElem? (i := 3) rfl)
def f_X6_lose (this : Nat) (p1 : Int32) (p2 : Int32) (σ : bh_S) : Option (Unit × bh_S) :=
  (bh_rdI σ 7 this 6).bind fun v1 =>
  (bh_wrI σ 7 this 6 (v1 - p1)).bind fun σ3 =>
  (bh_rdI σ3 7 this 7).bind fun v5 =>
  (bh_wrI σ3 7 this 7 (v5 - p2)).bind fun σ7 =>
  (bh_rdI σ7 7 this 6).bind fun v9 =>
  if v9 = 0 then
    (bh_wrI σ7 7 this 10 (-9)).bind fun σ12 =>
    some ((), σ12)
  else
    some ((), σ7)
set_option maxHeartbeats 4000000 in
set_option maxRecDepth 100000 in
theorem c_X6_lose (X : bh_X) (this : Nat) (p1 : Int32) (p2 : Int32) (σ : bh_S) : bh_MX eU X yX6_lose wsX6_lose 0 0 [.ref this, .int p1, .int p2] σ (f_X6_lose this p1 p2 σ) := by
  refine bh_enter (cc := cX6_lose) (NL := 3) (ret := none) (by decide) rfl (Nat.le_of_ble_eq_true rfl) (fun X => ?_)
  show bh_J eU yX6_lose cX6_lose wsX6_lose none 3 0 0 X σ 0 [(0, .ref this), (1, .int p1), (2, .int p2)] [] _
  unfold f_X6_lose
  refine bj_aload_nS dX6_lose_0 rfl 0 rfl ?_
  refine bj_dup dX6_lose_1 rfl ?_
  refine bj_getI (ci := 7) (k := 6) (C := RX6) (T := TX6) (N := 14) rfl hi_X6_lose_X6 (by decide) rfl fl_X6_lose_9 (Or.inl rfl) dX6_lose_2 (fun v1 h2 => ?_)
  refine bj_iload_n dX6_lose_5 rfl 1 rfl ?_
  refine bj_isub dX6_lose_6 ?_
  refine bj_putI (ci := 7) (k := 6) (C := RX6) (T := TX6) (N := 14) rfl hi_X6_lose_X6 (by decide) rfl fl_X6_lose_9 (Or.inl rfl) tyX6 tyX6_ok nmX6 rfl (Or.inl rfl) dX6_lose_7 (fun σ3 h4 => ?_)
  refine bj_aload_nS dX6_lose_10 rfl 0 rfl ?_
  refine bj_dup dX6_lose_11 rfl ?_
  refine bj_getI (ci := 7) (k := 7) (C := RX6) (T := TX6) (N := 14) rfl hi_X6_lose_X6 (by decide) rfl fl_X6_lose_15 (Or.inl rfl) dX6_lose_12 (fun v5 h6 => ?_)
  refine bj_iload_n dX6_lose_15 rfl 2 rfl ?_
  refine bj_isub dX6_lose_16 ?_
  refine bj_putI (ci := 7) (k := 7) (C := RX6) (T := TX6) (N := 14) rfl hi_X6_lose_X6 (by decide) rfl fl_X6_lose_15 (Or.inl rfl) tyX6 tyX6_ok nmX6 rfl (Or.inl rfl) dX6_lose_17 (fun σ7 h8 => ?_)
  refine bj_aload_nS dX6_lose_20 rfl 0 rfl ?_
  refine bj_getI (ci := 7) (k := 6) (C := RX6) (T := TX6) (N := 14) rfl hi_X6_lose_X6 (by decide) rfl fl_X6_lose_9 (Or.inl rfl) dX6_lose_21 (fun v9 h10 => ?_)
  refine bj_if_ne (tgt := 33) dX6_lose_24 (by decide) (fun h11 => ?_) (fun h11 => ?_)
  · exact bj_vret dX6_lose_33
  · refine bj_aload_nS dX6_lose_27 rfl 0 rfl ?_
    refine bj_bipush (v := (-9)) dX6_lose_28 (by decide) ?_
    refine bj_putI (ci := 7) (k := 10) (C := RX6) (T := TX6) (N := 14) rfl hi_X6_lose_X6 (by decide) rfl fl_X6_lose_25 (Or.inl rfl) tyX6 tyX6_ok nmX6 rfl (Or.inl rfl) dX6_lose_30 (fun σ12 h13 => ?_)
    exact bj_vret dX6_lose_33
/-! BeetHouse$Plot.sugarIn(I)I -/
theorem hi_X6_sugarIn_X6 : ∀ w ∈ u_ws RX6 TX6 14, w ∈ wsX6_sugarIn := fun _ h => (List.mem_cons_of_mem _ (List.mem_append_right _ h))
set_option maxRecDepth 100000 in
theorem fl_X6_sugarIn_9 : bh_fl wsX6_sugarIn yX6_sugarIn.cls 9 "BeetHouse$Plot" "roots" "I" := Or.inl (List.mem_of_getElem? (i := 1) rfl)
set_option maxRecDepth 100000 in
theorem fl_X6_sugarIn_15 : bh_fl wsX6_sugarIn yX6_sugarIn.cls 15 "BeetHouse$Plot" "sugar" "I" := Or.inl (List.mem_of_getElem? (i := 2) rfl)
def f_X6_sugarIn (this : Nat) (p1 : Int32) (σ : bh_S) : Option (Int32 × bh_S) :=
  (bh_rdI σ 7 this 6).bind fun v1 =>
  if v1 ≤ 0 then
    some (0, σ)
  else
    (bh_rdI σ 7 this 7).bind fun v4 =>
    (bh_rdI σ 7 this 6).bind fun v6 =>
    (bh_nzL v6.toInt64).bind fun _ =>
    some (((v4.toInt64 * p1.toInt64) / v6.toInt64).toInt32, σ)
set_option maxHeartbeats 4000000 in
set_option maxRecDepth 100000 in
theorem c_X6_sugarIn (X : bh_X) (this : Nat) (p1 : Int32) (σ : bh_S) : bh_MX eI X yX6_sugarIn wsX6_sugarIn 0 0 [.ref this, .int p1] σ (f_X6_sugarIn this p1 σ) := by
  refine bh_enter (cc := cX6_sugarIn) (NL := 2) (ret := (some .int)) (by decide) rfl (Nat.le_of_ble_eq_true rfl) (fun X => ?_)
  show bh_J eI yX6_sugarIn cX6_sugarIn wsX6_sugarIn (some .int) 2 0 0 X σ 0 [(0, .ref this), (1, .int p1)] [] _
  unfold f_X6_sugarIn
  refine bj_aload_nS dX6_sugarIn_0 rfl 0 rfl ?_
  refine bj_getI (ci := 7) (k := 6) (C := RX6) (T := TX6) (N := 14) rfl hi_X6_sugarIn_X6 (by decide) rfl fl_X6_sugarIn_9 (Or.inl rfl) dX6_sugarIn_1 (fun v1 h2 => ?_)
  refine bj_if_le (tgt := 25) dX6_sugarIn_4 (by decide) (fun h3 => ?_) (fun h3 => ?_)
  · refine bj_iconst (v := 0) dX6_sugarIn_25 (by decide) ?_
    exact bj_iret dX6_sugarIn_26
  · refine bj_aload_nS dX6_sugarIn_7 rfl 0 rfl ?_
    refine bj_getI (ci := 7) (k := 7) (C := RX6) (T := TX6) (N := 14) rfl hi_X6_sugarIn_X6 (by decide) rfl fl_X6_sugarIn_15 (Or.inl rfl) dX6_sugarIn_8 (fun v4 h5 => ?_)
    refine bj_i2l dX6_sugarIn_11 ?_
    refine bj_iload_n dX6_sugarIn_12 rfl 1 rfl ?_
    refine bj_i2l dX6_sugarIn_13 ?_
    refine bj_lmul dX6_sugarIn_14 ?_
    refine bj_aload_nS dX6_sugarIn_15 rfl 0 rfl ?_
    refine bj_getI (ci := 7) (k := 6) (C := RX6) (T := TX6) (N := 14) rfl hi_X6_sugarIn_X6 (by decide) rfl fl_X6_sugarIn_9 (Or.inl rfl) dX6_sugarIn_16 (fun v6 h7 => ?_)
    refine bj_i2l dX6_sugarIn_19 ?_
    refine bj_op (fun _ h8 => ?_)
    refine bj_ldivC dX6_sugarIn_20 (bh_nzL_spec h8) ?_
    refine bj_l2i dX6_sugarIn_21 ?_
    refine bj_goto (tgt := 26) dX6_sugarIn_22 (by decide) ?_
    exact bj_iret dX6_sugarIn_26
/-! BeetHouse$Lorry.fill(LBeetHouse$Plot;)V -/
theorem hi_X3_fill_X3 : ∀ w ∈ u_ws RX3 TX3 8, w ∈ wsX3_fill := fun _ h => (List.mem_cons_of_mem _ (List.mem_append_left _ (List.mem_append_right _ h)))
set_option maxRecDepth 100000 in
theorem fl_X3_fill_34 : bh_fl wsX3_fill yX3_fill.cls 34 "BeetHouse$Lorry" "capacity" "I" := Or.inl (List.mem_of_getElem? (i := 1) rfl)
theorem hi_X3_fill_X6 : ∀ w ∈ u_ws RX6 TX6 14, w ∈ wsX3_fill := fun _ h => (List.mem_cons_of_mem _ (List.mem_append_right _ h))
set_option maxRecDepth 100000 in
theorem fl_X3_fill_50 : bh_fl wsX3_fill yX3_fill.cls 50 "BeetHouse$Plot" "roots" "I" := Or.inr ⟨"BeetHouse", List.mem_of_getElem? (i := 26) rfl⟩
set_option maxRecDepth 100000 in
theorem fl_X3_fill_22 : bh_fl wsX3_fill yX3_fill.cls 22 "BeetHouse$Lorry" "roots" "I" := Or.inl (List.mem_of_getElem? (i := 6) rfl)
set_option maxRecDepth 100000 in
theorem g_X3_fill_X6_sugarIn : GoodIn wsX3_fill wsX6_sugarIn := goodIn_r _ [11, 12, 13, 26, 27, 28, 29, 30, 31, 32, 33, 34, 35, 36, 37, 38, 39] rfl (by decide +kernel)
set_option maxRecDepth 100000 in
theorem fl_X3_fill_25 : bh_fl wsX3_fill yX3_fill.cls 25 "BeetHouse$Lorry" "sugar" "I" := Or.inl (List.mem_of_getElem? (i := 7) rfl)
set_option maxRecDepth 100000 in
theorem g_X3_fill_X6_lose : GoodIn wsX3_fill wsX6_lose := goodIn_r _ [16, 12, 13, 17, 26, 27, 28, 29, 30, 31, 32, 33, 34, 35, 36, 37, 38, 39] rfl (by decide +kernel)
def f_X3_fill (this : Nat) (p1 : Nat) (σ : bh_S) : Option (Unit × bh_S) :=
  (bh_rdI σ 4 this 0).bind fun v1 =>
  (bh_rdI σ 7 p1 6).bind fun v3 =>
  (bh_wrI σ 4 this 4 (bh_min v1 v3)).bind fun σ5 =>
  (bh_ck σ5 p1 7).bind fun _ =>
  bh_bnd (f_X6_sugarIn p1 (bh_min v1 v3) σ5) fun v8 σ9 =>
  (bh_wrI σ9 4 this 5 v8).bind fun σ11 =>
  (bh_rdI σ11 4 this 4).bind fun v13 =>
  (bh_rdI σ11 4 this 5).bind fun v15 =>
  (bh_ck σ11 p1 7).bind fun _ =>
  bh_bnd (f_X6_lose p1 v13 v15 σ11) fun v18 σ19 =>
  some ((), σ19)
set_option maxHeartbeats 4000000 in
set_option maxRecDepth 100000 in
theorem c_X3_fill (X : bh_X) (this : Nat) (p1 : Nat) (σ : bh_S) : bh_MX eU X yX3_fill wsX3_fill 1 22 [.ref this, .ref p1] σ (f_X3_fill this p1 σ) := by
  refine bh_enter (cc := cX3_fill) (NL := 3) (ret := none) (by decide) rfl (Nat.le_of_ble_eq_true rfl) (fun X => ?_)
  show bh_J eU yX3_fill cX3_fill wsX3_fill none 3 1 22 X σ 0 [(0, .ref this), (1, .ref p1)] [] _
  unfold f_X3_fill
  refine bj_aload_nS dX3_fill_0 rfl 0 rfl ?_
  refine bj_getI (ci := 4) (k := 0) (C := RX3) (T := TX3) (N := 8) rfl hi_X3_fill_X3 (by decide) rfl fl_X3_fill_34 (Or.inl rfl) dX3_fill_1 (fun v1 h2 => ?_)
  refine bj_aload_nS dX3_fill_4 rfl 1 rfl ?_
  refine bj_getI (ci := 7) (k := 6) (C := RX6) (T := TX6) (N := 14) rfl hi_X3_fill_X6 (by decide) rfl fl_X3_fill_50 (Or.inl rfl) dX3_fill_5 (fun v3 h4 => ?_)
  refine bj_min (List.mem_of_getElem? (i := 2) rfl) (List.mem_of_getElem? (i := 3) rfl) (List.mem_of_getElem? (i := 4) rfl) (List.mem_of_getElem? (i := 5) rfl) (by decide) (Nat.le_of_ble_eq_true rfl) dX3_fill_8 ?_
  refine bj_istore_n (lv' := [(2, .int (bh_min v1 v3)), (0, .ref this), (1, .ref p1)]) dX3_fill_11 rfl (by decide) rfl ?_
  refine bj_aload_nS dX3_fill_12 rfl 1 rfl ?_
  refine bj_iload_n dX3_fill_13 rfl 0 rfl ?_
  refine bj_putI (ci := 4) (k := 4) (C := RX3) (T := TX3) (N := 8) rfl hi_X3_fill_X3 (by decide) rfl fl_X3_fill_22 (Or.inl rfl) tyX3 tyX3_ok nmX3 rfl (Or.inl rfl) dX3_fill_14 (fun σ5 h6 => ?_)
  refine bj_aload_nS dX3_fill_17 rfl 1 rfl ?_
  refine bj_aload_nS dX3_fill_18 rfl 2 rfl ?_
  refine bj_iload_n dX3_fill_19 rfl 0 rfl ?_
  refine bj_op (fun _ h7 => ?_)
  refine bj_callI (br_VN (As := [.int (bh_min v1 v3)]) (rest := [.ref this]) (host := "BeetHouse") (q := (RX6, TX6, 14)) (c_X6_sugarIn X p1 (bh_min v1 v3) σ5) rfl g_X3_fill_X6_sugarIn (List.mem_of_getElem? (i := 68) rfl) (List.mem_of_getElem? (i := 9) rfl) (List.mem_of_getElem? (i := 8) rfl) (List.mem_of_getElem? (i := 10) rfl) rfl (bh_ck_spec h7) hd_X6_sugarIn rfl ⟨by decide, by decide⟩ rfl (Nat.le_of_ble_eq_true rfl) dX3_fill_20) (fun v8 σ9 h10 => ?_)
  refine bj_putI (ci := 4) (k := 5) (C := RX3) (T := TX3) (N := 8) rfl hi_X3_fill_X3 (by decide) rfl fl_X3_fill_25 (Or.inl rfl) tyX3 tyX3_ok nmX3 rfl (Or.inl rfl) dX3_fill_23 (fun σ11 h12 => ?_)
  refine bj_aload_nS dX3_fill_26 rfl 2 rfl ?_
  refine bj_aload_nS dX3_fill_27 rfl 1 rfl ?_
  refine bj_getI (ci := 4) (k := 4) (C := RX3) (T := TX3) (N := 8) rfl hi_X3_fill_X3 (by decide) rfl fl_X3_fill_22 (Or.inl rfl) dX3_fill_28 (fun v13 h14 => ?_)
  refine bj_aload_nS dX3_fill_31 rfl 1 rfl ?_
  refine bj_getI (ci := 4) (k := 5) (C := RX3) (T := TX3) (N := 8) rfl hi_X3_fill_X3 (by decide) rfl fl_X3_fill_25 (Or.inl rfl) dX3_fill_32 (fun v15 h16 => ?_)
  refine bj_op (fun _ h17 => ?_)
  refine bj_callU (br_VN (As := [.int v13, .int v15]) (rest := []) (host := "BeetHouse") (q := (RX6, TX6, 14)) (c_X6_lose X p1 v13 v15 σ11) rfl g_X3_fill_X6_lose (List.mem_of_getElem? (i := 69) rfl) (List.mem_of_getElem? (i := 9) rfl) (List.mem_of_getElem? (i := 14) rfl) (List.mem_of_getElem? (i := 15) rfl) rfl (bh_ck_spec h17) hd_X6_lose rfl ⟨by decide, by decide⟩ rfl (Nat.le_of_ble_eq_true rfl) dX3_fill_35) (fun v18 σ19 h20 => ?_)
  exact bj_vret dX3_fill_38
/-! BeetHouse$Plot.wayBack()I -/
theorem hi_X6_wayBack_X6 : ∀ w ∈ u_ws RX6 TX6 14, w ∈ wsX6_wayBack := fun _ h => (List.mem_cons_of_mem _ (List.mem_append_right _ h))
set_option maxRecDepth 100000 in
theorem fl_X6_wayBack_53 : bh_fl wsX6_wayBack yX6_wayBack.cls 53 "BeetHouse$Plot" "stony" "Z" := Or.inl (List.mem_of_getElem? (i := 1) rfl)
set_option maxRecDepth 100000 in
theorem fl_X6_wayBack_50 : bh_fl wsX6_wayBack yX6_wayBack.cls 50 "BeetHouse$Plot" "way" "I" := Or.inl (List.mem_of_getElem? (i := 2) rfl)
def f_X6_wayBack (this : Nat) (σ : bh_S) : Option (Int32 × bh_S) :=
  (bh_rdI σ 7 this 4).bind fun v1 =>
  if v1 = 0 then
    (bh_rdI σ 7 this 3).bind fun v4 =>
    some (v4, σ)
  else
    (bh_rdI σ 7 this 3).bind fun v6 =>
    some (v6 + 1, σ)
set_option maxHeartbeats 4000000 in
set_option maxRecDepth 100000 in
theorem c_X6_wayBack (X : bh_X) (this : Nat) (σ : bh_S) : bh_MX eI X yX6_wayBack wsX6_wayBack 0 0 [.ref this] σ (f_X6_wayBack this σ) := by
  refine bh_enter (cc := cX6_wayBack) (NL := 1) (ret := (some .int)) (by decide) rfl (Nat.le_of_ble_eq_true rfl) (fun X => ?_)
  show bh_J eI yX6_wayBack cX6_wayBack wsX6_wayBack (some .int) 1 0 0 X σ 0 [(0, .ref this)] [] _
  unfold f_X6_wayBack
  refine bj_aload_nS dX6_wayBack_0 rfl 0 rfl ?_
  refine bj_getI (ci := 7) (k := 4) (C := RX6) (T := TX6) (N := 14) rfl hi_X6_wayBack_X6 (by decide) rfl fl_X6_wayBack_53 (Or.inl rfl) dX6_wayBack_1 (fun v1 h2 => ?_)
  refine bj_if_eq (tgt := 16) dX6_wayBack_4 (by decide) (fun h3 => ?_) (fun h3 => ?_)
  · refine bj_aload_nS dX6_wayBack_16 rfl 0 rfl ?_
    refine bj_getI (ci := 7) (k := 3) (C := RX6) (T := TX6) (N := 14) rfl hi_X6_wayBack_X6 (by decide) rfl fl_X6_wayBack_50 (Or.inl rfl) dX6_wayBack_17 (fun v4 h5 => ?_)
    exact bj_iret dX6_wayBack_20
  · refine bj_aload_nS dX6_wayBack_7 rfl 0 rfl ?_
    refine bj_getI (ci := 7) (k := 3) (C := RX6) (T := TX6) (N := 14) rfl hi_X6_wayBack_X6 (by decide) rfl fl_X6_wayBack_50 (Or.inl rfl) dX6_wayBack_8 (fun v6 h7 => ?_)
    refine bj_iconst (v := 1) dX6_wayBack_11 (by decide) ?_
    refine bj_iadd dX6_wayBack_12 ?_
    refine bj_goto (tgt := 20) dX6_wayBack_13 (by decide) ?_
    exact bj_iret dX6_wayBack_20
/-! BeetHouse$Lorry.arrive(I)V -/
theorem hi_X3_arrive_X3 : ∀ w ∈ u_ws RX3 TX3 8, w ∈ wsX3_arrive := fun _ h => (List.mem_cons_of_mem _ (List.mem_append_left _ (List.mem_append_right _ h)))
set_option maxRecDepth 100000 in
theorem fl_X3_arrive_19 : bh_fl wsX3_arrive yX3_arrive.cls 19 "BeetHouse$Lorry" "there" "I" := Or.inl (List.mem_of_getElem? (i := 1) rfl)
set_option maxRecDepth 100000 in
theorem fl_X3_arrive_15 : bh_fl wsX3_arrive yX3_arrive.cls 15 "BeetHouse$Lorry" "plot" "LBeetHouse$Plot;" := Or.inl (List.mem_of_getElem? (i := 2) rfl)
set_option maxRecDepth 100000 in
theorem fl_X3_arrive_9 : bh_fl wsX3_arrive yX3_arrive.cls 9 "BeetHouse$Lorry" "state" "I" := Or.inl (List.mem_of_getElem? (i := 3) rfl)
set_option maxRecDepth 100000 in
theorem g_X3_arrive_X3_fill_42 : GoodIn wsX3_arrive (wsV yX3_arrive.cls 42 RX3 yX3_fill wsX3_fill) := goodIn_r _ [4, 5, 6, 7, 8, 9, 10, 11, 12, 13, 14, 15, 16, 17, 18, 19, 20, 21, 22, 23, 24, 25, 31, 32, 33, 34, 35, 36, 37, 38, 39, 40, 41, 42, 43, 44, 45, 46, 47, 48, 49, 50, 51, 52] rfl (by decide +kernel)
set_option maxRecDepth 100000 in
theorem g_X3_arrive_X6_wayBack : GoodIn wsX3_arrive wsX6_wayBack := goodIn_r _ [28, 29, 30, 39, 40, 41, 42, 43, 44, 45, 46, 47, 48, 49, 50, 51, 52] rfl (by decide +kernel)
def f_X3_arrive (this : Nat) (p1 : Int32) (σ : bh_S) : Option (Unit × bh_S) :=
  (bh_rdI σ 4 this 3).bind fun v1 =>
  if v1 = p1 then
    (bh_rdR σ 4 this 2).bind fun v4 =>
    bh_cs v4 (
      some ((), σ)
    ) (fun a6 =>
      (bh_rdI σ 4 this 1).bind fun v8 =>
      if v8 = 1 then
        (bh_rdR σ 4 this 2).bind fun v18 =>
        (v18).bind fun a20 =>
        (bh_ck σ this 4).bind fun _ =>
        bh_bnd (f_X3_fill this a20 σ) fun v23 σ24 =>
        (bh_wrI σ24 4 this 1 2).bind fun σ26 =>
        (bh_rdR σ26 4 this 2).bind fun v28 =>
        (v28).bind fun a30 =>
        (bh_ck σ26 a30 7).bind fun _ =>
        bh_bnd (f_X6_wayBack a30 σ26) fun v33 σ34 =>
        (bh_wrI σ34 4 this 3 (p1 + v33)).bind fun σ36 =>
        some ((), σ36)
      else
        (bh_rdI σ 4 this 1).bind fun v11 =>
        if v11 = 2 then
          (bh_wrI σ 4 this 1 3).bind fun σ14 =>
          (bh_wrI σ14 4 this 3 (-9)).bind fun σ16 =>
          some ((), σ16)
        else
          some ((), σ)
    )
  else
    some ((), σ)
set_option maxHeartbeats 4000000 in
set_option maxRecDepth 100000 in
theorem c_X3_arrive (X : bh_X) (this : Nat) (p1 : Int32) (σ : bh_S) : bh_MX eU X yX3_arrive wsX3_arrive 2 44 [.ref this, .int p1] σ (f_X3_arrive this p1 σ) := by
  refine bh_enter (cc := cX3_arrive) (NL := 2) (ret := none) (by decide) rfl (Nat.le_of_ble_eq_true rfl) (fun X => ?_)
  show bh_J eU yX3_arrive cX3_arrive wsX3_arrive none 2 2 44 X σ 0 [(0, .ref this), (1, .int p1)] [] _
  unfold f_X3_arrive
  refine bj_aload_nS dX3_arrive_0 rfl 0 rfl ?_
  refine bj_getI (ci := 4) (k := 3) (C := RX3) (T := TX3) (N := 8) rfl hi_X3_arrive_X3 (by decide) rfl fl_X3_arrive_19 (Or.inl rfl) dX3_arrive_1 (fun v1 h2 => ?_)
  refine bj_iload_n dX3_arrive_4 rfl 1 rfl ?_
  refine bj_icmp_ne (tgt := 15) dX3_arrive_5 (by decide) (fun h3 => ?_) (fun h3 => ?_)
  · exact bj_vret dX3_arrive_15
  · refine bj_aload_nS dX3_arrive_8 rfl 0 rfl ?_
    refine bj_getR (ci := 4) (k := 2) (C := RX3) (T := TX3) (N := 8) rfl hi_X3_arrive_X3 (by decide) rfl fl_X3_arrive_15 (Or.inl rfl) dX3_arrive_9 (fun v4 h5 => ?_)
    refine bj_ifnonnull (o := v4) (tgt := 16) dX3_arrive_12 (by decide) (fun h7 => ?_) (fun a6 h7 => ?_)
    · subst h7
      exact bj_vret dX3_arrive_15
    · subst h7
      refine bj_aload_nS dX3_arrive_16 rfl 0 rfl ?_
      refine bj_getI (ci := 4) (k := 1) (C := RX3) (T := TX3) (N := 8) rfl hi_X3_arrive_X3 (by decide) rfl fl_X3_arrive_9 (Or.inl rfl) dX3_arrive_17 (fun v8 h9 => ?_)
      refine bj_iconst (v := 1) dX3_arrive_20 (by decide) ?_
      refine bj_icmp_ne (tgt := 53) dX3_arrive_21 (by decide) (fun h10 => ?_) (fun h10 => ?_)
      · refine bj_aload_nS dX3_arrive_53 rfl 0 rfl ?_
        refine bj_getI (ci := 4) (k := 1) (C := RX3) (T := TX3) (N := 8) rfl hi_X3_arrive_X3 (by decide) rfl fl_X3_arrive_9 (Or.inl rfl) dX3_arrive_54 (fun v11 h12 => ?_)
        refine bj_iconst (v := 2) dX3_arrive_57 (by decide) ?_
        refine bj_icmp_ne (tgt := 72) dX3_arrive_58 (by decide) (fun h13 => ?_) (fun h13 => ?_)
        · exact bj_vret dX3_arrive_72
        · refine bj_aload_nS dX3_arrive_61 rfl 0 rfl ?_
          refine bj_iconst (v := 3) dX3_arrive_62 (by decide) ?_
          refine bj_putI (ci := 4) (k := 1) (C := RX3) (T := TX3) (N := 8) rfl hi_X3_arrive_X3 (by decide) rfl fl_X3_arrive_9 (Or.inl rfl) tyX3 tyX3_ok nmX3 rfl (Or.inl rfl) dX3_arrive_63 (fun σ14 h15 => ?_)
          refine bj_aload_nS dX3_arrive_66 rfl 0 rfl ?_
          refine bj_bipush (v := (-9)) dX3_arrive_67 (by decide) ?_
          refine bj_putI (ci := 4) (k := 3) (C := RX3) (T := TX3) (N := 8) rfl hi_X3_arrive_X3 (by decide) rfl fl_X3_arrive_19 (Or.inl rfl) tyX3 tyX3_ok nmX3 rfl (Or.inl rfl) dX3_arrive_69 (fun σ16 h17 => ?_)
          exact bj_vret dX3_arrive_72
      · refine bj_aload_nS dX3_arrive_24 rfl 0 rfl ?_
        refine bj_aload_nS dX3_arrive_25 rfl 0 rfl ?_
        refine bj_getR (ci := 4) (k := 2) (C := RX3) (T := TX3) (N := 8) rfl hi_X3_arrive_X3 (by decide) rfl fl_X3_arrive_15 (Or.inl rfl) dX3_arrive_26 (fun v18 h19 => ?_)
        refine bj_nn (fun a20 h21 => ?_)
        subst h21
        refine bj_op (fun _ h22 => ?_)
        refine bj_callU (br_V (As := [.ref a20]) (rest := []) (q := (RX3, TX3, 8)) (c_X3_fill X this a20 σ) rfl g_X3_arrive_X3_fill_42 rfl (bh_ck_spec h22) ⟨rfl, hd_X3_fill⟩ rfl ⟨by decide, by decide⟩ rfl (Nat.le_of_ble_eq_true rfl) dX3_arrive_29) (fun v23 σ24 h25 => ?_)
        refine bj_aload_nS dX3_arrive_32 rfl 0 rfl ?_
        refine bj_iconst (v := 2) dX3_arrive_33 (by decide) ?_
        refine bj_putI (ci := 4) (k := 1) (C := RX3) (T := TX3) (N := 8) rfl hi_X3_arrive_X3 (by decide) rfl fl_X3_arrive_9 (Or.inl rfl) tyX3 tyX3_ok nmX3 rfl (Or.inl rfl) dX3_arrive_34 (fun σ26 h27 => ?_)
        refine bj_aload_nS dX3_arrive_37 rfl 0 rfl ?_
        refine bj_iload_n dX3_arrive_38 rfl 1 rfl ?_
        refine bj_aload_nS dX3_arrive_39 rfl 0 rfl ?_
        refine bj_getR (ci := 4) (k := 2) (C := RX3) (T := TX3) (N := 8) rfl hi_X3_arrive_X3 (by decide) rfl fl_X3_arrive_15 (Or.inl rfl) dX3_arrive_40 (fun v28 h29 => ?_)
        refine bj_nn (fun a30 h31 => ?_)
        subst h31
        refine bj_op (fun _ h32 => ?_)
        refine bj_callI (br_VN (As := []) (rest := [.int p1, .ref this]) (host := "BeetHouse") (q := (RX6, TX6, 14)) (c_X6_wayBack X a30 σ26) rfl g_X3_arrive_X6_wayBack (List.mem_of_getElem? (i := 70) rfl) (List.mem_of_getElem? (i := 17) rfl) (List.mem_of_getElem? (i := 26) rfl) (List.mem_of_getElem? (i := 27) rfl) rfl (bh_ck_spec h32) hd_X6_wayBack rfl ⟨by decide, by decide⟩ rfl (Nat.le_of_ble_eq_true rfl) dX3_arrive_43) (fun v33 σ34 h35 => ?_)
        refine bj_iadd dX3_arrive_46 ?_
        refine bj_putI (ci := 4) (k := 3) (C := RX3) (T := TX3) (N := 8) rfl hi_X3_arrive_X3 (by decide) rfl fl_X3_arrive_19 (Or.inl rfl) tyX3 tyX3_ok nmX3 rfl (Or.inl rfl) dX3_arrive_47 (fun σ36 h37 => ?_)
        refine bj_goto (tgt := 72) dX3_arrive_50 (by decide) ?_
        exact bj_vret dX3_arrive_72
/-! BeetHouse$Lorry.comeHome()V -/
theorem hi_X3_comeHome_X3 : ∀ w ∈ u_ws RX3 TX3 8, w ∈ wsX3_comeHome := fun _ h => (List.mem_cons_of_mem _ (List.mem_append_right _ h))
set_option maxRecDepth 100000 in
theorem fl_X3_comeHome_9 : bh_fl wsX3_comeHome yX3_comeHome.cls 9 "BeetHouse$Lorry" "state" "I" := Or.inl (List.mem_of_getElem? (i := 1) rfl)
set_option maxRecDepth 100000 in
theorem fl_X3_comeHome_15 : bh_fl wsX3_comeHome yX3_comeHome.cls 15 "BeetHouse$Lorry" "plot" "LBeetHouse$Plot;" := Or.inl (List.mem_of_getElem? (i := 2) rfl)
set_option maxRecDepth 100000 in
theorem fl_X3_comeHome_22 : bh_fl wsX3_comeHome yX3_comeHome.cls 22 "BeetHouse$Lorry" "roots" "I" := Or.inl (List.mem_of_getElem? (i := 3) rfl)
set_option maxRecDepth 100000 in
theorem fl_X3_comeHome_25 : bh_fl wsX3_comeHome yX3_comeHome.cls 25 "BeetHouse$Lorry" "sugar" "I" := Or.inl (List.mem_of_getElem? (i := 4) rfl)
def f_X3_comeHome (this : Nat) (σ : bh_S) : Option (Unit × bh_S) :=
  (bh_wrI σ 4 this 1 0).bind fun σ1 =>
  (bh_wrR σ1 4 this 2 none).bind fun σ3 =>
  (bh_wrI σ3 4 this 4 0).bind fun σ5 =>
  (bh_wrI σ5 4 this 5 0).bind fun σ7 =>
  some ((), σ7)
set_option maxHeartbeats 4000000 in
set_option maxRecDepth 100000 in
theorem c_X3_comeHome (X : bh_X) (this : Nat) (σ : bh_S) : bh_MX eU X yX3_comeHome wsX3_comeHome 0 0 [.ref this] σ (f_X3_comeHome this σ) := by
  refine bh_enter (cc := cX3_comeHome) (NL := 1) (ret := none) (by decide) rfl (Nat.le_of_ble_eq_true rfl) (fun X => ?_)
  show bh_J eU yX3_comeHome cX3_comeHome wsX3_comeHome none 1 0 0 X σ 0 [(0, .ref this)] [] _
  unfold f_X3_comeHome
  refine bj_aload_nS dX3_comeHome_0 rfl 0 rfl ?_
  refine bj_iconst (v := 0) dX3_comeHome_1 (by decide) ?_
  refine bj_putI (ci := 4) (k := 1) (C := RX3) (T := TX3) (N := 8) rfl hi_X3_comeHome_X3 (by decide) rfl fl_X3_comeHome_9 (Or.inl rfl) tyX3 tyX3_ok nmX3 rfl (Or.inl rfl) dX3_comeHome_2 (fun σ1 h2 => ?_)
  refine bj_aload_nS dX3_comeHome_5 rfl 0 rfl ?_
  refine bj_null dX3_comeHome_6 ?_
  refine bj_putR (ci := 4) (k := 2) (C := RX3) (T := TX3) (N := 8) (v := none) rfl hi_X3_comeHome_X3 (by decide) rfl fl_X3_comeHome_15 (Or.inl rfl) tyX3 tyX3_ok nmX3 (Or.inl ⟨_, rfl⟩) (Or.inl rfl) dX3_comeHome_7 (fun σ3 h4 => ?_)
  refine bj_aload_nS dX3_comeHome_10 rfl 0 rfl ?_
  refine bj_iconst (v := 0) dX3_comeHome_11 (by decide) ?_
  refine bj_putI (ci := 4) (k := 4) (C := RX3) (T := TX3) (N := 8) rfl hi_X3_comeHome_X3 (by decide) rfl fl_X3_comeHome_22 (Or.inl rfl) tyX3 tyX3_ok nmX3 rfl (Or.inl rfl) dX3_comeHome_12 (fun σ5 h6 => ?_)
  refine bj_aload_nS dX3_comeHome_15 rfl 0 rfl ?_
  refine bj_iconst (v := 0) dX3_comeHome_16 (by decide) ?_
  refine bj_putI (ci := 4) (k := 5) (C := RX3) (T := TX3) (N := 8) rfl hi_X3_comeHome_X3 (by decide) rfl fl_X3_comeHome_25 (Or.inl rfl) tyX3 tyX3_ok nmX3 rfl (Or.inl rfl) dX3_comeHome_17 (fun σ7 h8 => ?_)
  exact bj_vret dX3_comeHome_20
/-! BeetHouse$Mill.<init>()V -/
theorem hi_X4_init_X4 : ∀ w ∈ u_ws RX4 TX4 5, w ∈ wsX4_init := fun _ h => (List.mem_cons_of_mem _ (List.mem_append_right _ h))
set_option maxRecDepth 100000 in
theorem fl_X4_init_7 : bh_fl wsX4_init yX4_init.cls 7 "BeetHouse$Mill" "rate" "I" := Or.inl (List.mem_of_getElem? (i := 4) rfl)
set_option maxRecDepth 100000 in
theorem fl_X4_init_13 : bh_fl wsX4_init yX4_init.cls 13 "BeetHouse$Mill" "eaten" "I" := Or.inl (List.mem_of_getElem? (i := 5) rfl)
set_option maxRecDepth 100000 in
theorem fl_X4_init_16 : bh_fl wsX4_init yX4_init.cls 16 "BeetHouse$Mill" "sugarWon" "I" := Or.inl (List.mem_of_getElem? (i := 6) rfl)
set_option maxRecDepth 100000 in
theorem fl_X4_init_19 : bh_fl wsX4_init yX4_init.cls 19 "BeetHouse$Mill" "stood" "I" := Or.inl (List.mem_of_getElem? (i := 7) rfl)
set_option maxRecDepth 100000 in
theorem fl_X4_init_22 : bh_fl wsX4_init yX4_init.cls 22 "BeetHouse$Mill" "lack" "I" := Or.inl (List.mem_of_getElem? (i := 8) rfl)
def f_X4_init (this : Nat) (σ : bh_S) : Option (Unit × bh_S) :=
  (bh_wrI σ 5 this 0 0).bind fun σ1 =>
  (bh_wrI σ1 5 this 1 0).bind fun σ3 =>
  (bh_wrI σ3 5 this 2 0).bind fun σ5 =>
  (bh_wrI σ5 5 this 3 0).bind fun σ7 =>
  (bh_wrI σ7 5 this 4 0).bind fun σ9 =>
  some ((), σ9)
set_option maxHeartbeats 4000000 in
set_option maxRecDepth 100000 in
theorem c_X4_init (X : bh_X) (this : Nat) (σ : bh_S) : bh_MX eU X yX4_init wsX4_init 1 12 [.ref this] σ (f_X4_init this σ) := by
  refine bh_enter (cc := cX4_init) (NL := 1) (ret := none) (by decide) rfl (Nat.le_of_ble_eq_true rfl) (fun X => ?_)
  show bh_J eU yX4_init cX4_init wsX4_init none 1 1 12 X σ 0 [(0, .ref this)] [] _
  unfold f_X4_init
  refine bj_aload_nS dX4_init_0 rfl 0 rfl ?_
  refine bj_objInit (List.mem_of_getElem? (i := 1) rfl) (List.mem_of_getElem? (i := 2) rfl) (List.mem_of_getElem? (i := 3) rfl) (by decide) (Nat.le_of_ble_eq_true rfl) dX4_init_1 ?_
  refine bj_aload_nS dX4_init_4 rfl 0 rfl ?_
  refine bj_iconst (v := 0) dX4_init_5 (by decide) ?_
  refine bj_putI (ci := 5) (k := 0) (C := RX4) (T := TX4) (N := 5) rfl hi_X4_init_X4 (by decide) rfl fl_X4_init_7 (Or.inl rfl) tyX4 tyX4_ok nmX4 rfl (Or.inl rfl) dX4_init_6 (fun σ1 h2 => ?_)
  refine bj_aload_nS dX4_init_9 rfl 0 rfl ?_
  refine bj_iconst (v := 0) dX4_init_10 (by decide) ?_
  refine bj_putI (ci := 5) (k := 1) (C := RX4) (T := TX4) (N := 5) rfl hi_X4_init_X4 (by decide) rfl fl_X4_init_13 (Or.inl rfl) tyX4 tyX4_ok nmX4 rfl (Or.inl rfl) dX4_init_11 (fun σ3 h4 => ?_)
  refine bj_aload_nS dX4_init_14 rfl 0 rfl ?_
  refine bj_iconst (v := 0) dX4_init_15 (by decide) ?_
  refine bj_putI (ci := 5) (k := 2) (C := RX4) (T := TX4) (N := 5) rfl hi_X4_init_X4 (by decide) rfl fl_X4_init_16 (Or.inl rfl) tyX4 tyX4_ok nmX4 rfl (Or.inl rfl) dX4_init_16 (fun σ5 h6 => ?_)
  refine bj_aload_nS dX4_init_19 rfl 0 rfl ?_
  refine bj_iconst (v := 0) dX4_init_20 (by decide) ?_
  refine bj_putI (ci := 5) (k := 3) (C := RX4) (T := TX4) (N := 5) rfl hi_X4_init_X4 (by decide) rfl fl_X4_init_19 (Or.inl rfl) tyX4 tyX4_ok nmX4 rfl (Or.inl rfl) dX4_init_21 (fun σ7 h8 => ?_)
  refine bj_aload_nS dX4_init_24 rfl 0 rfl ?_
  refine bj_iconst (v := 0) dX4_init_25 (by decide) ?_
  refine bj_putI (ci := 5) (k := 4) (C := RX4) (T := TX4) (N := 5) rfl hi_X4_init_X4 (by decide) rfl fl_X4_init_22 (Or.inl rfl) tyX4 tyX4_ok nmX4 rfl (Or.inl rfl) dX4_init_26 (fun σ9 h10 => ?_)
  exact bj_vret dX4_init_29
/-! BeetHouse$Plot.rootsFor(I)I -/
theorem hi_X6_rootsFor_X6 : ∀ w ∈ u_ws RX6 TX6 14, w ∈ wsX6_rootsFor := fun _ h => (List.mem_cons_of_mem _ (List.mem_append_right _ h))
set_option maxRecDepth 100000 in
theorem fl_X6_rootsFor_53 : bh_fl wsX6_rootsFor yX6_rootsFor.cls 53 "BeetHouse$Plot" "stony" "Z" := Or.inl (List.mem_of_getElem? (i := 1) rfl)
def f_X6_rootsFor (this : Nat) (p1 : Int32) (σ : bh_S) : Option (Int32 × bh_S) :=
  (bh_rdI σ 7 this 4).bind fun v1 =>
  if v1 = 0 then
    some (p1, σ)
  else
    some (p1 / 2, σ)
set_option maxHeartbeats 4000000 in
set_option maxRecDepth 100000 in
theorem c_X6_rootsFor (X : bh_X) (this : Nat) (p1 : Int32) (σ : bh_S) : bh_MX eI X yX6_rootsFor wsX6_rootsFor 0 0 [.ref this, .int p1] σ (f_X6_rootsFor this p1 σ) := by
  refine bh_enter (cc := cX6_rootsFor) (NL := 2) (ret := (some .int)) (by decide) rfl (Nat.le_of_ble_eq_true rfl) (fun X => ?_)
  show bh_J eI yX6_rootsFor cX6_rootsFor wsX6_rootsFor (some .int) 2 0 0 X σ 0 [(0, .ref this), (1, .int p1)] [] _
  unfold f_X6_rootsFor
  refine bj_aload_nS dX6_rootsFor_0 rfl 0 rfl ?_
  refine bj_getI (ci := 7) (k := 4) (C := RX6) (T := TX6) (N := 14) rfl hi_X6_rootsFor_X6 (by decide) rfl fl_X6_rootsFor_53 (Or.inl rfl) dX6_rootsFor_1 (fun v1 h2 => ?_)
  refine bj_if_eq (tgt := 13) dX6_rootsFor_4 (by decide) (fun h3 => ?_) (fun h3 => ?_)
  · refine bj_iload_n dX6_rootsFor_13 rfl 1 rfl ?_
    exact bj_iret dX6_rootsFor_14
  · refine bj_iload_n dX6_rootsFor_7 rfl 1 rfl ?_
    refine bj_iconst (v := 2) dX6_rootsFor_8 (by decide) ?_
    refine bj_idivC dX6_rootsFor_9 (by decide) ?_
    refine bj_goto (tgt := 14) dX6_rootsFor_10 (by decide) ?_
    exact bj_iret dX6_rootsFor_14
/-! BeetHouse$Plot.unitsFor(I)I -/
theorem hi_X6_unitsFor_X6 : ∀ w ∈ u_ws RX6 TX6 14, w ∈ wsX6_unitsFor := fun _ h => (List.mem_cons_of_mem _ (List.mem_append_right _ h))
set_option maxRecDepth 100000 in
theorem fl_X6_unitsFor_53 : bh_fl wsX6_unitsFor yX6_unitsFor.cls 53 "BeetHouse$Plot" "stony" "Z" := Or.inl (List.mem_of_getElem? (i := 1) rfl)
def f_X6_unitsFor (this : Nat) (p1 : Int32) (σ : bh_S) : Option (Int32 × bh_S) :=
  (bh_rdI σ 7 this 4).bind fun v1 =>
  if v1 = 0 then
    some (p1, σ)
  else
    some (2 * p1, σ)
set_option maxHeartbeats 4000000 in
set_option maxRecDepth 100000 in
theorem c_X6_unitsFor (X : bh_X) (this : Nat) (p1 : Int32) (σ : bh_S) : bh_MX eI X yX6_unitsFor wsX6_unitsFor 0 0 [.ref this, .int p1] σ (f_X6_unitsFor this p1 σ) := by
  refine bh_enter (cc := cX6_unitsFor) (NL := 2) (ret := (some .int)) (by decide) rfl (Nat.le_of_ble_eq_true rfl) (fun X => ?_)
  show bh_J eI yX6_unitsFor cX6_unitsFor wsX6_unitsFor (some .int) 2 0 0 X σ 0 [(0, .ref this), (1, .int p1)] [] _
  unfold f_X6_unitsFor
  refine bj_aload_nS dX6_unitsFor_0 rfl 0 rfl ?_
  refine bj_getI (ci := 7) (k := 4) (C := RX6) (T := TX6) (N := 14) rfl hi_X6_unitsFor_X6 (by decide) rfl fl_X6_unitsFor_53 (Or.inl rfl) dX6_unitsFor_1 (fun v1 h2 => ?_)
  refine bj_if_eq (tgt := 13) dX6_unitsFor_4 (by decide) (fun h3 => ?_) (fun h3 => ?_)
  · refine bj_iload_n dX6_unitsFor_13 rfl 1 rfl ?_
    exact bj_iret dX6_unitsFor_14
  · refine bj_iconst (v := 2) dX6_unitsFor_7 (by decide) ?_
    refine bj_iload_n dX6_unitsFor_8 rfl 1 rfl ?_
    refine bj_imul dX6_unitsFor_9 ?_
    refine bj_goto (tgt := 14) dX6_unitsFor_10 (by decide) ?_
    exact bj_iret dX6_unitsFor_14
/-! BeetHouse$Mill.grind(LBeetHouse$Yard;)V -/
theorem hi_X4_grind_X4 : ∀ w ∈ u_ws RX4 TX4 5, w ∈ wsX4_grind := fun _ h => (List.mem_cons_of_mem _ (List.mem_append_left _ (List.mem_append_left _ (List.mem_append_left _ (List.mem_append_left _ (List.mem_append_right _ h))))))
set_option maxRecDepth 100000 in
theorem fl_X4_grind_7 : bh_fl wsX4_grind yX4_grind.cls 7 "BeetHouse$Mill" "rate" "I" := Or.inl (List.mem_of_getElem? (i := 1) rfl)
theorem hi_X4_grind_X8 : ∀ w ∈ u_ws RX8 TX8 4, w ∈ wsX4_grind := fun _ h => (List.mem_cons_of_mem _ (List.mem_append_left _ (List.mem_append_left _ (List.mem_append_left _ (List.mem_append_right _ h)))))
set_option maxRecDepth 100000 in
theorem fl_X4_grind_25 : bh_fl wsX4_grind yX4_grind.cls 25 "BeetHouse$Yard" "loads" "Ljava/util/ArrayList;" := Or.inr ⟨"BeetHouse", List.mem_of_getElem? (i := 2) rfl⟩
set_option maxRecDepth 100000 in
theorem g_X4_grind_Jx4a65c_isEmpty_aae02_31 : GoodIn wsX4_grind (wsV yX4_grind.cls 31 RJx4a65c yJx4a65c_isEmpty_aae02 wsJx4a65c_isEmpty_aae02) := goodIn_r _ [11, 12, 13, 14, 15, 16, 68, 69, 70] rfl (by decide +kernel)
set_option maxRecDepth 100000 in
theorem g_X4_grind_Jx4a65c_get_915e3_37 : GoodIn wsX4_grind (wsV yX4_grind.cls 37 RJx4a65c yJx4a65c_get_915e3 wsJx4a65c_get_915e3) := goodIn_r _ [17, 18, 19, 14, 20, 16, 21, 22, 23, 24, 25, 26, 27, 28, 29, 30, 31, 14, 32, 33, 68, 69, 70] rfl (by decide +kernel)
theorem hi_X4_grind_X2 : ∀ w ∈ u_ws RX2 TX2 3, w ∈ wsX4_grind := fun _ h => (List.mem_cons_of_mem _ (List.mem_append_left _ (List.mem_append_left _ (List.mem_append_right _ h))))
set_option maxRecDepth 100000 in
theorem fl_X4_grind_43 : bh_fl wsX4_grind yX4_grind.cls 43 "BeetHouse$Load" "roots" "I" := Or.inr ⟨"BeetHouse", List.mem_of_getElem? (i := 48) rfl⟩
set_option maxRecDepth 100000 in
theorem fl_X4_grind_46 : bh_fl wsX4_grind yX4_grind.cls 46 "BeetHouse$Load" "plot" "LBeetHouse$Plot;" := Or.inr ⟨"BeetHouse", List.mem_of_getElem? (i := 45) rfl⟩
set_option maxRecDepth 100000 in
theorem g_X4_grind_X6_rootsFor : GoodIn wsX4_grind wsX6_rootsFor := goodIn_r _ [37, 38, 71, 72, 73, 74, 75, 76, 77, 78, 79, 80, 81, 82, 83, 84] rfl (by decide +kernel)
set_option maxRecDepth 100000 in
theorem g_X4_grind_X6_unitsFor : GoodIn wsX4_grind wsX6_unitsFor := goodIn_r _ [41, 38, 71, 72, 73, 74, 75, 76, 77, 78, 79, 80, 81, 82, 83, 84] rfl (by decide +kernel)
set_option maxRecDepth 100000 in
theorem fl_X4_grind_65 : bh_fl wsX4_grind yX4_grind.cls 65 "BeetHouse$Yard" "roots" "I" := Or.inr ⟨"BeetHouse", List.mem_of_getElem? (i := 5) rfl⟩
set_option maxRecDepth 100000 in
theorem fl_X4_grind_13 : bh_fl wsX4_grind yX4_grind.cls 13 "BeetHouse$Mill" "eaten" "I" := Or.inl (List.mem_of_getElem? (i := 7) rfl)
set_option maxRecDepth 100000 in
theorem fl_X4_grind_16 : bh_fl wsX4_grind yX4_grind.cls 16 "BeetHouse$Mill" "sugarWon" "I" := Or.inl (List.mem_of_getElem? (i := 8) rfl)
set_option maxRecDepth 100000 in
theorem fl_X4_grind_66 : bh_fl wsX4_grind yX4_grind.cls 66 "BeetHouse$Load" "sugar" "I" := Or.inr ⟨"BeetHouse", List.mem_of_getElem? (i := 51) rfl⟩
set_option maxRecDepth 100000 in
theorem g_X4_grind_Jx4a65c_remove_915e3_69 : GoodIn wsX4_grind (wsV yX4_grind.cls 69 RJx4a65c yJx4a65c_remove_915e3 wsJx4a65c_remove_915e3) := goodIn_r _ [42, 43, 44, 14, 45, 16, 33, 21, 22, 23, 24, 25, 26, 27, 28, 46, 47, 48, 14, 49, 50, 51, 52, 53, 54, 55, 68, 69, 70] rfl (by decide +kernel)
set_option maxRecDepth 100000 in
theorem fl_X4_grind_22 : bh_fl wsX4_grind yX4_grind.cls 22 "BeetHouse$Mill" "lack" "I" := Or.inl (List.mem_of_getElem? (i := 9) rfl)
set_option maxRecDepth 100000 in
theorem fl_X4_grind_19 : bh_fl wsX4_grind yX4_grind.cls 19 "BeetHouse$Mill" "stood" "I" := Or.inl (List.mem_of_getElem? (i := 10) rfl)
def f_X4_grind_b144 (N : Nat) (this : Nat) (x1 : Nat) (x2 : Int32) (σ : bh_S) : Option (Unit × bh_S) :=
  (bh_rdI σ 9 x1 2).bind fun v1 =>
  if v1 = 0 then
    if x2 ≤ 0 then
      some ((), σ)
    else
      (bh_rdI σ 5 this 4).bind fun v5 =>
      (bh_wrI σ 5 this 4 (v5 + x2)).bind fun σ7 =>
      (bh_rdI σ7 5 this 3).bind fun v9 =>
      (bh_wrI σ7 5 this 3 (v9 + 1)).bind fun σ11 =>
      some ((), σ11)
  else
    some ((), σ)
set_option maxHeartbeats 4000000 in
set_option maxRecDepth 100000 in
theorem j_X4_grind_b144 (X : bh_X) (N : Nat) (this : Nat) (x1 : Nat) (x2 : Int32) (σ : bh_S) : bh_J eU yX4_grind cX4_grind wsX4_grind none 6 3 86 X σ 144 [(0, .ref this), (1, .ref x1), (2, .int x2)] [] (f_X4_grind_b144 N this x1 x2 σ) := by
  unfold f_X4_grind_b144
  refine bj_aload_nS dX4_grind_144 rfl 1 rfl ?_
  refine bj_getI (ci := 9) (k := 2) (C := RX8) (T := TX8) (N := 4) rfl hi_X4_grind_X8 (by decide) rfl fl_X4_grind_65 (Or.inl rfl) dX4_grind_145 (fun v1 h2 => ?_)
  refine bj_if_ne (tgt := 175) dX4_grind_148 (by decide) (fun h3 => ?_) (fun h3 => ?_)
  · exact bj_vret dX4_grind_175
  · refine bj_iload_n dX4_grind_151 rfl 2 rfl ?_
    refine bj_if_le (tgt := 175) dX4_grind_152 (by decide) (fun h4 => ?_) (fun h4 => ?_)
    · exact bj_vret dX4_grind_175
    · refine bj_aload_nS dX4_grind_155 rfl 0 rfl ?_
      refine bj_dup dX4_grind_156 rfl ?_
      refine bj_getI (ci := 5) (k := 4) (C := RX4) (T := TX4) (N := 5) rfl hi_X4_grind_X4 (by decide) rfl fl_X4_grind_22 (Or.inl rfl) dX4_grind_157 (fun v5 h6 => ?_)
      refine bj_iload_n dX4_grind_160 rfl 2 rfl ?_
      refine bj_iadd dX4_grind_161 ?_
      refine bj_putI (ci := 5) (k := 4) (C := RX4) (T := TX4) (N := 5) rfl hi_X4_grind_X4 (by decide) rfl fl_X4_grind_22 (Or.inl rfl) tyX4 tyX4_ok nmX4 rfl (Or.inl rfl) dX4_grind_162 (fun σ7 h8 => ?_)
      refine bj_aload_nS dX4_grind_165 rfl 0 rfl ?_
      refine bj_dup dX4_grind_166 rfl ?_
      refine bj_getI (ci := 5) (k := 3) (C := RX4) (T := TX4) (N := 5) rfl hi_X4_grind_X4 (by decide) rfl fl_X4_grind_19 (Or.inl rfl) dX4_grind_167 (fun v9 h10 => ?_)
      refine bj_iconst (v := 1) dX4_grind_170 (by decide) ?_
      refine bj_iadd dX4_grind_171 ?_
      refine bj_putI (ci := 5) (k := 3) (C := RX4) (T := TX4) (N := 5) rfl hi_X4_grind_X4 (by decide) rfl fl_X4_grind_19 (Or.inl rfl) tyX4 tyX4_ok nmX4 rfl (Or.inl rfl) dX4_grind_172 (fun σ11 h12 => ?_)
      exact bj_vret dX4_grind_175
def f_X4_grind_b7 (N : Nat) : Nat → Nat → Nat → Int32 → Int32 → bh_S → Option (Unit × bh_S)
  | 0, _, _, _, _, _ => none
  | n + 1, this, x1, x2, x3, σ =>
    (bh_rdI σ 5 this 0).bind fun v1 =>
    if v1 ≤ x3 then
      f_X4_grind_b144 N this x1 x2 σ
    else
      (bh_rdR σ 9 x1 0).bind fun v4 =>
      (v4).bind fun a6 =>
      (bh_ck σ a6 0).bind fun _ =>
      bh_bnd (f_Jx4a65c_isEmpty_aae02 a6 σ) fun v9 σ10 =>
      if v9 = 0 then
        (bh_rdR σ10 9 x1 0).bind fun v13 =>
        (v13).bind fun a15 =>
        (bh_ck σ10 a15 0).bind fun _ =>
        bh_bnd (f_Jx4a65c_get_915e3 a15 0 σ10) fun v18 σ19 =>
        (bh_cst σ19 3 v18).bind fun _ =>
        (v18).bind fun a21 =>
        (bh_rdI σ19 3 a21 1).bind fun v23 =>
        (bh_rdR σ19 3 a21 0).bind fun v25 =>
        (v25).bind fun a27 =>
        (bh_ck σ19 a27 7).bind fun _ =>
        bh_bnd (f_X6_rootsFor a27 x2 σ19) fun v30 σ31 =>
        (bh_rdR σ31 3 a21 0).bind fun v33 =>
        (v33).bind fun a35 =>
        (bh_ck σ31 a35 7).bind fun _ =>
        bh_bnd (f_X6_unitsFor a35 (bh_min v23 v30) σ31) fun v38 σ39 =>
        (bh_rdI σ39 3 a21 1).bind fun v41 =>
        (bh_wrI σ39 3 a21 1 (v41 - (bh_min v23 v30))).bind fun σ43 =>
        (bh_rdI σ43 9 x1 2).bind fun v45 =>
        (bh_wrI σ43 9 x1 2 (v45 - (bh_min v23 v30))).bind fun σ47 =>
        (bh_rdI σ47 5 this 1).bind fun v49 =>
        (bh_wrI σ47 5 this 1 (v49 + (bh_min v23 v30))).bind fun σ51 =>
        (bh_rdI σ51 3 a21 1).bind fun v53 =>
        if v53 ≤ 0 then
          (bh_rdI σ51 5 this 2).bind fun v56 =>
          (bh_rdI σ51 3 a21 2).bind fun v58 =>
          (bh_wrI σ51 5 this 2 (v56 + v58)).bind fun σ60 =>
          (bh_rdR σ60 9 x1 0).bind fun v62 =>
          (v62).bind fun a64 =>
          (bh_ck σ60 a64 0).bind fun _ =>
          bh_bnd (f_Jx4a65c_remove_915e3 a64 0 σ60) fun v67 σ68 =>
          f_X4_grind_b7 N n this x1 (x2 - v38) (x3 + 1) σ68
        else
          f_X4_grind_b144 N this x1 (x2 - v38) σ51
      else
        f_X4_grind_b144 N this x1 x2 σ10
set_option maxHeartbeats 4000000 in
set_option maxRecDepth 100000 in
theorem j_X4_grind_b7 (X : bh_X) (N : Nat) : ∀ (n : Nat) (this : Nat) (x1 : Nat) (x2 : Int32) (x3 : Int32) (σ : bh_S), bh_J eU yX4_grind cX4_grind wsX4_grind none 6 3 86 X σ 7 [(0, .ref this), (1, .ref x1), (2, .int x2), (3, .int x3)] [] (f_X4_grind_b7 N n this x1 x2 x3 σ) := by
  intro n
  induction n with
  | zero => intro this x1 x2 x3 σ; exact bj_none
  | succ n ih =>
    intro this x1 x2 x3 σ
    unfold f_X4_grind_b7
    refine bj_iload_n dX4_grind_7 rfl 3 rfl ?_
    refine bj_aload_nS dX4_grind_8 rfl 0 rfl ?_
    refine bj_getI (ci := 5) (k := 0) (C := RX4) (T := TX4) (N := 5) rfl hi_X4_grind_X4 (by decide) rfl fl_X4_grind_7 (Or.inl rfl) dX4_grind_9 (fun v1 h2 => ?_)
    refine bj_icmp_ge (tgt := 144) dX4_grind_12 (by decide) (fun h3 => ?_) (fun h3 => ?_)
    · refine bj_sub (lv' := [(0, .ref this), (1, .ref x1), (2, .int x2)]) [0, 1, 2] rfl ?_
      exact j_X4_grind_b144 X N this x1 x2 σ
    · refine bj_aload_nS dX4_grind_15 rfl 1 rfl ?_
      refine bj_getR (ci := 9) (k := 0) (C := RX8) (T := TX8) (N := 4) rfl hi_X4_grind_X8 (by decide) rfl fl_X4_grind_25 (Or.inl rfl) dX4_grind_16 (fun v4 h5 => ?_)
      refine bj_nn (fun a6 h7 => ?_)
      subst h7
      refine bj_op (fun _ h8 => ?_)
      refine bj_callI (br_V (As := []) (rest := []) (q := (RJx4a65c, TJx4a65c, 3)) (c_Jx4a65c_isEmpty_aae02 X a6 σ) rfl g_X4_grind_Jx4a65c_isEmpty_aae02_31 rfl (bh_ck_spec h8) ⟨rfl, hd_Jx4a65c_isEmpty_aae02⟩ rfl ⟨by decide, by decide⟩ rfl (Nat.le_of_ble_eq_true rfl) dX4_grind_19) (fun v9 σ10 h11 => ?_)
      refine bj_if_ne (tgt := 144) dX4_grind_22 (by decide) (fun h12 => ?_) (fun h12 => ?_)
      · refine bj_sub (lv' := [(0, .ref this), (1, .ref x1), (2, .int x2)]) [0, 1, 2] rfl ?_
        exact j_X4_grind_b144 X N this x1 x2 σ10
      · refine bj_aload_nS dX4_grind_25 rfl 1 rfl ?_
        refine bj_getR (ci := 9) (k := 0) (C := RX8) (T := TX8) (N := 4) rfl hi_X4_grind_X8 (by decide) rfl fl_X4_grind_25 (Or.inl rfl) dX4_grind_26 (fun v13 h14 => ?_)
        refine bj_iconst (v := 0) dX4_grind_29 (by decide) ?_
        refine bj_nn (fun a15 h16 => ?_)
        subst h16
        refine bj_op (fun _ h17 => ?_)
        refine bj_callR (br_V (As := [.int 0]) (rest := []) (q := (RJx4a65c, TJx4a65c, 3)) (c_Jx4a65c_get_915e3 X a15 0 σ10) rfl g_X4_grind_Jx4a65c_get_915e3_37 rfl (bh_ck_spec h17) ⟨rfl, hd_Jx4a65c_get_915e3⟩ rfl ⟨by decide, by decide⟩ rfl (Nat.le_of_ble_eq_true rfl) dX4_grind_30) (fun v18 σ19 h20 => ?_)
        refine bj_cast (ci := 3) (C := RX2) (T := TX2) (N := 3) (o := v18) rfl (List.mem_of_getElem? (i := 2) rfl) dX4_grind_33 ?_
        refine bj_astore (lv' := [(4, va_rf v18), (0, .ref this), (1, .ref x1), (2, .int x2), (3, .int x3)]) (o := v18) dX4_grind_36 (by decide) rfl ?_
        refine bj_aload dX4_grind_38 0 rfl ?_
        refine bj_nn (fun a21 h22 => ?_)
        subst h22
        refine bj_getI (ci := 3) (k := 1) (C := RX2) (T := TX2) (N := 3) rfl hi_X4_grind_X2 (by decide) rfl fl_X4_grind_43 (Or.inl rfl) dX4_grind_40 (fun v23 h24 => ?_)
        refine bj_aloadS dX4_grind_43 0 rfl ?_
        refine bj_getR (ci := 3) (k := 0) (C := RX2) (T := TX2) (N := 3) rfl hi_X4_grind_X2 (by decide) rfl fl_X4_grind_46 (Or.inl rfl) dX4_grind_45 (fun v25 h26 => ?_)
        refine bj_iload_n dX4_grind_48 rfl 3 rfl ?_
        refine bj_nn (fun a27 h28 => ?_)
        subst h28
        refine bj_op (fun _ h29 => ?_)
        refine bj_callI (br_VN (As := [.int x2]) (rest := [.int v23]) (host := "BeetHouse") (q := (RX6, TX6, 14)) (c_X6_rootsFor X a27 x2 σ19) rfl g_X4_grind_X6_rootsFor (List.mem_of_getElem? (i := 76) rfl) (List.mem_of_getElem? (i := 35) rfl) (List.mem_of_getElem? (i := 34) rfl) (List.mem_of_getElem? (i := 36) rfl) rfl (bh_ck_spec h29) hd_X6_rootsFor rfl ⟨by decide, by decide⟩ rfl (Nat.le_of_ble_eq_true rfl) dX4_grind_49) (fun v30 σ31 h32 => ?_)
        refine bj_min (List.mem_of_getElem? (i := 3) rfl) (List.mem_of_getElem? (i := 4) rfl) (List.mem_of_getElem? (i := 5) rfl) (List.mem_of_getElem? (i := 6) rfl) (by decide) (Nat.le_of_ble_eq_true rfl) dX4_grind_52 ?_
        refine bj_istore (lv' := [(5, .int (bh_min v23 v30)), (4, .ref a21), (0, .ref this), (1, .ref x1), (2, .int x2), (3, .int x3)]) dX4_grind_55 (by decide) rfl ?_
        refine bj_iload_n dX4_grind_57 rfl 4 rfl ?_
        refine bj_aloadS dX4_grind_58 1 rfl ?_
        refine bj_getR (ci := 3) (k := 0) (C := RX2) (T := TX2) (N := 3) rfl hi_X4_grind_X2 (by decide) rfl fl_X4_grind_46 (Or.inl rfl) dX4_grind_60 (fun v33 h34 => ?_)
        refine bj_iload dX4_grind_63 0 rfl ?_
        refine bj_nn (fun a35 h36 => ?_)
        subst h36
        refine bj_op (fun _ h37 => ?_)
        refine bj_callI (br_VN (As := [.int (bh_min v23 v30)]) (rest := [.int x2]) (host := "BeetHouse") (q := (RX6, TX6, 14)) (c_X6_unitsFor X a35 (bh_min v23 v30) σ31) rfl g_X4_grind_X6_unitsFor (List.mem_of_getElem? (i := 77) rfl) (List.mem_of_getElem? (i := 35) rfl) (List.mem_of_getElem? (i := 39) rfl) (List.mem_of_getElem? (i := 40) rfl) rfl (bh_ck_spec h37) hd_X6_unitsFor rfl ⟨by decide, by decide⟩ rfl (Nat.le_of_ble_eq_true rfl) dX4_grind_65) (fun v38 σ39 h40 => ?_)
        refine bj_isub dX4_grind_68 ?_
        refine bj_istore_n (lv' := [(2, .int (x2 - v38)), (5, .int (bh_min v23 v30)), (4, .ref a21), (0, .ref this), (1, .ref x1), (3, .int x3)]) dX4_grind_69 rfl (by decide) rfl ?_
        refine bj_aloadS dX4_grind_70 2 rfl ?_
        refine bj_dup dX4_grind_72 rfl ?_
        refine bj_getI (ci := 3) (k := 1) (C := RX2) (T := TX2) (N := 3) rfl hi_X4_grind_X2 (by decide) rfl fl_X4_grind_43 (Or.inl rfl) dX4_grind_73 (fun v41 h42 => ?_)
        refine bj_iload dX4_grind_76 1 rfl ?_
        refine bj_isub dX4_grind_78 ?_
        refine bj_putI (ci := 3) (k := 1) (C := RX2) (T := TX2) (N := 3) rfl hi_X4_grind_X2 (by decide) rfl fl_X4_grind_43 (Or.inl rfl) tyX2 tyX2_ok nmX2 rfl (Or.inl rfl) dX4_grind_79 (fun σ43 h44 => ?_)
        refine bj_aload_nS dX4_grind_82 rfl 4 rfl ?_
        refine bj_dup dX4_grind_83 rfl ?_
        refine bj_getI (ci := 9) (k := 2) (C := RX8) (T := TX8) (N := 4) rfl hi_X4_grind_X8 (by decide) rfl fl_X4_grind_65 (Or.inl rfl) dX4_grind_84 (fun v45 h46 => ?_)
        refine bj_iload dX4_grind_87 1 rfl ?_
        refine bj_isub dX4_grind_89 ?_
        refine bj_putI (ci := 9) (k := 2) (C := RX8) (T := TX8) (N := 4) rfl hi_X4_grind_X8 (by decide) rfl fl_X4_grind_65 (Or.inl rfl) tyX8 tyX8_ok nmX8 rfl (Or.inl rfl) dX4_grind_90 (fun σ47 h48 => ?_)
        refine bj_aload_nS dX4_grind_93 rfl 3 rfl ?_
        refine bj_dup dX4_grind_94 rfl ?_
        refine bj_getI (ci := 5) (k := 1) (C := RX4) (T := TX4) (N := 5) rfl hi_X4_grind_X4 (by decide) rfl fl_X4_grind_13 (Or.inl rfl) dX4_grind_95 (fun v49 h50 => ?_)
        refine bj_iload dX4_grind_98 1 rfl ?_
        refine bj_iadd dX4_grind_100 ?_
        refine bj_putI (ci := 5) (k := 1) (C := RX4) (T := TX4) (N := 5) rfl hi_X4_grind_X4 (by decide) rfl fl_X4_grind_13 (Or.inl rfl) tyX4 tyX4_ok nmX4 rfl (Or.inl rfl) dX4_grind_101 (fun σ51 h52 => ?_)
        refine bj_aloadS dX4_grind_104 2 rfl ?_
        refine bj_getI (ci := 3) (k := 1) (C := RX2) (T := TX2) (N := 3) rfl hi_X4_grind_X2 (by decide) rfl fl_X4_grind_43 (Or.inl rfl) dX4_grind_106 (fun v53 h54 => ?_)
        refine bj_if_le (tgt := 115) dX4_grind_109 (by decide) (fun h55 => ?_) (fun h55 => ?_)
        · refine bj_aload_nS dX4_grind_115 rfl 3 rfl ?_
          refine bj_dup dX4_grind_116 rfl ?_
          refine bj_getI (ci := 5) (k := 2) (C := RX4) (T := TX4) (N := 5) rfl hi_X4_grind_X4 (by decide) rfl fl_X4_grind_16 (Or.inl rfl) dX4_grind_117 (fun v56 h57 => ?_)
          refine bj_aloadS dX4_grind_120 2 rfl ?_
          refine bj_getI (ci := 3) (k := 2) (C := RX2) (T := TX2) (N := 3) rfl hi_X4_grind_X2 (by decide) rfl fl_X4_grind_66 (Or.inl rfl) dX4_grind_122 (fun v58 h59 => ?_)
          refine bj_iadd dX4_grind_125 ?_
          refine bj_putI (ci := 5) (k := 2) (C := RX4) (T := TX4) (N := 5) rfl hi_X4_grind_X4 (by decide) rfl fl_X4_grind_16 (Or.inl rfl) tyX4 tyX4_ok nmX4 rfl (Or.inl rfl) dX4_grind_126 (fun σ60 h61 => ?_)
          refine bj_aload_nS dX4_grind_129 rfl 4 rfl ?_
          refine bj_getR (ci := 9) (k := 0) (C := RX8) (T := TX8) (N := 4) rfl hi_X4_grind_X8 (by decide) rfl fl_X4_grind_25 (Or.inl rfl) dX4_grind_130 (fun v62 h63 => ?_)
          refine bj_iconst (v := 0) dX4_grind_133 (by decide) ?_
          refine bj_nn (fun a64 h65 => ?_)
          subst h65
          refine bj_op (fun _ h66 => ?_)
          refine bj_callR (br_V (As := [.int 0]) (rest := []) (q := (RJx4a65c, TJx4a65c, 3)) (c_Jx4a65c_remove_915e3 X a64 0 σ60) rfl g_X4_grind_Jx4a65c_remove_915e3_69 rfl (bh_ck_spec h66) ⟨rfl, hd_Jx4a65c_remove_915e3⟩ rfl ⟨by decide, by decide⟩ rfl (Nat.le_of_ble_eq_true rfl) dX4_grind_134) (fun v67 σ68 h69 => ?_)
          refine bj_pop dX4_grind_137 (bh_cat _) ?_
          refine bj_iinc (v := x3 + 1) (lv' := [(3, .int (x3 + 1)), (2, .int (x2 - v38)), (5, .int (bh_min v23 v30)), (4, .ref a21), (0, .ref this), (1, .ref x1)]) dX4_grind_138 5 rfl rfl (by decide) rfl ?_
          refine bj_goto (tgt := 7) dX4_grind_141 (by decide) ?_
          refine bj_sub (lv' := [(0, .ref this), (1, .ref x1), (2, .int (x2 - v38)), (3, .int (x3 + 1))]) [4, 5, 1, 0] rfl ?_
          exact ih this x1 (x2 - v38) (x3 + 1) σ68
        · refine bj_goto (tgt := 144) dX4_grind_112 (by decide) ?_
          refine bj_sub (lv' := [(0, .ref this), (1, .ref x1), (2, .int (x2 - v38))]) [3, 4, 0] rfl ?_
          exact j_X4_grind_b144 X N this x1 (x2 - v38) σ51
def f_X4_grind (N : Nat) (this : Nat) (p1 : Nat) (σ : bh_S) : Option (Unit × bh_S) :=
  (bh_rdI σ 5 this 0).bind fun v1 =>
  f_X4_grind_b7 N N this p1 v1 0 σ
set_option maxHeartbeats 4000000 in
set_option maxRecDepth 100000 in
theorem c_X4_grind (X : bh_X) (N : Nat) (this : Nat) (p1 : Nat) (σ : bh_S) : bh_MX eU X yX4_grind wsX4_grind 3 86 [.ref this, .ref p1] σ (f_X4_grind N this p1 σ) := by
  refine bh_enter (cc := cX4_grind) (NL := 6) (ret := none) (by decide) rfl (Nat.le_of_ble_eq_true rfl) (fun X => ?_)
  show bh_J eU yX4_grind cX4_grind wsX4_grind none 6 3 86 X σ 0 [(0, .ref this), (1, .ref p1)] [] _
  unfold f_X4_grind
  refine bj_aload_nS dX4_grind_0 rfl 0 rfl ?_
  refine bj_getI (ci := 5) (k := 0) (C := RX4) (T := TX4) (N := 5) rfl hi_X4_grind_X4 (by decide) rfl fl_X4_grind_7 (Or.inl rfl) dX4_grind_1 (fun v1 h2 => ?_)
  refine bj_istore_n (lv' := [(2, .int v1), (0, .ref this), (1, .ref p1)]) dX4_grind_4 rfl (by decide) rfl ?_
  refine bj_iconst (v := 0) dX4_grind_5 (by decide) ?_
  refine bj_istore_n (lv' := [(3, .int 0), (2, .int v1), (0, .ref this), (1, .ref p1)]) dX4_grind_6 rfl (by decide) rfl ?_
  refine bj_sub (lv' := [(0, .ref this), (1, .ref p1), (2, .int v1), (3, .int 0)]) [2, 3, 1, 0] rfl ?_
  exact j_X4_grind_b7 X N N this p1 v1 0 σ
/-! BeetHouse$Plot.wasteOf(II)I -/
theorem hi_X6_wasteOf_X6 : ∀ w ∈ u_ws RX6 TX6 14, w ∈ wsX6_wasteOf := fun _ h => (List.mem_cons_of_mem _ (List.mem_append_right _ h))
set_option maxRecDepth 100000 in
theorem fl_X6_wasteOf_22 : bh_fl wsX6_wasteOf yX6_wasteOf.cls 22 "BeetHouse$Plot" "frozen" "Z" := Or.inl (List.mem_of_getElem? (i := 1) rfl)
set_option maxRecDepth 100000 in
theorem fl_X6_wasteOf_25 : bh_fl wsX6_wasteOf yX6_wasteOf.cls 25 "BeetHouse$Plot" "thawedSince" "I" := Or.inl (List.mem_of_getElem? (i := 2) rfl)
set_option maxRecDepth 100000 in
theorem fl_X6_wasteOf_18 : bh_fl wsX6_wasteOf yX6_wasteOf.cls 18 "BeetHouse$Plot" "covered" "Z" := Or.inl (List.mem_of_getElem? (i := 7) rfl)
def f_X6_wasteOf_b47 (this : Nat) (x1 : Int32) (x3 : Int32) (σ : bh_S) : Option (Int32 × bh_S) :=
  some (((x1.toInt64 * x3.toInt64) / 1000).toInt32, σ)
set_option maxHeartbeats 4000000 in
set_option maxRecDepth 100000 in
theorem j_X6_wasteOf_b47 (X : bh_X) (this : Nat) (x1 : Int32) (x3 : Int32) (σ : bh_S) : bh_J eI yX6_wasteOf cX6_wasteOf wsX6_wasteOf (some .int) 4 1 13 X σ 47 [(0, .ref this), (1, .int x1), (3, .int x3)] [] (f_X6_wasteOf_b47 this x1 x3 σ) := by
  unfold f_X6_wasteOf_b47
  refine bj_iload_n dX6_wasteOf_47 rfl 1 rfl ?_
  refine bj_i2l dX6_wasteOf_48 ?_
  refine bj_iload_n dX6_wasteOf_49 rfl 2 rfl ?_
  refine bj_i2l dX6_wasteOf_50 ?_
  refine bj_lmul dX6_wasteOf_51 ?_
  refine bj_ldc2 dX6_wasteOf_52 (List.mem_of_getElem? (i := 8) rfl) ?_
  refine bj_ldivC dX6_wasteOf_55 (by decide) ?_
  refine bj_l2i dX6_wasteOf_56 ?_
  exact bj_iret dX6_wasteOf_57
def f_X6_wasteOf (this : Nat) (p1 : Int32) (p2 : Int32) (σ : bh_S) : Option (Int32 × bh_S) :=
  (bh_rdI σ 7 this 9).bind fun v1 =>
  if v1 = 0 then
    (bh_rdI σ 7 this 10).bind fun v4 =>
    if v4 = (-9) then
      (bh_rdI σ 7 this 8).bind fun v7 =>
      if v7 = 0 then
        f_X6_wasteOf_b47 this p1 p2 σ
      else
        f_X6_wasteOf_b47 this p1 (p2 / 2) σ
    else
      f_X6_wasteOf_b47 this p1 (bh_min (3 * p2) 1000) σ
  else
    f_X6_wasteOf_b47 this p1 0 σ
set_option maxHeartbeats 4000000 in
set_option maxRecDepth 100000 in
theorem c_X6_wasteOf (X : bh_X) (this : Nat) (p1 : Int32) (p2 : Int32) (σ : bh_S) : bh_MX eI X yX6_wasteOf wsX6_wasteOf 1 13 [.ref this, .int p1, .int p2] σ (f_X6_wasteOf this p1 p2 σ) := by
  refine bh_enter (cc := cX6_wasteOf) (NL := 4) (ret := (some .int)) (by decide) rfl (Nat.le_of_ble_eq_true rfl) (fun X => ?_)
  show bh_J eI yX6_wasteOf cX6_wasteOf wsX6_wasteOf (some .int) 4 1 13 X σ 0 [(0, .ref this), (1, .int p1), (2, .int p2)] [] _
  unfold f_X6_wasteOf
  refine bj_iload_n dX6_wasteOf_0 rfl 2 rfl ?_
  refine bj_istore_n (lv' := [(3, .int p2), (0, .ref this), (1, .int p1), (2, .int p2)]) dX6_wasteOf_1 rfl (by decide) rfl ?_
  refine bj_aload_nS dX6_wasteOf_2 rfl 1 rfl ?_
  refine bj_getI (ci := 7) (k := 9) (C := RX6) (T := TX6) (N := 14) rfl hi_X6_wasteOf_X6 (by decide) rfl fl_X6_wasteOf_22 (Or.inl rfl) dX6_wasteOf_3 (fun v1 h2 => ?_)
  refine bj_if_eq (tgt := 14) dX6_wasteOf_6 (by decide) (fun h3 => ?_) (fun h3 => ?_)
  · refine bj_aload_nS dX6_wasteOf_14 rfl 1 rfl ?_
    refine bj_getI (ci := 7) (k := 10) (C := RX6) (T := TX6) (N := 14) rfl hi_X6_wasteOf_X6 (by decide) rfl fl_X6_wasteOf_25 (Or.inl rfl) dX6_wasteOf_15 (fun v4 h5 => ?_)
    refine bj_bipush (v := (-9)) dX6_wasteOf_18 (by decide) ?_
    refine bj_icmp_eq (tgt := 36) dX6_wasteOf_20 (by decide) (fun h6 => ?_) (fun h6 => ?_)
    · refine bj_aload_nS dX6_wasteOf_36 rfl 1 rfl ?_
      refine bj_getI (ci := 7) (k := 8) (C := RX6) (T := TX6) (N := 14) rfl hi_X6_wasteOf_X6 (by decide) rfl fl_X6_wasteOf_18 (Or.inl rfl) dX6_wasteOf_37 (fun v7 h8 => ?_)
      refine bj_if_eq (tgt := 47) dX6_wasteOf_40 (by decide) (fun h9 => ?_) (fun h9 => ?_)
      · refine bj_sub (lv' := [(0, .ref this), (1, .int p1), (3, .int p2)]) [1, 2, 0] rfl ?_
        exact j_X6_wasteOf_b47 X this p1 p2 σ
      · refine bj_iload_n dX6_wasteOf_43 rfl 3 rfl ?_
        refine bj_iconst (v := 2) dX6_wasteOf_44 (by decide) ?_
        refine bj_idivC dX6_wasteOf_45 (by decide) ?_
        refine bj_istore_n (lv' := [(3, .int (p2 / 2)), (0, .ref this), (1, .int p1), (2, .int p2)]) dX6_wasteOf_46 rfl (by decide) rfl ?_
        refine bj_sub (lv' := [(0, .ref this), (1, .int p1), (3, .int (p2 / 2))]) [1, 2, 0] rfl ?_
        exact j_X6_wasteOf_b47 X this p1 (p2 / 2) σ
    · refine bj_iconst (v := 3) dX6_wasteOf_23 (by decide) ?_
      refine bj_iload_n dX6_wasteOf_24 rfl 3 rfl ?_
      refine bj_imul dX6_wasteOf_25 ?_
      refine bj_sipush (v := 1000) dX6_wasteOf_26 (by decide) ?_
      refine bj_min (List.mem_of_getElem? (i := 3) rfl) (List.mem_of_getElem? (i := 4) rfl) (List.mem_of_getElem? (i := 5) rfl) (List.mem_of_getElem? (i := 6) rfl) (by decide) (Nat.le_of_ble_eq_true rfl) dX6_wasteOf_29 ?_
      refine bj_istore_n (lv' := [(3, .int (bh_min (3 * p2) 1000)), (0, .ref this), (1, .int p1), (2, .int p2)]) dX6_wasteOf_32 rfl (by decide) rfl ?_
      refine bj_goto (tgt := 47) dX6_wasteOf_33 (by decide) ?_
      refine bj_sub (lv' := [(0, .ref this), (1, .int p1), (3, .int (bh_min (3 * p2) 1000))]) [1, 2, 0] rfl ?_
      exact j_X6_wasteOf_b47 X this p1 (bh_min (3 * p2) 1000) σ
  · refine bj_iconst (v := 0) dX6_wasteOf_9 (by decide) ?_
    refine bj_istore_n (lv' := [(3, .int 0), (0, .ref this), (1, .int p1), (2, .int p2)]) dX6_wasteOf_10 rfl (by decide) rfl ?_
    refine bj_goto (tgt := 47) dX6_wasteOf_11 (by decide) ?_
    refine bj_sub (lv' := [(0, .ref this), (1, .int p1), (3, .int 0)]) [1, 2, 0] rfl ?_
    exact j_X6_wasteOf_b47 X this p1 0 σ
/-! BeetHouse$Weather.numberOf(I)I -/
theorem hi_X7_numberOf_X7 : ∀ w ∈ u_ws RX7 TX7 2, w ∈ wsX7_numberOf := fun _ h => (List.mem_cons_of_mem _ (List.mem_append_right _ h))
set_option maxRecDepth 100000 in
theorem fl_X7_numberOf_9 : bh_fl wsX7_numberOf yX7_numberOf.cls 9 "BeetHouse$Weather" "warmths" "[I" := Or.inl (List.mem_of_getElem? (i := 1) rfl)
set_option maxRecDepth 100000 in
theorem fl_X7_numberOf_15 : bh_fl wsX7_numberOf yX7_numberOf.cls 15 "BeetHouse$Weather" "numbers" "[I" := Or.inl (List.mem_of_getElem? (i := 2) rfl)
def f_X7_numberOf (this : Nat) (p1 : Int32) (σ : bh_S) : Option (Int32 × bh_S) :=
  if p1 < 0 then
    some (0, σ)
  else
    if p1 < 100 then
      (bh_rdR σ 8 this 0).bind fun v3 =>
      (v3).bind fun a5 =>
      (bh_ldI σ 12 a5 p1).bind fun v7 =>
      if v7 < 0 then
        some (0, σ)
      else
        if 10 ≤ v7 then
          some (0, σ)
        else
          (bh_rdR σ 8 this 1).bind fun v11 =>
          (v11).bind fun a13 =>
          (bh_ldI σ 12 a13 v7).bind fun v15 =>
          some (v15, σ)
    else
      some (0, σ)
set_option maxHeartbeats 4000000 in
set_option maxRecDepth 100000 in
theorem c_X7_numberOf (X : bh_X) (this : Nat) (p1 : Int32) (σ : bh_S) : bh_MX eI X yX7_numberOf wsX7_numberOf 0 0 [.ref this, .int p1] σ (f_X7_numberOf this p1 σ) := by
  refine bh_enter (cc := cX7_numberOf) (NL := 3) (ret := (some .int)) (by decide) rfl (Nat.le_of_ble_eq_true rfl) (fun X => ?_)
  show bh_J eI yX7_numberOf cX7_numberOf wsX7_numberOf (some .int) 3 0 0 X σ 0 [(0, .ref this), (1, .int p1)] [] _
  unfold f_X7_numberOf
  refine bj_iload_n dX7_numberOf_0 rfl 1 rfl ?_
  refine bj_if_lt (tgt := 10) dX7_numberOf_1 (by decide) (fun h1 => ?_) (fun h1 => ?_)
  · refine bj_iconst (v := 0) dX7_numberOf_10 (by decide) ?_
    exact bj_iret dX7_numberOf_11
  · refine bj_iload_n dX7_numberOf_4 rfl 1 rfl ?_
    refine bj_bipush (v := 100) dX7_numberOf_5 (by decide) ?_
    refine bj_icmp_lt (tgt := 12) dX7_numberOf_7 (by decide) (fun h2 => ?_) (fun h2 => ?_)
    · refine bj_aload_nS dX7_numberOf_12 rfl 0 rfl ?_
      refine bj_getR (ci := 8) (k := 0) (C := RX7) (T := TX7) (N := 2) rfl hi_X7_numberOf_X7 (by decide) rfl fl_X7_numberOf_9 (Or.inl rfl) dX7_numberOf_13 (fun v3 h4 => ?_)
      refine bj_iload_n dX7_numberOf_16 rfl 1 rfl ?_
      refine bj_nn (fun a5 h6 => ?_)
      subst h6
      refine bj_iald dX7_numberOf_17 (fun v7 h8 => ?_)
      refine bj_istore_n (lv' := [(2, .int v7), (0, .ref this), (1, .int p1)]) dX7_numberOf_18 rfl (by decide) rfl ?_
      refine bj_iload_n dX7_numberOf_19 rfl 0 rfl ?_
      refine bj_if_lt (tgt := 38) dX7_numberOf_20 (by decide) (fun h9 => ?_) (fun h9 => ?_)
      · refine bj_iconst (v := 0) dX7_numberOf_38 (by decide) ?_
        exact bj_iret dX7_numberOf_39
      · refine bj_iload_n dX7_numberOf_23 rfl 0 rfl ?_
        refine bj_bipush (v := 10) dX7_numberOf_24 (by decide) ?_
        refine bj_icmp_ge (tgt := 38) dX7_numberOf_26 (by decide) (fun h10 => ?_) (fun h10 => ?_)
        · refine bj_iconst (v := 0) dX7_numberOf_38 (by decide) ?_
          exact bj_iret dX7_numberOf_39
        · refine bj_aload_nS dX7_numberOf_29 rfl 1 rfl ?_
          refine bj_getR (ci := 8) (k := 1) (C := RX7) (T := TX7) (N := 2) rfl hi_X7_numberOf_X7 (by decide) rfl fl_X7_numberOf_15 (Or.inl rfl) dX7_numberOf_30 (fun v11 h12 => ?_)
          refine bj_iload_n dX7_numberOf_33 rfl 0 rfl ?_
          refine bj_nn (fun a13 h14 => ?_)
          subst h14
          refine bj_iald dX7_numberOf_34 (fun v15 h16 => ?_)
          refine bj_goto (tgt := 39) dX7_numberOf_35 (by decide) ?_
          exact bj_iret dX7_numberOf_39
    · refine bj_iconst (v := 0) dX7_numberOf_10 (by decide) ?_
      exact bj_iret dX7_numberOf_11
/-! BeetHouse$Plot.<init>(ILBeetHouse$Farmer;IIIZ)V -/
theorem hi_X6_init_X6 : ∀ w ∈ u_ws RX6 TX6 14, w ∈ wsX6_init := fun _ h => (List.mem_cons_of_mem _ (List.mem_append_right _ h))
set_option maxRecDepth 100000 in
theorem fl_X6_init_9 : bh_fl wsX6_init yX6_init.cls 9 "BeetHouse$Plot" "roots" "I" := Or.inl (List.mem_of_getElem? (i := 4) rfl)
set_option maxRecDepth 100000 in
theorem fl_X6_init_15 : bh_fl wsX6_init yX6_init.cls 15 "BeetHouse$Plot" "sugar" "I" := Or.inl (List.mem_of_getElem? (i := 5) rfl)
set_option maxRecDepth 100000 in
theorem fl_X6_init_18 : bh_fl wsX6_init yX6_init.cls 18 "BeetHouse$Plot" "covered" "Z" := Or.inl (List.mem_of_getElem? (i := 6) rfl)
set_option maxRecDepth 100000 in
theorem fl_X6_init_22 : bh_fl wsX6_init yX6_init.cls 22 "BeetHouse$Plot" "frozen" "Z" := Or.inl (List.mem_of_getElem? (i := 7) rfl)
set_option maxRecDepth 100000 in
theorem fl_X6_init_25 : bh_fl wsX6_init yX6_init.cls 25 "BeetHouse$Plot" "thawedSince" "I" := Or.inl (List.mem_of_getElem? (i := 8) rfl)
set_option maxRecDepth 100000 in
theorem fl_X6_init_28 : bh_fl wsX6_init yX6_init.cls 28 "BeetHouse$Plot" "wasted" "I" := Or.inl (List.mem_of_getElem? (i := 9) rfl)
set_option maxRecDepth 100000 in
theorem fl_X6_init_31 : bh_fl wsX6_init yX6_init.cls 31 "BeetHouse$Plot" "spoiled" "I" := Or.inl (List.mem_of_getElem? (i := 10) rfl)
set_option maxRecDepth 100000 in
theorem fl_X6_init_34 : bh_fl wsX6_init yX6_init.cls 34 "BeetHouse$Plot" "came" "I" := Or.inl (List.mem_of_getElem? (i := 11) rfl)
set_option maxRecDepth 100000 in
theorem fl_X6_init_37 : bh_fl wsX6_init yX6_init.cls 37 "BeetHouse$Plot" "number" "I" := Or.inl (List.mem_of_getElem? (i := 12) rfl)
set_option maxRecDepth 100000 in
theorem fl_X6_init_40 : bh_fl wsX6_init yX6_init.cls 40 "BeetHouse$Plot" "farmer" "LBeetHouse$Farmer;" := Or.inl (List.mem_of_getElem? (i := 13) rfl)
set_option maxRecDepth 100000 in
theorem fl_X6_init_44 : bh_fl wsX6_init yX6_init.cls 44 "BeetHouse$Plot" "ground" "I" := Or.inl (List.mem_of_getElem? (i := 14) rfl)
set_option maxRecDepth 100000 in
theorem fl_X6_init_47 : bh_fl wsX6_init yX6_init.cls 47 "BeetHouse$Plot" "sweet" "I" := Or.inl (List.mem_of_getElem? (i := 15) rfl)
set_option maxRecDepth 100000 in
theorem fl_X6_init_50 : bh_fl wsX6_init yX6_init.cls 50 "BeetHouse$Plot" "way" "I" := Or.inl (List.mem_of_getElem? (i := 16) rfl)
set_option maxRecDepth 100000 in
theorem fl_X6_init_53 : bh_fl wsX6_init yX6_init.cls 53 "BeetHouse$Plot" "stony" "Z" := Or.inl (List.mem_of_getElem? (i := 17) rfl)
def f_X6_init (this : Nat) (p1 : Int32) (p2 : Nat) (p3 : Int32) (p4 : Int32) (p5 : Int32) (p6 : Int32) (σ : bh_S) : Option (Unit × bh_S) :=
  (bh_wrI σ 7 this 6 0).bind fun σ1 =>
  (bh_wrI σ1 7 this 7 0).bind fun σ3 =>
  (bh_wrZ σ3 7 this 8 0).bind fun σ5 =>
  (bh_wrZ σ5 7 this 9 0).bind fun σ7 =>
  (bh_wrI σ7 7 this 10 (-9)).bind fun σ9 =>
  (bh_wrI σ9 7 this 11 0).bind fun σ11 =>
  (bh_wrI σ11 7 this 12 0).bind fun σ13 =>
  (bh_wrI σ13 7 this 13 0).bind fun σ15 =>
  (bh_wrI σ15 7 this 0 p1).bind fun σ17 =>
  (bh_wrR σ17 7 this 1 (some p2)).bind fun σ19 =>
  (bh_wrI σ19 7 this 5 p3).bind fun σ21 =>
  (bh_wrI σ21 7 this 2 p4).bind fun σ23 =>
  (bh_wrI σ23 7 this 3 p5).bind fun σ25 =>
  (bh_wrZ σ25 7 this 4 p6).bind fun σ27 =>
  some ((), σ27)
set_option maxHeartbeats 4000000 in
set_option maxRecDepth 100000 in
theorem c_X6_init (X : bh_X) (this : Nat) (p1 : Int32) (p2 : Nat) (p3 : Int32) (p4 : Int32) (p5 : Int32) (p6 : Int32) (σ : bh_S) : bh_MX eU X yX6_init wsX6_init 1 12 [.ref this, .int p1, .ref p2, .int p3, .int p4, .int p5, .int p6] σ (f_X6_init this p1 p2 p3 p4 p5 p6 σ) := by
  refine bh_enter (cc := cX6_init) (NL := 7) (ret := none) (by decide) rfl (Nat.le_of_ble_eq_true rfl) (fun X => ?_)
  show bh_J eU yX6_init cX6_init wsX6_init none 7 1 12 X σ 0 [(0, .ref this), (1, .int p1), (2, .ref p2), (3, .int p3), (4, .int p4), (5, .int p5), (6, .int p6)] [] _
  unfold f_X6_init
  refine bj_aload_nS dX6_init_0 rfl 0 rfl ?_
  refine bj_objInit (List.mem_of_getElem? (i := 1) rfl) (List.mem_of_getElem? (i := 2) rfl) (List.mem_of_getElem? (i := 3) rfl) (by decide) (Nat.le_of_ble_eq_true rfl) dX6_init_1 ?_
  refine bj_aload_nS dX6_init_4 rfl 0 rfl ?_
  refine bj_iconst (v := 0) dX6_init_5 (by decide) ?_
  refine bj_putI (ci := 7) (k := 6) (C := RX6) (T := TX6) (N := 14) rfl hi_X6_init_X6 (by decide) rfl fl_X6_init_9 (Or.inl rfl) tyX6 tyX6_ok nmX6 rfl (Or.inl rfl) dX6_init_6 (fun σ1 h2 => ?_)
  refine bj_aload_nS dX6_init_9 rfl 0 rfl ?_
  refine bj_iconst (v := 0) dX6_init_10 (by decide) ?_
  refine bj_putI (ci := 7) (k := 7) (C := RX6) (T := TX6) (N := 14) rfl hi_X6_init_X6 (by decide) rfl fl_X6_init_15 (Or.inl rfl) tyX6 tyX6_ok nmX6 rfl (Or.inl rfl) dX6_init_11 (fun σ3 h4 => ?_)
  refine bj_aload_nS dX6_init_14 rfl 0 rfl ?_
  refine bj_iconst (v := 0) dX6_init_15 (by decide) ?_
  refine bj_putZ (ci := 7) (k := 8) (C := RX6) (T := TX6) (N := 14) rfl hi_X6_init_X6 (by decide) rfl fl_X6_init_18 (Or.inl rfl) tyX6 tyX6_ok nmX6 rfl (Or.inl rfl) dX6_init_16 (fun σ5 h6 => ?_)
  refine bj_aload_nS dX6_init_19 rfl 0 rfl ?_
  refine bj_iconst (v := 0) dX6_init_20 (by decide) ?_
  refine bj_putZ (ci := 7) (k := 9) (C := RX6) (T := TX6) (N := 14) rfl hi_X6_init_X6 (by decide) rfl fl_X6_init_22 (Or.inl rfl) tyX6 tyX6_ok nmX6 rfl (Or.inl rfl) dX6_init_21 (fun σ7 h8 => ?_)
  refine bj_aload_nS dX6_init_24 rfl 0 rfl ?_
  refine bj_bipush (v := (-9)) dX6_init_25 (by decide) ?_
  refine bj_putI (ci := 7) (k := 10) (C := RX6) (T := TX6) (N := 14) rfl hi_X6_init_X6 (by decide) rfl fl_X6_init_25 (Or.inl rfl) tyX6 tyX6_ok nmX6 rfl (Or.inl rfl) dX6_init_27 (fun σ9 h10 => ?_)
  refine bj_aload_nS dX6_init_30 rfl 0 rfl ?_
  refine bj_iconst (v := 0) dX6_init_31 (by decide) ?_
  refine bj_putI (ci := 7) (k := 11) (C := RX6) (T := TX6) (N := 14) rfl hi_X6_init_X6 (by decide) rfl fl_X6_init_28 (Or.inl rfl) tyX6 tyX6_ok nmX6 rfl (Or.inl rfl) dX6_init_32 (fun σ11 h12 => ?_)
  refine bj_aload_nS dX6_init_35 rfl 0 rfl ?_
  refine bj_iconst (v := 0) dX6_init_36 (by decide) ?_
  refine bj_putI (ci := 7) (k := 12) (C := RX6) (T := TX6) (N := 14) rfl hi_X6_init_X6 (by decide) rfl fl_X6_init_31 (Or.inl rfl) tyX6 tyX6_ok nmX6 rfl (Or.inl rfl) dX6_init_37 (fun σ13 h14 => ?_)
  refine bj_aload_nS dX6_init_40 rfl 0 rfl ?_
  refine bj_iconst (v := 0) dX6_init_41 (by decide) ?_
  refine bj_putI (ci := 7) (k := 13) (C := RX6) (T := TX6) (N := 14) rfl hi_X6_init_X6 (by decide) rfl fl_X6_init_34 (Or.inl rfl) tyX6 tyX6_ok nmX6 rfl (Or.inl rfl) dX6_init_42 (fun σ15 h16 => ?_)
  refine bj_aload_nS dX6_init_45 rfl 0 rfl ?_
  refine bj_iload_n dX6_init_46 rfl 1 rfl ?_
  refine bj_putI (ci := 7) (k := 0) (C := RX6) (T := TX6) (N := 14) rfl hi_X6_init_X6 (by decide) rfl fl_X6_init_37 (Or.inl rfl) tyX6 tyX6_ok nmX6 rfl (Or.inr ⟨rfl, rfl, rfl, List.mem_of_getElem? (i := 12) rfl⟩) dX6_init_47 (fun σ17 h18 => ?_)
  refine bj_aload_nS dX6_init_50 rfl 0 rfl ?_
  refine bj_aload_nS dX6_init_51 rfl 2 rfl ?_
  refine bj_putR (ci := 7) (k := 1) (C := RX6) (T := TX6) (N := 14) (v := (some p2)) rfl hi_X6_init_X6 (by decide) rfl fl_X6_init_40 (Or.inl rfl) tyX6 tyX6_ok nmX6 (Or.inl ⟨_, rfl⟩) (Or.inr ⟨rfl, rfl, rfl, List.mem_of_getElem? (i := 13) rfl⟩) dX6_init_52 (fun σ19 h20 => ?_)
  refine bj_aload_nS dX6_init_55 rfl 0 rfl ?_
  refine bj_iload_n dX6_init_56 rfl 3 rfl ?_
  refine bj_putI (ci := 7) (k := 5) (C := RX6) (T := TX6) (N := 14) rfl hi_X6_init_X6 (by decide) rfl fl_X6_init_44 (Or.inl rfl) tyX6 tyX6_ok nmX6 rfl (Or.inl rfl) dX6_init_57 (fun σ21 h22 => ?_)
  refine bj_aload_nS dX6_init_60 rfl 0 rfl ?_
  refine bj_iload dX6_init_61 4 rfl ?_
  refine bj_putI (ci := 7) (k := 2) (C := RX6) (T := TX6) (N := 14) rfl hi_X6_init_X6 (by decide) rfl fl_X6_init_47 (Or.inl rfl) tyX6 tyX6_ok nmX6 rfl (Or.inr ⟨rfl, rfl, rfl, List.mem_of_getElem? (i := 15) rfl⟩) dX6_init_63 (fun σ23 h24 => ?_)
  refine bj_aload_nS dX6_init_66 rfl 0 rfl ?_
  refine bj_iload dX6_init_67 5 rfl ?_
  refine bj_putI (ci := 7) (k := 3) (C := RX6) (T := TX6) (N := 14) rfl hi_X6_init_X6 (by decide) rfl fl_X6_init_50 (Or.inl rfl) tyX6 tyX6_ok nmX6 rfl (Or.inr ⟨rfl, rfl, rfl, List.mem_of_getElem? (i := 16) rfl⟩) dX6_init_69 (fun σ25 h26 => ?_)
  refine bj_aload_nS dX6_init_72 rfl 0 rfl ?_
  refine bj_iload dX6_init_73 6 rfl ?_
  refine bj_putZ (ci := 7) (k := 4) (C := RX6) (T := TX6) (N := 14) rfl hi_X6_init_X6 (by decide) rfl fl_X6_init_53 (Or.inl rfl) tyX6 tyX6_ok nmX6 rfl (Or.inr ⟨rfl, rfl, rfl, List.mem_of_getElem? (i := 17) rfl⟩) dX6_init_75 (fun σ27 h28 => ?_)
  exact bj_vret dX6_init_78
/-! BeetHouse$Plot.lift(I)V -/
theorem hi_X6_lift_X6 : ∀ w ∈ u_ws RX6 TX6 14, w ∈ wsX6_lift := fun _ h => (List.mem_cons_of_mem _ (List.mem_append_right _ h))
set_option maxRecDepth 100000 in
theorem fl_X6_lift_44 : bh_fl wsX6_lift yX6_lift.cls 44 "BeetHouse$Plot" "ground" "I" := Or.inl (List.mem_of_getElem? (i := 1) rfl)
set_option maxRecDepth 100000 in
theorem fl_X6_lift_9 : bh_fl wsX6_lift yX6_lift.cls 9 "BeetHouse$Plot" "roots" "I" := Or.inl (List.mem_of_getElem? (i := 6) rfl)
set_option maxRecDepth 100000 in
theorem fl_X6_lift_15 : bh_fl wsX6_lift yX6_lift.cls 15 "BeetHouse$Plot" "sugar" "I" := Or.inl (List.mem_of_getElem? (i := 7) rfl)
set_option maxRecDepth 100000 in
theorem fl_X6_lift_47 : bh_fl wsX6_lift yX6_lift.cls 47 "BeetHouse$Plot" "sweet" "I" := Or.inl (List.mem_of_getElem? (i := 8) rfl)
def f_X6_lift (this : Nat) (p1 : Int32) (σ : bh_S) : Option (Unit × bh_S) :=
  (bh_rdI σ 7 this 5).bind fun v1 =>
  (bh_rdI σ 7 this 5).bind fun v3 =>
  (bh_wrI σ 7 this 5 (v3 - (bh_min p1 v1))).bind fun σ5 =>
  (bh_rdI σ5 7 this 6).bind fun v7 =>
  (bh_wrI σ5 7 this 6 (v7 + (bh_min p1 v1))).bind fun σ9 =>
  (bh_rdI σ9 7 this 7).bind fun v11 =>
  (bh_rdI σ9 7 this 2).bind fun v13 =>
  (bh_wrI σ9 7 this 7 (v11 + ((bh_min p1 v1) * v13))).bind fun σ15 =>
  some ((), σ15)
set_option maxHeartbeats 4000000 in
set_option maxRecDepth 100000 in
theorem c_X6_lift (X : bh_X) (this : Nat) (p1 : Int32) (σ : bh_S) : bh_MX eU X yX6_lift wsX6_lift 1 13 [.ref this, .int p1] σ (f_X6_lift this p1 σ) := by
  refine bh_enter (cc := cX6_lift) (NL := 3) (ret := none) (by decide) rfl (Nat.le_of_ble_eq_true rfl) (fun X => ?_)
  show bh_J eU yX6_lift cX6_lift wsX6_lift none 3 1 13 X σ 0 [(0, .ref this), (1, .int p1)] [] _
  unfold f_X6_lift
  refine bj_iload_n dX6_lift_0 rfl 1 rfl ?_
  refine bj_aload_nS dX6_lift_1 rfl 0 rfl ?_
  refine bj_getI (ci := 7) (k := 5) (C := RX6) (T := TX6) (N := 14) rfl hi_X6_lift_X6 (by decide) rfl fl_X6_lift_44 (Or.inl rfl) dX6_lift_2 (fun v1 h2 => ?_)
  refine bj_min (List.mem_of_getElem? (i := 2) rfl) (List.mem_of_getElem? (i := 3) rfl) (List.mem_of_getElem? (i := 4) rfl) (List.mem_of_getElem? (i := 5) rfl) (by decide) (Nat.le_of_ble_eq_true rfl) dX6_lift_5 ?_
  refine bj_istore_n (lv' := [(2, .int (bh_min p1 v1)), (0, .ref this), (1, .int p1)]) dX6_lift_8 rfl (by decide) rfl ?_
  refine bj_aload_nS dX6_lift_9 rfl 1 rfl ?_
  refine bj_dup dX6_lift_10 rfl ?_
  refine bj_getI (ci := 7) (k := 5) (C := RX6) (T := TX6) (N := 14) rfl hi_X6_lift_X6 (by decide) rfl fl_X6_lift_44 (Or.inl rfl) dX6_lift_11 (fun v3 h4 => ?_)
  refine bj_iload_n dX6_lift_14 rfl 0 rfl ?_
  refine bj_isub dX6_lift_15 ?_
  refine bj_putI (ci := 7) (k := 5) (C := RX6) (T := TX6) (N := 14) rfl hi_X6_lift_X6 (by decide) rfl fl_X6_lift_44 (Or.inl rfl) tyX6 tyX6_ok nmX6 rfl (Or.inl rfl) dX6_lift_16 (fun σ5 h6 => ?_)
  refine bj_aload_nS dX6_lift_19 rfl 1 rfl ?_
  refine bj_dup dX6_lift_20 rfl ?_
  refine bj_getI (ci := 7) (k := 6) (C := RX6) (T := TX6) (N := 14) rfl hi_X6_lift_X6 (by decide) rfl fl_X6_lift_9 (Or.inl rfl) dX6_lift_21 (fun v7 h8 => ?_)
  refine bj_iload_n dX6_lift_24 rfl 0 rfl ?_
  refine bj_iadd dX6_lift_25 ?_
  refine bj_putI (ci := 7) (k := 6) (C := RX6) (T := TX6) (N := 14) rfl hi_X6_lift_X6 (by decide) rfl fl_X6_lift_9 (Or.inl rfl) tyX6 tyX6_ok nmX6 rfl (Or.inl rfl) dX6_lift_26 (fun σ9 h10 => ?_)
  refine bj_aload_nS dX6_lift_29 rfl 1 rfl ?_
  refine bj_dup dX6_lift_30 rfl ?_
  refine bj_getI (ci := 7) (k := 7) (C := RX6) (T := TX6) (N := 14) rfl hi_X6_lift_X6 (by decide) rfl fl_X6_lift_15 (Or.inl rfl) dX6_lift_31 (fun v11 h12 => ?_)
  refine bj_iload_n dX6_lift_34 rfl 0 rfl ?_
  refine bj_aload_nS dX6_lift_35 rfl 1 rfl ?_
  refine bj_getI (ci := 7) (k := 2) (C := RX6) (T := TX6) (N := 14) rfl hi_X6_lift_X6 (by decide) rfl fl_X6_lift_47 (Or.inl rfl) dX6_lift_36 (fun v13 h14 => ?_)
  refine bj_imul dX6_lift_39 ?_
  refine bj_iadd dX6_lift_40 ?_
  refine bj_putI (ci := 7) (k := 7) (C := RX6) (T := TX6) (N := 14) rfl hi_X6_lift_X6 (by decide) rfl fl_X6_lift_15 (Or.inl rfl) tyX6 tyX6_ok nmX6 rfl (Or.inl rfl) dX6_lift_41 (fun σ15 h16 => ?_)
  exact bj_vret dX6_lift_44
/-! BeetHouse$Plot.freeze()Z -/
theorem hi_X6_freeze_X6 : ∀ w ∈ u_ws RX6 TX6 14, w ∈ wsX6_freeze := fun _ h => (List.mem_cons_of_mem _ (List.mem_append_right _ h))
set_option maxRecDepth 100000 in
theorem fl_X6_freeze_9 : bh_fl wsX6_freeze yX6_freeze.cls 9 "BeetHouse$Plot" "roots" "I" := Or.inl (List.mem_of_getElem? (i := 1) rfl)
set_option maxRecDepth 100000 in
theorem fl_X6_freeze_18 : bh_fl wsX6_freeze yX6_freeze.cls 18 "BeetHouse$Plot" "covered" "Z" := Or.inl (List.mem_of_getElem? (i := 2) rfl)
set_option maxRecDepth 100000 in
theorem fl_X6_freeze_22 : bh_fl wsX6_freeze yX6_freeze.cls 22 "BeetHouse$Plot" "frozen" "Z" := Or.inl (List.mem_of_getElem? (i := 3) rfl)
set_option maxRecDepth 100000 in
theorem fl_X6_freeze_25 : bh_fl wsX6_freeze yX6_freeze.cls 25 "BeetHouse$Plot" "thawedSince" "I" := Or.inl (List.mem_of_getElem? (i := 4) rfl)
def f_X6_freeze (this : Nat) (σ : bh_S) : Option (Int32 × bh_S) :=
  (bh_rdI σ 7 this 6).bind fun v1 =>
  if v1 = 0 then
    bh_retZ σ 0
  else
    (bh_rdI σ 7 this 8).bind fun v4 =>
    if v4 = 0 then
      (bh_wrZ σ 7 this 9 1).bind fun σ7 =>
      (bh_wrI σ7 7 this 10 (-9)).bind fun σ9 =>
      bh_retZ σ9 1
    else
      bh_retZ σ 0
set_option maxHeartbeats 4000000 in
set_option maxRecDepth 100000 in
theorem c_X6_freeze (X : bh_X) (this : Nat) (σ : bh_S) : bh_MX eI X yX6_freeze wsX6_freeze 0 0 [.ref this] σ (f_X6_freeze this σ) := by
  refine bh_enter (cc := cX6_freeze) (NL := 1) (ret := (some .boolean)) (by decide) rfl (Nat.le_of_ble_eq_true rfl) (fun X => ?_)
  show bh_J eI yX6_freeze cX6_freeze wsX6_freeze (some .boolean) 1 0 0 X σ 0 [(0, .ref this)] [] _
  unfold f_X6_freeze
  refine bj_aload_nS dX6_freeze_0 rfl 0 rfl ?_
  refine bj_getI (ci := 7) (k := 6) (C := RX6) (T := TX6) (N := 14) rfl hi_X6_freeze_X6 (by decide) rfl fl_X6_freeze_9 (Or.inl rfl) dX6_freeze_1 (fun v1 h2 => ?_)
  refine bj_if_eq (tgt := 14) dX6_freeze_4 (by decide) (fun h3 => ?_) (fun h3 => ?_)
  · refine bj_iconst (v := 0) dX6_freeze_14 (by decide) ?_
    exact bj_zret dX6_freeze_15
  · refine bj_aload_nS dX6_freeze_7 rfl 0 rfl ?_
    refine bj_getI (ci := 7) (k := 8) (C := RX6) (T := TX6) (N := 14) rfl hi_X6_freeze_X6 (by decide) rfl fl_X6_freeze_18 (Or.inl rfl) dX6_freeze_8 (fun v4 h5 => ?_)
    refine bj_if_eq (tgt := 16) dX6_freeze_11 (by decide) (fun h6 => ?_) (fun h6 => ?_)
    · refine bj_aload_nS dX6_freeze_16 rfl 0 rfl ?_
      refine bj_iconst (v := 1) dX6_freeze_17 (by decide) ?_
      refine bj_putZ (ci := 7) (k := 9) (C := RX6) (T := TX6) (N := 14) rfl hi_X6_freeze_X6 (by decide) rfl fl_X6_freeze_22 (Or.inl rfl) tyX6 tyX6_ok nmX6 rfl (Or.inl rfl) dX6_freeze_18 (fun σ7 h8 => ?_)
      refine bj_aload_nS dX6_freeze_21 rfl 0 rfl ?_
      refine bj_bipush (v := (-9)) dX6_freeze_22 (by decide) ?_
      refine bj_putI (ci := 7) (k := 10) (C := RX6) (T := TX6) (N := 14) rfl hi_X6_freeze_X6 (by decide) rfl fl_X6_freeze_25 (Or.inl rfl) tyX6 tyX6_ok nmX6 rfl (Or.inl rfl) dX6_freeze_24 (fun σ9 h10 => ?_)
      refine bj_iconst (v := 1) dX6_freeze_27 (by decide) ?_
      exact bj_zret dX6_freeze_28
    · refine bj_iconst (v := 0) dX6_freeze_14 (by decide) ?_
      exact bj_zret dX6_freeze_15
/-! BeetHouse$Plot.thaw(I)Z -/
theorem hi_X6_thaw_X6 : ∀ w ∈ u_ws RX6 TX6 14, w ∈ wsX6_thaw := fun _ h => (List.mem_cons_of_mem _ (List.mem_append_right _ h))
set_option maxRecDepth 100000 in
theorem fl_X6_thaw_22 : bh_fl wsX6_thaw yX6_thaw.cls 22 "BeetHouse$Plot" "frozen" "Z" := Or.inl (List.mem_of_getElem? (i := 1) rfl)
set_option maxRecDepth 100000 in
theorem fl_X6_thaw_9 : bh_fl wsX6_thaw yX6_thaw.cls 9 "BeetHouse$Plot" "roots" "I" := Or.inl (List.mem_of_getElem? (i := 2) rfl)
set_option maxRecDepth 100000 in
theorem fl_X6_thaw_25 : bh_fl wsX6_thaw yX6_thaw.cls 25 "BeetHouse$Plot" "thawedSince" "I" := Or.inl (List.mem_of_getElem? (i := 3) rfl)
def f_X6_thaw_b19 (this : Nat) (x1 : Int32) (t0 : Int32) (σ : bh_S) : Option (Int32 × bh_S) :=
  (bh_wrZ σ 7 this 9 0).bind fun σ1 =>
  if t0 = 0 then
    bh_retZ σ1 t0
  else
    (bh_wrI σ1 7 this 10 x1).bind fun σ4 =>
    bh_retZ σ4 t0
set_option maxHeartbeats 4000000 in
set_option maxRecDepth 100000 in
theorem j_X6_thaw_b19 (X : bh_X) (this : Nat) (x1 : Int32) (t0 : Int32) (σ : bh_S) : bh_J eI yX6_thaw cX6_thaw wsX6_thaw (some .boolean) 3 0 0 X σ 19 [(0, .ref this), (1, .int x1)] [.int t0] (f_X6_thaw_b19 this x1 t0 σ) := by
  unfold f_X6_thaw_b19
  refine bj_istore_n (lv' := [(2, .int t0), (0, .ref this), (1, .int x1)]) dX6_thaw_19 rfl (by decide) rfl ?_
  refine bj_aload_nS dX6_thaw_20 rfl 1 rfl ?_
  refine bj_iconst (v := 0) dX6_thaw_21 (by decide) ?_
  refine bj_putZ (ci := 7) (k := 9) (C := RX6) (T := TX6) (N := 14) rfl hi_X6_thaw_X6 (by decide) rfl fl_X6_thaw_22 (Or.inl rfl) tyX6 tyX6_ok nmX6 rfl (Or.inl rfl) dX6_thaw_22 (fun σ1 h2 => ?_)
  refine bj_iload_n dX6_thaw_25 rfl 0 rfl ?_
  refine bj_if_eq (tgt := 34) dX6_thaw_26 (by decide) (fun h3 => ?_) (fun h3 => ?_)
  · refine bj_iload_n dX6_thaw_34 rfl 0 rfl ?_
    exact bj_zret dX6_thaw_35
  · refine bj_aload_nS dX6_thaw_29 rfl 1 rfl ?_
    refine bj_iload_n dX6_thaw_30 rfl 2 rfl ?_
    refine bj_putI (ci := 7) (k := 10) (C := RX6) (T := TX6) (N := 14) rfl hi_X6_thaw_X6 (by decide) rfl fl_X6_thaw_25 (Or.inl rfl) tyX6 tyX6_ok nmX6 rfl (Or.inl rfl) dX6_thaw_31 (fun σ4 h5 => ?_)
    refine bj_iload_n dX6_thaw_34 rfl 0 rfl ?_
    exact bj_zret dX6_thaw_35
def f_X6_thaw_b18 (this : Nat) (x1 : Int32) (σ : bh_S) : Option (Int32 × bh_S) :=
  f_X6_thaw_b19 this x1 0 σ
set_option maxHeartbeats 4000000 in
set_option maxRecDepth 100000 in
theorem j_X6_thaw_b18 (X : bh_X) (this : Nat) (x1 : Int32) (σ : bh_S) : bh_J eI yX6_thaw cX6_thaw wsX6_thaw (some .boolean) 3 0 0 X σ 18 [(0, .ref this), (1, .int x1)] [] (f_X6_thaw_b18 this x1 σ) := by
  unfold f_X6_thaw_b18
  refine bj_iconst (v := 0) dX6_thaw_18 (by decide) ?_
  refine bj_sub (lv' := [(0, .ref this), (1, .int x1)]) [0, 1] rfl ?_
  exact j_X6_thaw_b19 X this x1 0 σ
def f_X6_thaw (this : Nat) (p1 : Int32) (σ : bh_S) : Option (Int32 × bh_S) :=
  (bh_rdI σ 7 this 9).bind fun v1 =>
  if v1 = 0 then
    f_X6_thaw_b18 this p1 σ
  else
    (bh_rdI σ 7 this 6).bind fun v4 =>
    if v4 ≤ 0 then
      f_X6_thaw_b18 this p1 σ
    else
      f_X6_thaw_b19 this p1 1 σ
set_option maxHeartbeats 4000000 in
set_option maxRecDepth 100000 in
theorem c_X6_thaw (X : bh_X) (this : Nat) (p1 : Int32) (σ : bh_S) : bh_MX eI X yX6_thaw wsX6_thaw 0 0 [.ref this, .int p1] σ (f_X6_thaw this p1 σ) := by
  refine bh_enter (cc := cX6_thaw) (NL := 3) (ret := (some .boolean)) (by decide) rfl (Nat.le_of_ble_eq_true rfl) (fun X => ?_)
  show bh_J eI yX6_thaw cX6_thaw wsX6_thaw (some .boolean) 3 0 0 X σ 0 [(0, .ref this), (1, .int p1)] [] _
  unfold f_X6_thaw
  refine bj_aload_nS dX6_thaw_0 rfl 0 rfl ?_
  refine bj_getI (ci := 7) (k := 9) (C := RX6) (T := TX6) (N := 14) rfl hi_X6_thaw_X6 (by decide) rfl fl_X6_thaw_22 (Or.inl rfl) dX6_thaw_1 (fun v1 h2 => ?_)
  refine bj_if_eq (tgt := 18) dX6_thaw_4 (by decide) (fun h3 => ?_) (fun h3 => ?_)
  · refine bj_sub (lv' := [(0, .ref this), (1, .int p1)]) [0, 1] rfl ?_
    exact j_X6_thaw_b18 X this p1 σ
  · refine bj_aload_nS dX6_thaw_7 rfl 0 rfl ?_
    refine bj_getI (ci := 7) (k := 6) (C := RX6) (T := TX6) (N := 14) rfl hi_X6_thaw_X6 (by decide) rfl fl_X6_thaw_9 (Or.inl rfl) dX6_thaw_8 (fun v4 h5 => ?_)
    refine bj_if_le (tgt := 18) dX6_thaw_11 (by decide) (fun h6 => ?_) (fun h6 => ?_)
    · refine bj_sub (lv' := [(0, .ref this), (1, .int p1)]) [0, 1] rfl ?_
      exact j_X6_thaw_b18 X this p1 σ
    · refine bj_iconst (v := 1) dX6_thaw_14 (by decide) ?_
      refine bj_goto (tgt := 19) dX6_thaw_15 (by decide) ?_
      refine bj_sub (lv' := [(0, .ref this), (1, .int p1)]) [0, 1] rfl ?_
      exact j_X6_thaw_b19 X this p1 1 σ
/-! BeetHouse$Plot.waste(I)V -/
theorem hi_X6_waste_X6 : ∀ w ∈ u_ws RX6 TX6 14, w ∈ wsX6_waste := fun _ h => (List.mem_cons_of_mem _ (List.mem_append_right _ h))
set_option maxRecDepth 100000 in
theorem fl_X6_waste_15 : bh_fl wsX6_waste yX6_waste.cls 15 "BeetHouse$Plot" "sugar" "I" := Or.inl (List.mem_of_getElem? (i := 1) rfl)
set_option maxRecDepth 100000 in
theorem g_X6_waste_X6_wasteOf_64 : GoodIn wsX6_waste (wsV yX6_waste.cls 64 RX6 yX6_wasteOf wsX6_wasteOf) := goodIn_r _ [3, 4, 5, 6, 7, 8, 9, 10, 11, 12, 13, 14, 15, 16, 17, 18, 19, 20, 21, 22, 23, 24, 25, 26, 27, 28, 29] rfl (by decide +kernel)
set_option maxRecDepth 100000 in
theorem fl_X6_waste_28 : bh_fl wsX6_waste yX6_waste.cls 28 "BeetHouse$Plot" "wasted" "I" := Or.inl (List.mem_of_getElem? (i := 2) rfl)
def f_X6_waste (this : Nat) (p1 : Int32) (σ : bh_S) : Option (Unit × bh_S) :=
  (bh_rdI σ 7 this 7).bind fun v1 =>
  (bh_ck σ this 7).bind fun _ =>
  bh_bnd (f_X6_wasteOf this v1 p1 σ) fun v4 σ5 =>
  (bh_rdI σ5 7 this 7).bind fun v7 =>
  (bh_wrI σ5 7 this 7 (v7 - v4)).bind fun σ9 =>
  (bh_rdI σ9 7 this 11).bind fun v11 =>
  (bh_wrI σ9 7 this 11 (v11 + v4)).bind fun σ13 =>
  some ((), σ13)
set_option maxHeartbeats 4000000 in
set_option maxRecDepth 100000 in
theorem c_X6_waste (X : bh_X) (this : Nat) (p1 : Int32) (σ : bh_S) : bh_MX eU X yX6_waste wsX6_waste 2 36 [.ref this, .int p1] σ (f_X6_waste this p1 σ) := by
  refine bh_enter (cc := cX6_waste) (NL := 3) (ret := none) (by decide) rfl (Nat.le_of_ble_eq_true rfl) (fun X => ?_)
  show bh_J eU yX6_waste cX6_waste wsX6_waste none 3 2 36 X σ 0 [(0, .ref this), (1, .int p1)] [] _
  unfold f_X6_waste
  refine bj_aload_nS dX6_waste_0 rfl 0 rfl ?_
  refine bj_aload_nS dX6_waste_1 rfl 0 rfl ?_
  refine bj_getI (ci := 7) (k := 7) (C := RX6) (T := TX6) (N := 14) rfl hi_X6_waste_X6 (by decide) rfl fl_X6_waste_15 (Or.inl rfl) dX6_waste_2 (fun v1 h2 => ?_)
  refine bj_iload_n dX6_waste_5 rfl 1 rfl ?_
  refine bj_op (fun _ h3 => ?_)
  refine bj_callI (br_V (As := [.int v1, .int p1]) (rest := []) (q := (RX6, TX6, 14)) (c_X6_wasteOf X this v1 p1 σ) rfl g_X6_waste_X6_wasteOf_64 rfl (bh_ck_spec h3) ⟨rfl, hd_X6_wasteOf⟩ rfl ⟨by decide, by decide⟩ rfl (Nat.le_of_ble_eq_true rfl) dX6_waste_6) (fun v4 σ5 h6 => ?_)
  refine bj_istore_n (lv' := [(2, .int v4), (0, .ref this), (1, .int p1)]) dX6_waste_9 rfl (by decide) rfl ?_
  refine bj_aload_nS dX6_waste_10 rfl 1 rfl ?_
  refine bj_dup dX6_waste_11 rfl ?_
  refine bj_getI (ci := 7) (k := 7) (C := RX6) (T := TX6) (N := 14) rfl hi_X6_waste_X6 (by decide) rfl fl_X6_waste_15 (Or.inl rfl) dX6_waste_12 (fun v7 h8 => ?_)
  refine bj_iload_n dX6_waste_15 rfl 0 rfl ?_
  refine bj_isub dX6_waste_16 ?_
  refine bj_putI (ci := 7) (k := 7) (C := RX6) (T := TX6) (N := 14) rfl hi_X6_waste_X6 (by decide) rfl fl_X6_waste_15 (Or.inl rfl) tyX6 tyX6_ok nmX6 rfl (Or.inl rfl) dX6_waste_17 (fun σ9 h10 => ?_)
  refine bj_aload_nS dX6_waste_20 rfl 1 rfl ?_
  refine bj_dup dX6_waste_21 rfl ?_
  refine bj_getI (ci := 7) (k := 11) (C := RX6) (T := TX6) (N := 14) rfl hi_X6_waste_X6 (by decide) rfl fl_X6_waste_28 (Or.inl rfl) dX6_waste_22 (fun v11 h12 => ?_)
  refine bj_iload_n dX6_waste_25 rfl 0 rfl ?_
  refine bj_iadd dX6_waste_26 ?_
  refine bj_putI (ci := 7) (k := 11) (C := RX6) (T := TX6) (N := 14) rfl hi_X6_waste_X6 (by decide) rfl fl_X6_waste_28 (Or.inl rfl) tyX6 tyX6_ok nmX6 rfl (Or.inl rfl) dX6_waste_27 (fun σ13 h14 => ?_)
  exact bj_vret dX6_waste_30
/-! BeetHouse$Plot.spoil(I)V -/
theorem hi_X6_spoil_X6 : ∀ w ∈ u_ws RX6 TX6 14, w ∈ wsX6_spoil := fun _ h => (List.mem_cons_of_mem _ (List.mem_append_right _ h))
set_option maxRecDepth 100000 in
theorem fl_X6_spoil_25 : bh_fl wsX6_spoil yX6_spoil.cls 25 "BeetHouse$Plot" "thawedSince" "I" := Or.inl (List.mem_of_getElem? (i := 1) rfl)
set_option maxRecDepth 100000 in
theorem fl_X6_spoil_31 : bh_fl wsX6_spoil yX6_spoil.cls 31 "BeetHouse$Plot" "spoiled" "I" := Or.inl (List.mem_of_getElem? (i := 2) rfl)
set_option maxRecDepth 100000 in
theorem fl_X6_spoil_9 : bh_fl wsX6_spoil yX6_spoil.cls 9 "BeetHouse$Plot" "roots" "I" := Or.inl (List.mem_of_getElem? (i := 3) rfl)
set_option maxRecDepth 100000 in
theorem fl_X6_spoil_15 : bh_fl wsX6_spoil yX6_spoil.cls 15 "BeetHouse$Plot" "sugar" "I" := Or.inl (List.mem_of_getElem? (i := 4) rfl)
set_option maxRecDepth 100000 in
theorem g_X6_spoil_X6_lose_67 : GoodIn wsX6_spoil (wsV yX6_spoil.cls 67 RX6 yX6_lose wsX6_lose) := goodIn_r _ [6, 7, 8, 9, 10, 3, 4, 1, 11, 12, 13, 14, 15, 16, 17, 18, 19, 20, 21, 22, 23, 24] rfl (by decide +kernel)
set_option maxRecDepth 100000 in
theorem fl_X6_spoil_18 : bh_fl wsX6_spoil yX6_spoil.cls 18 "BeetHouse$Plot" "covered" "Z" := Or.inl (List.mem_of_getElem? (i := 5) rfl)
def f_X6_spoil (this : Nat) (p1 : Int32) (σ : bh_S) : Option (Unit × bh_S) :=
  (bh_rdI σ 7 this 10).bind fun v1 =>
  if v1 = (-9) then
    some ((), σ)
  else
    (bh_rdI σ 7 this 10).bind fun v4 =>
    if 72 ≤ (p1 - v4) then
      (bh_rdI σ 7 this 12).bind fun v7 =>
      (bh_rdI σ 7 this 6).bind fun v9 =>
      (bh_wrI σ 7 this 12 (v7 + v9)).bind fun σ11 =>
      (bh_rdI σ11 7 this 6).bind fun v13 =>
      (bh_rdI σ11 7 this 7).bind fun v15 =>
      (bh_ck σ11 this 7).bind fun _ =>
      bh_bnd (f_X6_lose this v13 v15 σ11) fun v18 σ19 =>
      (bh_wrZ σ19 7 this 8 0).bind fun σ21 =>
      some ((), σ21)
    else
      some ((), σ)
set_option maxHeartbeats 4000000 in
set_option maxRecDepth 100000 in
theorem c_X6_spoil (X : bh_X) (this : Nat) (p1 : Int32) (σ : bh_S) : bh_MX eU X yX6_spoil wsX6_spoil 1 22 [.ref this, .int p1] σ (f_X6_spoil this p1 σ) := by
  refine bh_enter (cc := cX6_spoil) (NL := 2) (ret := none) (by decide) rfl (Nat.le_of_ble_eq_true rfl) (fun X => ?_)
  show bh_J eU yX6_spoil cX6_spoil wsX6_spoil none 2 1 22 X σ 0 [(0, .ref this), (1, .int p1)] [] _
  unfold f_X6_spoil
  refine bj_aload_nS dX6_spoil_0 rfl 0 rfl ?_
  refine bj_getI (ci := 7) (k := 10) (C := RX6) (T := TX6) (N := 14) rfl hi_X6_spoil_X6 (by decide) rfl fl_X6_spoil_25 (Or.inl rfl) dX6_spoil_1 (fun v1 h2 => ?_)
  refine bj_bipush (v := (-9)) dX6_spoil_4 (by decide) ?_
  refine bj_icmp_eq (tgt := 20) dX6_spoil_6 (by decide) (fun h3 => ?_) (fun h3 => ?_)
  · exact bj_vret dX6_spoil_20
  · refine bj_iload_n dX6_spoil_9 rfl 1 rfl ?_
    refine bj_aload_nS dX6_spoil_10 rfl 0 rfl ?_
    refine bj_getI (ci := 7) (k := 10) (C := RX6) (T := TX6) (N := 14) rfl hi_X6_spoil_X6 (by decide) rfl fl_X6_spoil_25 (Or.inl rfl) dX6_spoil_11 (fun v4 h5 => ?_)
    refine bj_isub dX6_spoil_14 ?_
    refine bj_bipush (v := 72) dX6_spoil_15 (by decide) ?_
    refine bj_icmp_ge (tgt := 21) dX6_spoil_17 (by decide) (fun h6 => ?_) (fun h6 => ?_)
    · refine bj_aload_nS dX6_spoil_21 rfl 0 rfl ?_
      refine bj_dup dX6_spoil_22 rfl ?_
      refine bj_getI (ci := 7) (k := 12) (C := RX6) (T := TX6) (N := 14) rfl hi_X6_spoil_X6 (by decide) rfl fl_X6_spoil_31 (Or.inl rfl) dX6_spoil_23 (fun v7 h8 => ?_)
      refine bj_aload_nS dX6_spoil_26 rfl 0 rfl ?_
      refine bj_getI (ci := 7) (k := 6) (C := RX6) (T := TX6) (N := 14) rfl hi_X6_spoil_X6 (by decide) rfl fl_X6_spoil_9 (Or.inl rfl) dX6_spoil_27 (fun v9 h10 => ?_)
      refine bj_iadd dX6_spoil_30 ?_
      refine bj_putI (ci := 7) (k := 12) (C := RX6) (T := TX6) (N := 14) rfl hi_X6_spoil_X6 (by decide) rfl fl_X6_spoil_31 (Or.inl rfl) tyX6 tyX6_ok nmX6 rfl (Or.inl rfl) dX6_spoil_31 (fun σ11 h12 => ?_)
      refine bj_aload_nS dX6_spoil_34 rfl 0 rfl ?_
      refine bj_aload_nS dX6_spoil_35 rfl 0 rfl ?_
      refine bj_getI (ci := 7) (k := 6) (C := RX6) (T := TX6) (N := 14) rfl hi_X6_spoil_X6 (by decide) rfl fl_X6_spoil_9 (Or.inl rfl) dX6_spoil_36 (fun v13 h14 => ?_)
      refine bj_aload_nS dX6_spoil_39 rfl 0 rfl ?_
      refine bj_getI (ci := 7) (k := 7) (C := RX6) (T := TX6) (N := 14) rfl hi_X6_spoil_X6 (by decide) rfl fl_X6_spoil_15 (Or.inl rfl) dX6_spoil_40 (fun v15 h16 => ?_)
      refine bj_op (fun _ h17 => ?_)
      refine bj_callU (br_V (As := [.int v13, .int v15]) (rest := []) (q := (RX6, TX6, 14)) (c_X6_lose X this v13 v15 σ11) rfl g_X6_spoil_X6_lose_67 rfl (bh_ck_spec h17) ⟨rfl, hd_X6_lose⟩ rfl ⟨by decide, by decide⟩ rfl (Nat.le_of_ble_eq_true rfl) dX6_spoil_43) (fun v18 σ19 h20 => ?_)
      refine bj_aload_nS dX6_spoil_46 rfl 0 rfl ?_
      refine bj_iconst (v := 0) dX6_spoil_47 (by decide) ?_
      refine bj_putZ (ci := 7) (k := 8) (C := RX6) (T := TX6) (N := 14) rfl hi_X6_spoil_X6 (by decide) rfl fl_X6_spoil_18 (Or.inl rfl) tyX6 tyX6_ok nmX6 rfl (Or.inl rfl) dX6_spoil_48 (fun σ21 h22 => ?_)
      exact bj_vret dX6_spoil_51
    · exact bj_vret dX6_spoil_20
/-! BeetHouse$Weather.<init>()V -/
theorem hi_X7_init_X7 : ∀ w ∈ u_ws RX7 TX7 2, w ∈ wsX7_init := fun _ h => (List.mem_cons_of_mem _ (List.mem_append_right _ h))
set_option maxRecDepth 100000 in
theorem fl_X7_init_9 : bh_fl wsX7_init yX7_init.cls 9 "BeetHouse$Weather" "warmths" "[I" := Or.inl (List.mem_of_getElem? (i := 5) rfl)
set_option maxRecDepth 100000 in
theorem fl_X7_init_15 : bh_fl wsX7_init yX7_init.cls 15 "BeetHouse$Weather" "numbers" "[I" := Or.inl (List.mem_of_getElem? (i := 6) rfl)
def f_X7_init_b22 (N : Nat) : Nat → Nat → Int32 → bh_S → Option (Unit × bh_S)
  | 0, _, _, _ => none
  | n + 1, this, x1, σ =>
    if 100 ≤ x1 then
      some ((), σ)
    else
      (bh_rdR σ 8 this 0).bind fun v2 =>
      (v2).bind fun a4 =>
      (bh_stI σ 12 a4 x1 5).bind fun σ6 =>
      f_X7_init_b22 N n this (x1 + 1) σ6
set_option maxHeartbeats 4000000 in
set_option maxRecDepth 100000 in
theorem j_X7_init_b22 (X : bh_X) (N : Nat) : ∀ (n : Nat) (this : Nat) (x1 : Int32) (σ : bh_S), bh_J eU yX7_init cX7_init wsX7_init none 2 1 12 X σ 22 [(0, .ref this), (1, .int x1)] [] (f_X7_init_b22 N n this x1 σ) := by
  intro n
  induction n with
  | zero => intro this x1 σ; exact bj_none
  | succ n ih =>
    intro this x1 σ
    unfold f_X7_init_b22
    refine bj_iload_n dX7_init_22 rfl 1 rfl ?_
    refine bj_bipush (v := 100) dX7_init_23 (by decide) ?_
    refine bj_icmp_ge (tgt := 41) dX7_init_25 (by decide) (fun h1 => ?_) (fun h1 => ?_)
    · exact bj_vret dX7_init_41
    · refine bj_aload_nS dX7_init_28 rfl 0 rfl ?_
      refine bj_getR (ci := 8) (k := 0) (C := RX7) (T := TX7) (N := 2) rfl hi_X7_init_X7 (by decide) rfl fl_X7_init_9 (Or.inl rfl) dX7_init_29 (fun v2 h3 => ?_)
      refine bj_iload_n dX7_init_32 rfl 1 rfl ?_
      refine bj_iconst (v := 5) dX7_init_33 (by decide) ?_
      refine bj_nn (fun a4 h5 => ?_)
      subst h5
      refine bj_iast dX7_init_34 (fun σ6 h7 => ?_)
      refine bj_iinc (v := x1 + 1) (lv' := [(1, .int (x1 + 1)), (0, .ref this)]) dX7_init_35 1 rfl rfl (by decide) rfl ?_
      refine bj_goto (tgt := 22) dX7_init_38 (by decide) ?_
      refine bj_sub (lv' := [(0, .ref this), (1, .int (x1 + 1))]) [1, 0] rfl ?_
      exact ih this (x1 + 1) σ6
def f_X7_init (N : Nat) (this : Nat) (σ : bh_S) : Option (Unit × bh_S) :=
  bh_bnd (bh_newA σ 12 100) fun a1 σ2 =>
  (bh_wrR σ2 8 this 0 (some a1)).bind fun σ4 =>
  bh_bnd (bh_newA σ4 12 10) fun a6 σ7 =>
  (bh_wrR σ7 8 this 1 (some a6)).bind fun σ9 =>
  f_X7_init_b22 N N this 0 σ9
set_option maxHeartbeats 4000000 in
set_option maxRecDepth 100000 in
theorem c_X7_init (X : bh_X) (N : Nat) (this : Nat) (σ : bh_S) : bh_MX eU X yX7_init wsX7_init 1 12 [.ref this] σ (f_X7_init N this σ) := by
  refine bh_enter (cc := cX7_init) (NL := 2) (ret := none) (by decide) rfl (Nat.le_of_ble_eq_true rfl) (fun X => ?_)
  show bh_J eU yX7_init cX7_init wsX7_init none 2 1 12 X σ 0 [(0, .ref this)] [] _
  unfold f_X7_init
  refine bj_aload_nS dX7_init_0 rfl 0 rfl ?_
  refine bj_objInit (List.mem_of_getElem? (i := 1) rfl) (List.mem_of_getElem? (i := 2) rfl) (List.mem_of_getElem? (i := 3) rfl) (by decide) (Nat.le_of_ble_eq_true rfl) dX7_init_1 ?_
  refine bj_aload_nS dX7_init_4 rfl 0 rfl ?_
  refine bj_bipush (v := 100) dX7_init_5 (by decide) ?_
  refine bj_newi (List.mem_of_getElem? (i := 4) rfl) dX7_init_7 (fun a1 σ2 h3 => ?_)
  refine bj_putR (ci := 8) (k := 0) (C := RX7) (T := TX7) (N := 2) (v := (some a1)) rfl hi_X7_init_X7 (by decide) rfl fl_X7_init_9 (Or.inl rfl) tyX7 tyX7_ok nmX7 (Or.inr ⟨_, rfl⟩) (Or.inr ⟨rfl, rfl, rfl, List.mem_of_getElem? (i := 5) rfl⟩) dX7_init_9 (fun σ4 h5 => ?_)
  refine bj_aload_nS dX7_init_12 rfl 0 rfl ?_
  refine bj_bipush (v := 10) dX7_init_13 (by decide) ?_
  refine bj_newi (List.mem_of_getElem? (i := 4) rfl) dX7_init_15 (fun a6 σ7 h8 => ?_)
  refine bj_putR (ci := 8) (k := 1) (C := RX7) (T := TX7) (N := 2) (v := (some a6)) rfl hi_X7_init_X7 (by decide) rfl fl_X7_init_15 (Or.inl rfl) tyX7 tyX7_ok nmX7 (Or.inr ⟨_, rfl⟩) (Or.inr ⟨rfl, rfl, rfl, List.mem_of_getElem? (i := 6) rfl⟩) dX7_init_17 (fun σ9 h10 => ?_)
  refine bj_iconst (v := 0) dX7_init_20 (by decide) ?_
  refine bj_istore_n (lv' := [(1, .int 0), (0, .ref this)]) dX7_init_21 rfl (by decide) rfl ?_
  refine bj_sub (lv' := [(0, .ref this), (1, .int 0)]) [1, 0] rfl ?_
  exact j_X7_init_b22 X N N this 0 σ9
/-! BeetHouse$Yard.<init>()V -/
theorem hi_X8_init_Jx4a65c : ∀ w ∈ u_ws RJx4a65c TJx4a65c 3, w ∈ wsX8_init := fun _ h => (List.mem_cons_of_mem _ (List.mem_append_left _ (List.mem_append_right _ h)))
set_option maxRecDepth 100000 in
theorem g_X8_init_Jx4a65c_init_da8c8 : GoodIn wsX8_init wsJx4a65c_init_da8c8 := goodIn_r _ [13, 14, 15, 16, 17, 18, 19, 20, 21, 22, 23, 24, 25, 2, 3, 26, 27, 28] rfl (by decide +kernel)
theorem hi_X8_init_X8 : ∀ w ∈ u_ws RX8 TX8 4, w ∈ wsX8_init := fun _ h => (List.mem_cons_of_mem _ (List.mem_append_right _ h))
set_option maxRecDepth 100000 in
theorem fl_X8_init_10 : bh_fl wsX8_init yX8_init.cls 10 "BeetHouse$Yard" "loads" "Ljava/util/ArrayList;" := Or.inl (List.mem_of_getElem? (i := 7) rfl)
set_option maxRecDepth 100000 in
theorem fl_X8_init_16 : bh_fl wsX8_init yX8_init.cls 16 "BeetHouse$Yard" "room" "I" := Or.inl (List.mem_of_getElem? (i := 8) rfl)
set_option maxRecDepth 100000 in
theorem fl_X8_init_20 : bh_fl wsX8_init yX8_init.cls 20 "BeetHouse$Yard" "roots" "I" := Or.inl (List.mem_of_getElem? (i := 9) rfl)
set_option maxRecDepth 100000 in
theorem fl_X8_init_23 : bh_fl wsX8_init yX8_init.cls 23 "BeetHouse$Yard" "came" "I" := Or.inl (List.mem_of_getElem? (i := 10) rfl)
def f_X8_init (this : Nat) (σ : bh_S) : Option (Unit × bh_S) :=
  bh_bnd (bh_newO σ 0 3) fun a1 σ2 =>
  bh_bnd (f_Jx4a65c_init_da8c8 a1 σ2) fun v4 σ5 =>
  (bh_wrR σ5 9 this 0 (some a1)).bind fun σ7 =>
  (bh_wrI σ7 9 this 1 500).bind fun σ9 =>
  (bh_wrI σ9 9 this 2 0).bind fun σ11 =>
  (bh_wrI σ11 9 this 3 0).bind fun σ13 =>
  some ((), σ13)
set_option maxHeartbeats 4000000 in
set_option maxRecDepth 100000 in
theorem c_X8_init (X : bh_X) (this : Nat) (σ : bh_S) : bh_MX eU X yX8_init wsX8_init 4 72 [.ref this] σ (f_X8_init this σ) := by
  refine bh_enter (cc := cX8_init) (NL := 1) (ret := none) (by decide) rfl (Nat.le_of_ble_eq_true rfl) (fun X => ?_)
  show bh_J eU yX8_init cX8_init wsX8_init none 1 4 72 X σ 0 [(0, .ref this)] [] _
  unfold f_X8_init
  refine bj_aload_nS dX8_init_0 rfl 0 rfl ?_
  refine bj_objInit (List.mem_of_getElem? (i := 1) rfl) (List.mem_of_getElem? (i := 2) rfl) (List.mem_of_getElem? (i := 3) rfl) (by decide) (Nat.le_of_ble_eq_true rfl) dX8_init_1 ?_
  refine bj_aload_nS dX8_init_4 rfl 0 rfl ?_
  refine bj_new (ci := 0) (C := RJx4a65c) (T := TJx4a65c) (N := 3) rfl hi_X8_init_Jx4a65c tyJx4a65c tyJx4a65c_ok df_Jx4a65c (List.mem_of_getElem? (i := 4) rfl) (List.mem_of_getElem? (i := 5) rfl) (List.mem_of_getElem? (i := 6) rfl) dX8_init_5 (fun a1 σ2 h3 => ?_)
  refine bj_dup dX8_init_8 rfl ?_
  refine bj_callU (br_I (As := []) (rest := [.ref a1, .ref this]) (c_Jx4a65c_init_da8c8 X a1 σ2) rfl g_X8_init_Jx4a65c_init_da8c8 (List.mem_of_getElem? (i := 6) rfl) (List.mem_of_getElem? (i := 11) rfl) (List.mem_of_getElem? (i := 12) rfl) rfl hd_Jx4a65c_init_da8c8 rfl ⟨by decide, by decide⟩ rfl (Nat.le_of_ble_eq_true rfl) dX8_init_9) (fun v4 σ5 h6 => ?_)
  refine bj_putR (ci := 9) (k := 0) (C := RX8) (T := TX8) (N := 4) (v := (some a1)) rfl hi_X8_init_X8 (by decide) rfl fl_X8_init_10 (Or.inl rfl) tyX8 tyX8_ok nmX8 (Or.inl ⟨_, rfl⟩) (Or.inr ⟨rfl, rfl, rfl, List.mem_of_getElem? (i := 7) rfl⟩) dX8_init_12 (fun σ7 h8 => ?_)
  refine bj_aload_nS dX8_init_15 rfl 0 rfl ?_
  refine bj_sipush (v := 500) dX8_init_16 (by decide) ?_
  refine bj_putI (ci := 9) (k := 1) (C := RX8) (T := TX8) (N := 4) rfl hi_X8_init_X8 (by decide) rfl fl_X8_init_16 (Or.inl rfl) tyX8 tyX8_ok nmX8 rfl (Or.inl rfl) dX8_init_19 (fun σ9 h10 => ?_)
  refine bj_aload_nS dX8_init_22 rfl 0 rfl ?_
  refine bj_iconst (v := 0) dX8_init_23 (by decide) ?_
  refine bj_putI (ci := 9) (k := 2) (C := RX8) (T := TX8) (N := 4) rfl hi_X8_init_X8 (by decide) rfl fl_X8_init_20 (Or.inl rfl) tyX8 tyX8_ok nmX8 rfl (Or.inl rfl) dX8_init_24 (fun σ11 h12 => ?_)
  refine bj_aload_nS dX8_init_27 rfl 0 rfl ?_
  refine bj_iconst (v := 0) dX8_init_28 (by decide) ?_
  refine bj_putI (ci := 9) (k := 3) (C := RX8) (T := TX8) (N := 4) rfl hi_X8_init_X8 (by decide) rfl fl_X8_init_23 (Or.inl rfl) tyX8 tyX8_ok nmX8 rfl (Or.inl rfl) dX8_init_29 (fun σ13 h14 => ?_)
  exact bj_vret dX8_init_32
/-! BeetHouse$Yard.hasRoomFor(I)Z -/
theorem hi_X8_hasRoomFor_X8 : ∀ w ∈ u_ws RX8 TX8 4, w ∈ wsX8_hasRoomFor := fun _ h => (List.mem_cons_of_mem _ (List.mem_append_right _ h))
set_option maxRecDepth 100000 in
theorem fl_X8_hasRoomFor_20 : bh_fl wsX8_hasRoomFor yX8_hasRoomFor.cls 20 "BeetHouse$Yard" "roots" "I" := Or.inl (List.mem_of_getElem? (i := 1) rfl)
set_option maxRecDepth 100000 in
theorem fl_X8_hasRoomFor_16 : bh_fl wsX8_hasRoomFor yX8_hasRoomFor.cls 16 "BeetHouse$Yard" "room" "I" := Or.inl (List.mem_of_getElem? (i := 2) rfl)
def f_X8_hasRoomFor (this : Nat) (p1 : Int32) (σ : bh_S) : Option (Int32 × bh_S) :=
  if p1 = 0 then
    bh_retZ σ 1
  else
    (bh_rdI σ 9 this 2).bind fun v2 =>
    (bh_rdI σ 9 this 1).bind fun v4 =>
    if v4 < (v2 + p1) then
      bh_retZ σ 0
    else
      bh_retZ σ 1
set_option maxHeartbeats 4000000 in
set_option maxRecDepth 100000 in
theorem c_X8_hasRoomFor (X : bh_X) (this : Nat) (p1 : Int32) (σ : bh_S) : bh_MX eI X yX8_hasRoomFor wsX8_hasRoomFor 0 0 [.ref this, .int p1] σ (f_X8_hasRoomFor this p1 σ) := by
  refine bh_enter (cc := cX8_hasRoomFor) (NL := 2) (ret := (some .boolean)) (by decide) rfl (Nat.le_of_ble_eq_true rfl) (fun X => ?_)
  show bh_J eI yX8_hasRoomFor cX8_hasRoomFor wsX8_hasRoomFor (some .boolean) 2 0 0 X σ 0 [(0, .ref this), (1, .int p1)] [] _
  unfold f_X8_hasRoomFor
  refine bj_iload_n dX8_hasRoomFor_0 rfl 1 rfl ?_
  refine bj_if_eq (tgt := 17) dX8_hasRoomFor_1 (by decide) (fun h1 => ?_) (fun h1 => ?_)
  · refine bj_iconst (v := 1) dX8_hasRoomFor_17 (by decide) ?_
    refine bj_goto (tgt := 22) dX8_hasRoomFor_18 (by decide) ?_
    exact bj_zret dX8_hasRoomFor_22
  · refine bj_aload_nS dX8_hasRoomFor_4 rfl 0 rfl ?_
    refine bj_getI (ci := 9) (k := 2) (C := RX8) (T := TX8) (N := 4) rfl hi_X8_hasRoomFor_X8 (by decide) rfl fl_X8_hasRoomFor_20 (Or.inl rfl) dX8_hasRoomFor_5 (fun v2 h3 => ?_)
    refine bj_iload_n dX8_hasRoomFor_8 rfl 1 rfl ?_
    refine bj_iadd dX8_hasRoomFor_9 ?_
    refine bj_aload_nS dX8_hasRoomFor_10 rfl 0 rfl ?_
    refine bj_getI (ci := 9) (k := 1) (C := RX8) (T := TX8) (N := 4) rfl hi_X8_hasRoomFor_X8 (by decide) rfl fl_X8_hasRoomFor_16 (Or.inl rfl) dX8_hasRoomFor_11 (fun v4 h5 => ?_)
    refine bj_icmp_gt (tgt := 21) dX8_hasRoomFor_14 (by decide) (fun h6 => ?_) (fun h6 => ?_)
    · refine bj_iconst (v := 0) dX8_hasRoomFor_21 (by decide) ?_
      exact bj_zret dX8_hasRoomFor_22
    · refine bj_iconst (v := 1) dX8_hasRoomFor_17 (by decide) ?_
      refine bj_goto (tgt := 22) dX8_hasRoomFor_18 (by decide) ?_
      exact bj_zret dX8_hasRoomFor_22
/-! BeetHouse$Yard.take(LBeetHouse$Load;)V -/
theorem hi_X8_take_X8 : ∀ w ∈ u_ws RX8 TX8 4, w ∈ wsX8_take := fun _ h => (List.mem_cons_of_mem _ (List.mem_append_left _ (List.mem_append_left _ (List.mem_append_left _ (List.mem_append_left _ (List.mem_append_right _ h))))))
set_option maxRecDepth 100000 in
theorem fl_X8_take_10 : bh_fl wsX8_take yX8_take.cls 10 "BeetHouse$Yard" "loads" "Ljava/util/ArrayList;" := Or.inl (List.mem_of_getElem? (i := 1) rfl)
set_option maxRecDepth 100000 in
theorem g_X8_take_Jx4a65c_add_9ea2d_26 : GoodIn wsX8_take (wsV yX8_take.cls 26 RJx4a65c yJx4a65c_add_9ea2d wsJx4a65c_add_9ea2d) := goodIn_r _ [4, 5, 6, 7, 8, 9, 10, 11, 12, 13, 14, 15, 7, 16, 17, 18, 19, 20, 21, 22, 23, 24, 25, 26, 27, 28, 29, 30, 31, 32, 33, 34, 35, 36, 37, 38, 39, 40, 41, 42, 43, 44, 45, 46, 47, 48, 49, 50, 51, 52, 53, 54, 55, 56, 57, 58, 59, 85, 86, 87] rfl (by decide +kernel)
set_option maxRecDepth 100000 in
theorem fl_X8_take_20 : bh_fl wsX8_take yX8_take.cls 20 "BeetHouse$Yard" "roots" "I" := Or.inl (List.mem_of_getElem? (i := 2) rfl)
theorem hi_X8_take_X2 : ∀ w ∈ u_ws RX2 TX2 3, w ∈ wsX8_take := fun _ h => (List.mem_cons_of_mem _ (List.mem_append_left _ (List.mem_append_left _ (List.mem_append_left _ (List.mem_append_right _ h)))))
set_option maxRecDepth 100000 in
theorem fl_X8_take_30 : bh_fl wsX8_take yX8_take.cls 30 "BeetHouse$Load" "roots" "I" := Or.inr ⟨"BeetHouse", List.mem_of_getElem? (i := 49) rfl⟩
set_option maxRecDepth 100000 in
theorem fl_X8_take_23 : bh_fl wsX8_take yX8_take.cls 23 "BeetHouse$Yard" "came" "I" := Or.inl (List.mem_of_getElem? (i := 3) rfl)
set_option maxRecDepth 100000 in
theorem fl_X8_take_33 : bh_fl wsX8_take yX8_take.cls 33 "BeetHouse$Load" "plot" "LBeetHouse$Plot;" := Or.inr ⟨"BeetHouse", List.mem_of_getElem? (i := 46) rfl⟩
theorem hi_X8_take_X6 : ∀ w ∈ u_ws RX6 TX6 14, w ∈ wsX8_take := fun _ h => (List.mem_cons_of_mem _ (List.mem_append_left _ (List.mem_append_left _ (List.mem_append_right _ h))))
set_option maxRecDepth 100000 in
theorem fl_X8_take_37 : bh_fl wsX8_take yX8_take.cls 37 "BeetHouse$Plot" "came" "I" := Or.inr ⟨"BeetHouse", List.mem_of_getElem? (i := 35) rfl⟩
set_option maxRecDepth 100000 in
theorem fl_X8_take_40 : bh_fl wsX8_take yX8_take.cls 40 "BeetHouse$Plot" "farmer" "LBeetHouse$Farmer;" := Or.inr ⟨"BeetHouse", List.mem_of_getElem? (i := 21) rfl⟩
theorem hi_X8_take_X0 : ∀ w ∈ u_ws RX0 TX0 4, w ∈ wsX8_take := fun _ h => (List.mem_cons_of_mem _ (List.mem_append_left _ (List.mem_append_right _ h)))
set_option maxRecDepth 100000 in
theorem fl_X8_take_44 : bh_fl wsX8_take yX8_take.cls 44 "BeetHouse$Farmer" "came" "I" := Or.inr ⟨"BeetHouse", List.mem_of_getElem? (i := 16) rfl⟩
def f_X8_take (this : Nat) (p1 : Nat) (σ : bh_S) : Option (Unit × bh_S) :=
  (bh_rdR σ 9 this 0).bind fun v1 =>
  (v1).bind fun a3 =>
  (bh_ck σ a3 0).bind fun _ =>
  bh_bnd (f_Jx4a65c_add_9ea2d a3 p1 σ) fun v6 σ7 =>
  (bh_rdI σ7 9 this 2).bind fun v9 =>
  (bh_rdI σ7 3 p1 1).bind fun v11 =>
  (bh_wrI σ7 9 this 2 (v9 + v11)).bind fun σ13 =>
  (bh_rdI σ13 9 this 3).bind fun v15 =>
  (bh_rdI σ13 3 p1 1).bind fun v17 =>
  (bh_wrI σ13 9 this 3 (v15 + v17)).bind fun σ19 =>
  (bh_rdR σ19 3 p1 0).bind fun v21 =>
  (v21).bind fun a23 =>
  (bh_rdI σ19 7 a23 13).bind fun v25 =>
  (bh_rdI σ19 3 p1 1).bind fun v27 =>
  (bh_wrI σ19 7 a23 13 (v25 + v27)).bind fun σ29 =>
  (bh_rdR σ29 3 p1 0).bind fun v31 =>
  (v31).bind fun a33 =>
  (bh_rdR σ29 7 a33 1).bind fun v35 =>
  (v35).bind fun a37 =>
  (bh_rdI σ29 1 a37 3).bind fun v39 =>
  (bh_rdI σ29 3 p1 1).bind fun v41 =>
  (bh_wrI σ29 1 a37 3 (v39 + v41)).bind fun σ43 =>
  some ((), σ43)
set_option maxHeartbeats 4000000 in
set_option maxRecDepth 100000 in
theorem c_X8_take (X : bh_X) (this : Nat) (p1 : Nat) (σ : bh_S) : bh_MX eU X yX8_take wsX8_take 8 208 [.ref this, .ref p1] σ (f_X8_take this p1 σ) := by
  refine bh_enter (cc := cX8_take) (NL := 2) (ret := none) (by decide) rfl (Nat.le_of_ble_eq_true rfl) (fun X => ?_)
  show bh_J eU yX8_take cX8_take wsX8_take none 2 8 208 X σ 0 [(0, .ref this), (1, .ref p1)] [] _
  unfold f_X8_take
  refine bj_aload_nS dX8_take_0 rfl 0 rfl ?_
  refine bj_getR (ci := 9) (k := 0) (C := RX8) (T := TX8) (N := 4) rfl hi_X8_take_X8 (by decide) rfl fl_X8_take_10 (Or.inl rfl) dX8_take_1 (fun v1 h2 => ?_)
  refine bj_aload_nS dX8_take_4 rfl 1 rfl ?_
  refine bj_nn (fun a3 h4 => ?_)
  subst h4
  refine bj_op (fun _ h5 => ?_)
  refine bj_callI (br_V (As := [.ref p1]) (rest := []) (q := (RJx4a65c, TJx4a65c, 3)) (c_Jx4a65c_add_9ea2d X a3 p1 σ) rfl g_X8_take_Jx4a65c_add_9ea2d_26 rfl (bh_ck_spec h5) ⟨rfl, hd_Jx4a65c_add_9ea2d⟩ rfl ⟨by decide, by decide⟩ rfl (Nat.le_of_ble_eq_true rfl) dX8_take_5) (fun v6 σ7 h8 => ?_)
  refine bj_pop dX8_take_8 rfl ?_
  refine bj_aload_nS dX8_take_9 rfl 0 rfl ?_
  refine bj_dup dX8_take_10 rfl ?_
  refine bj_getI (ci := 9) (k := 2) (C := RX8) (T := TX8) (N := 4) rfl hi_X8_take_X8 (by decide) rfl fl_X8_take_20 (Or.inl rfl) dX8_take_11 (fun v9 h10 => ?_)
  refine bj_aload_nS dX8_take_14 rfl 1 rfl ?_
  refine bj_getI (ci := 3) (k := 1) (C := RX2) (T := TX2) (N := 3) rfl hi_X8_take_X2 (by decide) rfl fl_X8_take_30 (Or.inl rfl) dX8_take_15 (fun v11 h12 => ?_)
  refine bj_iadd dX8_take_18 ?_
  refine bj_putI (ci := 9) (k := 2) (C := RX8) (T := TX8) (N := 4) rfl hi_X8_take_X8 (by decide) rfl fl_X8_take_20 (Or.inl rfl) tyX8 tyX8_ok nmX8 rfl (Or.inl rfl) dX8_take_19 (fun σ13 h14 => ?_)
  refine bj_aload_nS dX8_take_22 rfl 0 rfl ?_
  refine bj_dup dX8_take_23 rfl ?_
  refine bj_getI (ci := 9) (k := 3) (C := RX8) (T := TX8) (N := 4) rfl hi_X8_take_X8 (by decide) rfl fl_X8_take_23 (Or.inl rfl) dX8_take_24 (fun v15 h16 => ?_)
  refine bj_aload_nS dX8_take_27 rfl 1 rfl ?_
  refine bj_getI (ci := 3) (k := 1) (C := RX2) (T := TX2) (N := 3) rfl hi_X8_take_X2 (by decide) rfl fl_X8_take_30 (Or.inl rfl) dX8_take_28 (fun v17 h18 => ?_)
  refine bj_iadd dX8_take_31 ?_
  refine bj_putI (ci := 9) (k := 3) (C := RX8) (T := TX8) (N := 4) rfl hi_X8_take_X8 (by decide) rfl fl_X8_take_23 (Or.inl rfl) tyX8 tyX8_ok nmX8 rfl (Or.inl rfl) dX8_take_32 (fun σ19 h20 => ?_)
  refine bj_aload_nS dX8_take_35 rfl 1 rfl ?_
  refine bj_getR (ci := 3) (k := 0) (C := RX2) (T := TX2) (N := 3) rfl hi_X8_take_X2 (by decide) rfl fl_X8_take_33 (Or.inl rfl) dX8_take_36 (fun v21 h22 => ?_)
  refine bj_dup dX8_take_39 (bh_cat _) ?_
  refine bj_nn (fun a23 h24 => ?_)
  subst h24
  refine bj_getI (ci := 7) (k := 13) (C := RX6) (T := TX6) (N := 14) rfl hi_X8_take_X6 (by decide) rfl fl_X8_take_37 (Or.inl rfl) dX8_take_40 (fun v25 h26 => ?_)
  refine bj_aload_nS dX8_take_43 rfl 1 rfl ?_
  refine bj_getI (ci := 3) (k := 1) (C := RX2) (T := TX2) (N := 3) rfl hi_X8_take_X2 (by decide) rfl fl_X8_take_30 (Or.inl rfl) dX8_take_44 (fun v27 h28 => ?_)
  refine bj_iadd dX8_take_47 ?_
  refine bj_putI (ci := 7) (k := 13) (C := RX6) (T := TX6) (N := 14) rfl hi_X8_take_X6 (by decide) rfl fl_X8_take_37 (Or.inl rfl) tyX6 tyX6_ok nmX6 rfl (Or.inl rfl) dX8_take_48 (fun σ29 h30 => ?_)
  refine bj_aload_nS dX8_take_51 rfl 1 rfl ?_
  refine bj_getR (ci := 3) (k := 0) (C := RX2) (T := TX2) (N := 3) rfl hi_X8_take_X2 (by decide) rfl fl_X8_take_33 (Or.inl rfl) dX8_take_52 (fun v31 h32 => ?_)
  refine bj_nn (fun a33 h34 => ?_)
  subst h34
  refine bj_getR (ci := 7) (k := 1) (C := RX6) (T := TX6) (N := 14) rfl hi_X8_take_X6 (by decide) rfl fl_X8_take_40 (Or.inl rfl) dX8_take_55 (fun v35 h36 => ?_)
  refine bj_dup dX8_take_58 (bh_cat _) ?_
  refine bj_nn (fun a37 h38 => ?_)
  subst h38
  refine bj_getI (ci := 1) (k := 3) (C := RX0) (T := TX0) (N := 4) rfl hi_X8_take_X0 (by decide) rfl fl_X8_take_44 (Or.inl rfl) dX8_take_59 (fun v39 h40 => ?_)
  refine bj_aload_nS dX8_take_62 rfl 1 rfl ?_
  refine bj_getI (ci := 3) (k := 1) (C := RX2) (T := TX2) (N := 3) rfl hi_X8_take_X2 (by decide) rfl fl_X8_take_30 (Or.inl rfl) dX8_take_63 (fun v41 h42 => ?_)
  refine bj_iadd dX8_take_66 ?_
  refine bj_putI (ci := 1) (k := 3) (C := RX0) (T := TX0) (N := 4) rfl hi_X8_take_X0 (by decide) rfl fl_X8_take_44 (Or.inl rfl) tyX0 tyX0_ok nmX0 rfl (Or.inl rfl) dX8_take_67 (fun σ43 h44 => ?_)
  exact bj_vret dX8_take_70
