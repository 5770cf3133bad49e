/-! BeetHouseModel.refuse(I)I -/
def g_X10_refuse (p1 : Int32) (X : xs_S) : Option (Int32 × xs_S) :=
  (xs_ld 7 X 0 (-p1)).bind fun v5 =>
  (xs_st 7 X 0 (-p1) (v5 + 1)).bind fun X7 =>
  some (p1, X7)
set_option maxRecDepth 100000 in
theorem q_X10_refuse {m mb : Nat} {rr : Nat → Nat} {σ0 : bh_S} (p1 : Int32) {σ : bh_S} {X : xs_S} (h : mo_R m rr mb σ X) (hF : mo_F mb σ0 σ) : sm (mo_G m rr mb σ0) (f_X10_refuse m p1 σ) (g_X10_refuse p1 X) := by
  unfold f_X10_refuse g_X10_refuse
  refine mo_rdR h rfl ?_
  refine sm_nn ?_
  refine mo_ldI (k := 0) (n := 7) h rfl rfl rfl (fun v5 h9 => ?_)
  refine mo_stI (k := 0) (n := 7) h hF rfl rfl rfl (fun σ7 X7 h9 h hF => ?_)
  exact sm_ret ⟨rfl, h, hF⟩
/-! BeetHouseModel.isIn(II)Z -/
def g_X10_isIn (p0 : Int32) (p1 : Int32) (X : xs_S) : Option (Int32 × xs_S) :=
  if p0 < 0 then
    xs_retZ X 0
  else
    if p1 ≤ p0 then
      xs_retZ X 0
    else
      xs_retZ X 1
set_option maxRecDepth 100000 in
theorem q_X10_isIn {m mb : Nat} {rr : Nat → Nat} {σ0 : bh_S} (p0 : Int32) (p1 : Int32) {σ : bh_S} {X : xs_S} (h : mo_R m rr mb σ X) (hF : mo_F mb σ0 σ) : sm (mo_G m rr mb σ0) (f_X10_isIn p0 p1 σ) (g_X10_isIn p0 p1 X) := by
  unfold f_X10_isIn g_X10_isIn
  refine sm_ite (fun h1 => ?_) (fun h1 => ?_)
  · exact sm_retZ ⟨rfl, h, hF⟩
  · refine sm_ite (fun h2 => ?_) (fun h2 => ?_)
    · exact sm_retZ ⟨rfl, h, hF⟩
    · exact sm_retZ ⟨rfl, h, hF⟩
/-! BeetHouseModel.share(II)I -/
def g_X10_share (p1 : Int32) (p2 : Int32) (X : xs_S) : Option (Int32 × xs_S) :=
  xs_bnd (g_X10_isIn p1 6 X) fun v1 X2 =>
  if v1 = 0 then
    xs_bnd (g_X10_refuse (-1) X2) fun v28 X29 =>
    some (v28, X29)
  else
    if 0 ≤ p2 then
      if p2 ≤ 1000 then
        (xs_ld 6 X2 1 p1).bind fun v11 =>
        (xs_st 6 X2 1 p1 p2).bind fun X17 =>
        some (v11, X17)
      else
        xs_bnd (g_X10_refuse (-6) X2) fun v20 X21 =>
        some (v20, X21)
    else
      xs_bnd (g_X10_refuse (-4) X2) fun v24 X25 =>
      some (v24, X25)
set_option maxRecDepth 100000 in
theorem q_X10_share {m mb : Nat} {rr : Nat → Nat} {σ0 : bh_S} (p1 : Int32) (p2 : Int32) {σ : bh_S} {X : xs_S} (h : mo_R m rr mb σ X) (hF : mo_F mb σ0 σ) : sm (mo_G m rr mb σ0) (f_X10_share m p1 p2 σ) (g_X10_share p1 p2 X) := by
  unfold f_X10_share g_X10_share
  refine sm_call (q_X10_isIn p1 6  h hF) ?_
  rintro v1 σ2 _ X2 ⟨rfl, h, hF⟩
  refine sm_ite (fun h1 => ?_) (fun h1 => ?_)
  · refine mo_ck h ?_
    refine sm_call (q_X10_refuse (-1)  h hF) ?_
    rintro v28 σ29 _ X29 ⟨rfl, h, hF⟩
    exact sm_ret ⟨rfl, h, hF⟩
  · refine sm_ite (fun h2 => ?_) (fun h2 => ?_)
    · refine sm_ite (fun h3 => ?_) (fun h3 => ?_)
      · refine mo_rdR h rfl ?_
        refine sm_nn ?_
        refine mo_ldI (k := 1) (n := 6) h rfl rfl rfl (fun v11 h9 => ?_)
        refine mo_rdR h rfl ?_
        refine sm_nn ?_
        refine mo_stI (k := 1) (n := 6) h hF rfl rfl rfl (fun σ17 X17 h9 h hF => ?_)
        exact sm_ret ⟨rfl, h, hF⟩
      · refine mo_ck h ?_
        refine sm_call (q_X10_refuse (-6)  h hF) ?_
        rintro v20 σ21 _ X21 ⟨rfl, h, hF⟩
        exact sm_ret ⟨rfl, h, hF⟩
    · refine mo_ck h ?_
      refine sm_call (q_X10_refuse (-4)  h hF) ?_
      rintro v24 σ25 _ X25 ⟨rfl, h, hF⟩
      exact sm_ret ⟨rfl, h, hF⟩
/-! BeetHouseModel.field(IIIIZ)I -/
def g_X10_field_b32  (X : xs_S) : Option (Int32 × xs_S) :=
  xs_bnd (g_X10_refuse (-4) X) fun v2 X3 =>
  some (v2, X3)
set_option maxRecDepth 100000 in
theorem q_X10_field_b32 {m mb : Nat} {rr : Nat → Nat} {σ0 : bh_S}  {σ : bh_S} {X : xs_S} (h : mo_R m rr mb σ X) (hF : mo_F mb σ0 σ) : sm (mo_G m rr mb σ0) (f_X10_field_b32 m σ) (g_X10_field_b32  X) := by
  unfold f_X10_field_b32 g_X10_field_b32
  refine mo_ck h ?_
  refine sm_call (q_X10_refuse (-4)  h hF) ?_
  rintro v2 σ3 _ X3 ⟨rfl, h, hF⟩
  exact sm_ret ⟨rfl, h, hF⟩
def g_X10_field_b69  (X : xs_S) : Option (Int32 × xs_S) :=
  xs_bnd (g_X10_refuse (-6) X) fun v2 X3 =>
  some (v2, X3)
set_option maxRecDepth 100000 in
theorem q_X10_field_b69 {m mb : Nat} {rr : Nat → Nat} {σ0 : bh_S}  {σ : bh_S} {X : xs_S} (h : mo_R m rr mb σ X) (hF : mo_F mb σ0 σ) : sm (mo_G m rr mb σ0) (f_X10_field_b69 m σ) (g_X10_field_b69  X) := by
  unfold f_X10_field_b69 g_X10_field_b69
  refine mo_ck h ?_
  refine sm_call (q_X10_refuse (-6)  h hF) ?_
  rintro v2 σ3 _ X3 ⟨rfl, h, hF⟩
  exact sm_ret ⟨rfl, h, hF⟩
def g_X10_field (p1 : Int32) (p2 : Int32) (p3 : Int32) (p4 : Int32) (p5 : Int32) (X : xs_S) : Option (Int32 × xs_S) :=
  xs_bnd (g_X10_isIn p1 6 X) fun v1 X2 =>
  if v1 = 0 then
    xs_bnd (g_X10_refuse (-1) X2) fun v57 X58 =>
    some (v57, X58)
  else
    if p2 < 1 then
      g_X10_field_b32  X2
    else
      if p3 < 50 then
        g_X10_field_b32  X2
      else
        if 1 ≤ p4 then
          if 5000 < p2 then
            g_X10_field_b69  X2
          else
            if 250 < p3 then
              g_X10_field_b69  X2
            else
              if 12 < p4 then
                g_X10_field_b69  X2
              else
                if (X2 7 0) = 16 then
                  g_X10_field_b69  X2
                else
                  xs_lt (xs_up X2 7 0 ((X2 7 0) + 1)) fun X18 =>
                  (xs_st 16 X18 18 (X2 7 0) p1).bind fun X24 =>
                  (xs_st 16 X24 19 (X2 7 0) p2).bind fun X30 =>
                  (xs_st 16 X30 20 (X2 7 0) p3).bind fun X36 =>
                  (xs_st 16 X36 21 (X2 7 0) p4).bind fun X42 =>
                  (xs_stZ 16 X42 28 (X2 7 0) p5).bind fun X48 =>
                  (xs_st 16 X48 24 (X2 7 0) (-9)).bind fun X54 =>
                  some ((X2 7 0), X54)
        else
          g_X10_field_b32  X2
set_option maxRecDepth 100000 in
theorem q_X10_field {m mb : Nat} {rr : Nat → Nat} {σ0 : bh_S} (p1 : Int32) (p2 : Int32) (p3 : Int32) (p4 : Int32) (p5 : Int32) {σ : bh_S} {X : xs_S} (h : mo_R m rr mb σ X) (hF : mo_F mb σ0 σ) : sm (mo_G m rr mb σ0) (f_X10_field m p1 p2 p3 p4 p5 σ) (g_X10_field p1 p2 p3 p4 p5 X) := by
  unfold f_X10_field g_X10_field
  refine sm_call (q_X10_isIn p1 6  h hF) ?_
  rintro v1 σ2 _ X2 ⟨rfl, h, hF⟩
  refine sm_ite (fun h1 => ?_) (fun h1 => ?_)
  · refine mo_ck h ?_
    refine sm_call (q_X10_refuse (-1)  h hF) ?_
    rintro v57 σ58 _ X58 ⟨rfl, h, hF⟩
    exact sm_ret ⟨rfl, h, hF⟩
  · refine sm_ite (fun h2 => ?_) (fun h2 => ?_)
    · exact q_X10_field_b32   h hF
    · refine sm_ite (fun h3 => ?_) (fun h3 => ?_)
      · exact q_X10_field_b32   h hF
      · refine sm_ite (fun h4 => ?_) (fun h4 => ?_)
        · refine sm_ite (fun h5 => ?_) (fun h5 => ?_)
          · exact q_X10_field_b69   h hF
          · refine sm_ite (fun h6 => ?_) (fun h6 => ?_)
            · exact q_X10_field_b69   h hF
            · refine sm_ite (fun h7 => ?_) (fun h7 => ?_)
              · exact q_X10_field_b69   h hF
              · refine mo_rdI h rfl ?_
                refine sm_ite (fun h8 => ?_) (fun h8 => ?_)
                · exact q_X10_field_b69   h hF
                · refine mo_rdI h rfl ?_
                  refine mo_rdI h rfl ?_
                  refine mo_wrI h hF rfl (fun σ18 X18 h9 h hF => ?_)
                  refine mo_rdR h rfl ?_
                  refine sm_nn ?_
                  refine mo_stI (k := 18) (n := 16) h hF rfl rfl rfl (fun σ24 X24 h9 h hF => ?_)
                  refine mo_rdR h rfl ?_
                  refine sm_nn ?_
                  refine mo_stI (k := 19) (n := 16) h hF rfl rfl rfl (fun σ30 X30 h9 h hF => ?_)
                  refine mo_rdR h rfl ?_
                  refine sm_nn ?_
                  refine mo_stI (k := 20) (n := 16) h hF rfl rfl rfl (fun σ36 X36 h9 h hF => ?_)
                  refine mo_rdR h rfl ?_
                  refine sm_nn ?_
                  refine mo_stI (k := 21) (n := 16) h hF rfl rfl rfl (fun σ42 X42 h9 h hF => ?_)
                  refine mo_rdR h rfl ?_
                  refine sm_nn ?_
                  refine mo_stZ (k := 28) (n := 16) h hF rfl rfl rfl (fun σ48 X48 h9 h hF => ?_)
                  refine mo_rdR h rfl ?_
                  refine sm_nn ?_
                  refine mo_stI (k := 24) (n := 16) h hF rfl rfl rfl (fun σ54 X54 h9 h hF => ?_)
                  exact sm_ret ⟨rfl, h, hF⟩
        · exact q_X10_field_b32   h hF
/-! BeetHouseModel.isField(I)Z -/
def g_X10_isField (p1 : Int32) (X : xs_S) : Option (Int32 × xs_S) :=
  xs_bnd (g_X10_isIn p1 (X 7 0) X) fun v3 X4 =>
  xs_retZ X4 v3
set_option maxRecDepth 100000 in
theorem q_X10_isField {m mb : Nat} {rr : Nat → Nat} {σ0 : bh_S} (p1 : Int32) {σ : bh_S} {X : xs_S} (h : mo_R m rr mb σ X) (hF : mo_F mb σ0 σ) : sm (mo_G m rr mb σ0) (f_X10_isField m p1 σ) (g_X10_isField p1 X) := by
  unfold f_X10_isField g_X10_isField
  refine mo_rdI h rfl ?_
  refine sm_call (q_X10_isIn p1 (X 7 0)  h hF) ?_
  rintro v3 σ4 _ X4 ⟨rfl, h, hF⟩
  exact sm_retZ ⟨rfl, h, hF⟩
/-! BeetHouseModel.isLorry(I)Z -/
def g_X10_isLorry (p1 : Int32) (X : xs_S) : Option (Int32 × xs_S) :=
  xs_bnd (g_X10_isIn p1 (X 8 0) X) fun v3 X4 =>
  xs_retZ X4 v3
set_option maxRecDepth 100000 in
theorem q_X10_isLorry {m mb : Nat} {rr : Nat → Nat} {σ0 : bh_S} (p1 : Int32) {σ : bh_S} {X : xs_S} (h : mo_R m rr mb σ X) (hF : mo_F mb σ0 σ) : sm (mo_G m rr mb σ0) (f_X10_isLorry m p1 σ) (g_X10_isLorry p1 X) := by
  unfold f_X10_isLorry g_X10_isLorry
  refine mo_rdI h rfl ?_
  refine sm_call (q_X10_isIn p1 (X 8 0)  h hF) ?_
  rintro v3 σ4 _ X4 ⟨rfl, h, hF⟩
  exact sm_retZ ⟨rfl, h, hF⟩
/-! BeetHouseModel.gang(III)I -/
def g_X10_gang_b21  (X : xs_S) : Option (Int32 × xs_S) :=
  xs_bnd (g_X10_refuse (-1) X) fun v2 X3 =>
  some (v2, X3)
set_option maxRecDepth 100000 in
theorem q_X10_gang_b21 {m mb : Nat} {rr : Nat → Nat} {σ0 : bh_S}  {σ : bh_S} {X : xs_S} (h : mo_R m rr mb σ X) (hF : mo_F mb σ0 σ) : sm (mo_G m rr mb σ0) (f_X10_gang_b21 m σ) (g_X10_gang_b21  X) := by
  unfold f_X10_gang_b21 g_X10_gang_b21
  refine mo_ck h ?_
  refine sm_call (q_X10_refuse (-1)  h hF) ?_
  rintro v2 σ3 _ X3 ⟨rfl, h, hF⟩
  exact sm_ret ⟨rfl, h, hF⟩
def g_X10_gang_b27 (x1 : Int32) (x2 : Int32) (x3 : Int32) (X : xs_S) : Option (Int32 × xs_S) :=
  if 0 ≤ x2 then
    if x2 ≤ 100 then
      (xs_st 4 X 31 x1 x2).bind fun X7 =>
      (xs_st 4 X7 32 x1 x3).bind fun X13 =>
      some (1, X13)
    else
      xs_bnd (g_X10_refuse (-6) X) fun v16 X17 =>
      some (v16, X17)
  else
    xs_bnd (g_X10_refuse (-4) X) fun v20 X21 =>
    some (v20, X21)
set_option maxRecDepth 100000 in
theorem q_X10_gang_b27 {m mb : Nat} {rr : Nat → Nat} {σ0 : bh_S} (x1 : Int32) (x2 : Int32) (x3 : Int32) {σ : bh_S} {X : xs_S} (h : mo_R m rr mb σ X) (hF : mo_F mb σ0 σ) : sm (mo_G m rr mb σ0) (f_X10_gang_b27 m x1 x2 x3 σ) (g_X10_gang_b27 x1 x2 x3 X) := by
  unfold f_X10_gang_b27 g_X10_gang_b27
  refine sm_ite (fun h1 => ?_) (fun h1 => ?_)
  · refine sm_ite (fun h2 => ?_) (fun h2 => ?_)
    · refine mo_rdR h rfl ?_
      refine sm_nn ?_
      refine mo_stI (k := 31) (n := 4) h hF rfl rfl rfl (fun σ7 X7 h9 h hF => ?_)
      refine mo_rdR h rfl ?_
      refine sm_nn ?_
      refine mo_stI (k := 32) (n := 4) h hF rfl rfl rfl (fun σ13 X13 h9 h hF => ?_)
      exact sm_ret ⟨rfl, h, hF⟩
    · refine mo_ck h ?_
      refine sm_call (q_X10_refuse (-6)  h hF) ?_
      rintro v16 σ17 _ X17 ⟨rfl, h, hF⟩
      exact sm_ret ⟨rfl, h, hF⟩
  · refine mo_ck h ?_
    refine sm_call (q_X10_refuse (-4)  h hF) ?_
    rintro v20 σ21 _ X21 ⟨rfl, h, hF⟩
    exact sm_ret ⟨rfl, h, hF⟩
def g_X10_gang (p1 : Int32) (p2 : Int32) (p3 : Int32) (X : xs_S) : Option (Int32 × xs_S) :=
  xs_bnd (g_X10_isIn p1 4 X) fun v1 X2 =>
  if v1 = 0 then
    g_X10_gang_b21  X2
  else
    if p3 = (-1) then
      g_X10_gang_b27 p1 p2 p3 X2
    else
      xs_bnd (g_X10_isField p3 X2) fun v7 X8 =>
      if v7 = 0 then
        g_X10_gang_b21  X8
      else
        g_X10_gang_b27 p1 p2 p3 X8
set_option maxRecDepth 100000 in
theorem q_X10_gang {m mb : Nat} {rr : Nat → Nat} {σ0 : bh_S} (p1 : Int32) (p2 : Int32) (p3 : Int32) {σ : bh_S} {X : xs_S} (h : mo_R m rr mb σ X) (hF : mo_F mb σ0 σ) : sm (mo_G m rr mb σ0) (f_X10_gang m p1 p2 p3 σ) (g_X10_gang p1 p2 p3 X) := by
  unfold f_X10_gang g_X10_gang
  refine sm_call (q_X10_isIn p1 4  h hF) ?_
  rintro v1 σ2 _ X2 ⟨rfl, h, hF⟩
  refine sm_ite (fun h1 => ?_) (fun h1 => ?_)
  · exact q_X10_gang_b21   h hF
  · refine sm_ite (fun h2 => ?_) (fun h2 => ?_)
    · exact q_X10_gang_b27  p1 p2 p3 h hF
    · refine mo_ck h ?_
      refine sm_call (q_X10_isField p3  h hF) ?_
      rintro v7 σ8 _ X8 ⟨rfl, h, hF⟩
      refine sm_ite (fun h3 => ?_) (fun h3 => ?_)
      · exact q_X10_gang_b21   h hF
      · exact q_X10_gang_b27  p1 p2 p3 h hF
/-! BeetHouseModel.lorry(I)I -/
def g_X10_lorry_b27  (X : xs_S) : Option (Int32 × xs_S) :=
  xs_bnd (g_X10_refuse (-6) X) fun v2 X3 =>
  some (v2, X3)
set_option maxRecDepth 100000 in
theorem q_X10_lorry_b27 {m mb : Nat} {rr : Nat → Nat} {σ0 : bh_S}  {σ : bh_S} {X : xs_S} (h : mo_R m rr mb σ X) (hF : mo_F mb σ0 σ) : sm (mo_G m rr mb σ0) (f_X10_lorry_b27 m σ) (g_X10_lorry_b27  X) := by
  unfold f_X10_lorry_b27 g_X10_lorry_b27
  refine mo_ck h ?_
  refine sm_call (q_X10_refuse (-6)  h hF) ?_
  rintro v2 σ3 _ X3 ⟨rfl, h, hF⟩
  exact sm_ret ⟨rfl, h, hF⟩
def g_X10_lorry (p1 : Int32) (X : xs_S) : Option (Int32 × xs_S) :=
  if 1 ≤ p1 then
    if 100 < p1 then
      g_X10_lorry_b27  X
    else
      if (X 8 0) = 8 then
        g_X10_lorry_b27  X
      else
        (xs_st 8 X 33 (X 8 0) p1).bind fun X12 =>
        (xs_st 8 X12 35 (X12 8 0) (-9)).bind fun X20 =>
        (xs_st 8 X20 36 (X20 8 0) (-9)).bind fun X28 =>
        xs_lt (xs_up X28 8 0 ((X28 8 0) + 1)) fun X32 =>
        some ((X32 8 0) - 1, X32)
  else
    xs_bnd (g_X10_refuse (-4) X) fun v37 X38 =>
    some (v37, X38)
set_option maxRecDepth 100000 in
theorem q_X10_lorry {m mb : Nat} {rr : Nat → Nat} {σ0 : bh_S} (p1 : Int32) {σ : bh_S} {X : xs_S} (h : mo_R m rr mb σ X) (hF : mo_F mb σ0 σ) : sm (mo_G m rr mb σ0) (f_X10_lorry m p1 σ) (g_X10_lorry p1 X) := by
  unfold f_X10_lorry g_X10_lorry
  refine sm_ite (fun h1 => ?_) (fun h1 => ?_)
  · refine sm_ite (fun h2 => ?_) (fun h2 => ?_)
    · exact q_X10_lorry_b27   h hF
    · refine mo_rdI h rfl ?_
      refine sm_ite (fun h3 => ?_) (fun h3 => ?_)
      · exact q_X10_lorry_b27   h hF
      · refine mo_rdR h rfl ?_
        refine mo_rdI h rfl ?_
        refine sm_nn ?_
        refine mo_stI (k := 33) (n := 8) h hF rfl rfl rfl (fun σ12 X12 h9 h hF => ?_)
        refine mo_rdR h rfl ?_
        refine mo_rdI h rfl ?_
        refine sm_nn ?_
        refine mo_stI (k := 35) (n := 8) h hF rfl rfl rfl (fun σ20 X20 h9 h hF => ?_)
        refine mo_rdR h rfl ?_
        refine mo_rdI h rfl ?_
        refine sm_nn ?_
        refine mo_stI (k := 36) (n := 8) h hF rfl rfl rfl (fun σ28 X28 h9 h hF => ?_)
        refine mo_rdI h rfl ?_
        refine mo_wrI h hF rfl (fun σ32 X32 h9 h hF => ?_)
        refine mo_rdI h rfl ?_
        exact sm_ret ⟨rfl, h, hF⟩
  · refine mo_ck h ?_
    refine sm_call (q_X10_refuse (-4)  h hF) ?_
    rintro v37 σ38 _ X38 ⟨rfl, h, hF⟩
    exact sm_ret ⟨rfl, h, hF⟩
/-! BeetHouseModel.goes(II)V -/
def g_X10_goes (p1 : Int32) (p2 : Int32) (X : xs_S) : Option (Unit × xs_S) :=
  (xs_st 8 X 34 p1 1).bind fun X5 =>
  (xs_st 8 X5 35 p1 p2).bind fun X11 =>
  (xs_ld 16 X11 21 p2).bind fun v21 =>
  (xs_st 8 X11 36 p1 ((X11 6 0) + v21)).bind fun X25 =>
  some ((), X25)
set_option maxRecDepth 100000 in
theorem q_X10_goes {m mb : Nat} {rr : Nat → Nat} {σ0 : bh_S} (p1 : Int32) (p2 : Int32) {σ : bh_S} {X : xs_S} (h : mo_R m rr mb σ X) (hF : mo_F mb σ0 σ) : sm (mo_G m rr mb σ0) (f_X10_goes m p1 p2 σ) (g_X10_goes p1 p2 X) := by
  unfold f_X10_goes g_X10_goes
  refine mo_rdR h rfl ?_
  refine sm_nn ?_
  refine mo_stI (k := 34) (n := 8) h hF rfl rfl rfl (fun σ5 X5 h9 h hF => ?_)
  refine mo_rdR h rfl ?_
  refine sm_nn ?_
  refine mo_stI (k := 35) (n := 8) h hF rfl rfl rfl (fun σ11 X11 h9 h hF => ?_)
  refine mo_rdR h rfl ?_
  refine mo_rdI h rfl ?_
  refine mo_rdR h rfl ?_
  refine sm_nn ?_
  refine mo_ldI (k := 21) (n := 16) h rfl rfl rfl (fun v21 h9 => ?_)
  refine sm_nn ?_
  refine mo_stI (k := 36) (n := 8) h hF rfl rfl rfl (fun σ25 X25 h9 h hF => ?_)
  exact sm_ret ⟨rfl, h, hF⟩
/-! BeetHouseModel.send(II)I -/
def g_X10_send_b16  (X : xs_S) : Option (Int32 × xs_S) :=
  xs_bnd (g_X10_refuse (-1) X) fun v2 X3 =>
  some (v2, X3)
set_option maxRecDepth 100000 in
theorem q_X10_send_b16 {m mb : Nat} {rr : Nat → Nat} {σ0 : bh_S}  {σ : bh_S} {X : xs_S} (h : mo_R m rr mb σ X) (hF : mo_F mb σ0 σ) : sm (mo_G m rr mb σ0) (f_X10_send_b16 m σ) (g_X10_send_b16  X) := by
  unfold f_X10_send_b16 g_X10_send_b16
  refine mo_ck h ?_
  refine sm_call (q_X10_refuse (-1)  h hF) ?_
  rintro v2 σ3 _ X3 ⟨rfl, h, hF⟩
  exact sm_ret ⟨rfl, h, hF⟩
def g_X10_send (p1 : Int32) (p2 : Int32) (X : xs_S) : Option (Int32 × xs_S) :=
  xs_bnd (g_X10_isLorry p1 X) fun v2 X3 =>
  if v2 = 0 then
    g_X10_send_b16  X3
  else
    xs_bnd (g_X10_isField p2 X3) fun v7 X8 =>
    if v7 = 0 then
      g_X10_send_b16  X8
    else
      (xs_ld 8 X8 34 p1).bind fun v15 =>
      if v15 = 0 then
        xs_bnd (g_X10_goes p1 p2 X8) fun v19 X20 =>
        (xs_ld 8 X20 36 p1).bind fun v26 =>
        some (v26, X20)
      else
        xs_bnd (g_X10_refuse (-3) X8) fun v29 X30 =>
        some (v29, X30)
set_option maxRecDepth 100000 in
theorem q_X10_send {m mb : Nat} {rr : Nat → Nat} {σ0 : bh_S} (p1 : Int32) (p2 : Int32) {σ : bh_S} {X : xs_S} (h : mo_R m rr mb σ X) (hF : mo_F mb σ0 σ) : sm (mo_G m rr mb σ0) (f_X10_send m p1 p2 σ) (g_X10_send p1 p2 X) := by
  unfold f_X10_send g_X10_send
  refine mo_ck h ?_
  refine sm_call (q_X10_isLorry p1  h hF) ?_
  rintro v2 σ3 _ X3 ⟨rfl, h, hF⟩
  refine sm_ite (fun h1 => ?_) (fun h1 => ?_)
  · exact q_X10_send_b16   h hF
  · refine mo_ck h ?_
    refine sm_call (q_X10_isField p2  h hF) ?_
    rintro v7 σ8 _ X8 ⟨rfl, h, hF⟩
    refine sm_ite (fun h2 => ?_) (fun h2 => ?_)
    · exact q_X10_send_b16   h hF
    · refine mo_rdR h rfl ?_
      refine sm_nn ?_
      refine mo_ldI (k := 34) (n := 8) h rfl rfl rfl (fun v15 h9 => ?_)
      refine sm_ite (fun h3 => ?_) (fun h3 => ?_)
      · refine mo_ck h ?_
        refine sm_call (q_X10_goes p1 p2  h hF) ?_
        rintro v19 σ20 _ X20 ⟨rfl, h, hF⟩
        refine mo_rdR h rfl ?_
        refine sm_nn ?_
        refine mo_ldI (k := 36) (n := 8) h rfl rfl rfl (fun v26 h9 => ?_)
        exact sm_ret ⟨rfl, h, hF⟩
      · refine mo_ck h ?_
        refine sm_call (q_X10_refuse (-3)  h hF) ?_
        rintro v29 σ30 _ X30 ⟨rfl, h, hF⟩
        exact sm_ret ⟨rfl, h, hF⟩
/-! BeetHouseModel.isLeft(I)Z -/
def g_X10_isLeft_b48 (N : Nat) (k9 : Int32 → Int32 → Int32 → xs_S → Option (Int32 × xs_S)) (x1 : Int32) (x3 : Int32) (t0 : Int32) (t1 : Int32) (X : xs_S) : Option (Int32 × xs_S) :=
  k9 x1 (t1 - t0) (x3 + 1) X
set_option maxRecDepth 100000 in
theorem q_X10_isLeft_b48 {m mb : Nat} {rr : Nat → Nat} {σ0 : bh_S} (N : Nat) (k9 : Nat → Int32 → Int32 → Int32 → bh_S → Option (Int32 × bh_S)) (K9 : Int32 → Int32 → Int32 → xs_S → Option (Int32 × xs_S)) (hk9 : ∀ (x1 : Int32) (x2 : Int32) (x3 : Int32) (σ : bh_S) (X : xs_S), mo_R m rr mb σ X → mo_F mb σ0 σ → sm (mo_G m rr mb σ0) (k9 m x1 x2 x3 σ) (K9 x1 x2 x3 X)) (x1 : Int32) (x3 : Int32) (t0 : Int32) (t1 : Int32) {σ : bh_S} {X : xs_S} (h : mo_R m rr mb σ X) (hF : mo_F mb σ0 σ) : sm (mo_G m rr mb σ0) (f_X10_isLeft_b48 N k9 m x1 x3 t0 t1 σ) (g_X10_isLeft_b48 N K9 x1 x3 t0 t1 X) := by
  unfold f_X10_isLeft_b48 g_X10_isLeft_b48
  exact hk9 x1 (t1 - t0) (x3 + 1) σ X h hF
def g_X10_isLeft_b47 (N : Nat) (k9 : Int32 → Int32 → Int32 → xs_S → Option (Int32 × xs_S)) (x1 : Int32) (x3 : Int32) (t0 : Int32) (X : xs_S) : Option (Int32 × xs_S) :=
  g_X10_isLeft_b48 N k9 x1 x3 0 t0 X
set_option maxRecDepth 100000 in
theorem q_X10_isLeft_b47 {m mb : Nat} {rr : Nat → Nat} {σ0 : bh_S} (N : Nat) (k9 : Nat → Int32 → Int32 → Int32 → bh_S → Option (Int32 × bh_S)) (K9 : Int32 → Int32 → Int32 → xs_S → Option (Int32 × xs_S)) (hk9 : ∀ (x1 : Int32) (x2 : Int32) (x3 : Int32) (σ : bh_S) (X : xs_S), mo_R m rr mb σ X → mo_F mb σ0 σ → sm (mo_G m rr mb σ0) (k9 m x1 x2 x3 σ) (K9 x1 x2 x3 X)) (x1 : Int32) (x3 : Int32) (t0 : Int32) {σ : bh_S} {X : xs_S} (h : mo_R m rr mb σ X) (hF : mo_F mb σ0 σ) : sm (mo_G m rr mb σ0) (f_X10_isLeft_b47 N k9 m x1 x3 t0 σ) (g_X10_isLeft_b47 N K9 x1 x3 t0 X) := by
  unfold f_X10_isLeft_b47 g_X10_isLeft_b47
  exact q_X10_isLeft_b48 N k9 K9 hk9 x1 x3 0 t0 h hF
def g_X10_isLeft_b9 (N : Nat) : Nat → Int32 → Int32 → Int32 → xs_S → Option (Int32 × xs_S)
  | 0, _, _, _, _ => none
  | n + 1, x1, x2, x3, X =>
    if (X 8 0) ≤ x3 then
      if x2 ≤ 0 then
        xs_retZ X 0
      else
        xs_retZ X 1
    else
      (xs_ld 8 X 34 x3).bind fun v9 =>
      if v9 = 1 then
        (xs_ld 8 X 35 x3).bind fun v16 =>
        if v16 = x1 then
          (xs_ld 8 X 33 x3).bind fun v23 =>
          g_X10_isLeft_b48 N (g_X10_isLeft_b9 N n) x1 x3 v23 x2 X
        else
          g_X10_isLeft_b47 N (g_X10_isLeft_b9 N n) x1 x3 x2 X
      else
        g_X10_isLeft_b47 N (g_X10_isLeft_b9 N n) x1 x3 x2 X
set_option maxRecDepth 100000 in
theorem q_X10_isLeft_b9 {m mb : Nat} {rr : Nat → Nat} {σ0 : bh_S} (N : Nat) : ∀ (n : Nat) (x1 : Int32) (x2 : Int32) (x3 : Int32) (σ : bh_S) (X : xs_S), mo_R m rr mb σ X → mo_F mb σ0 σ → sm (mo_G m rr mb σ0) (f_X10_isLeft_b9 N n m x1 x2 x3 σ) (g_X10_isLeft_b9 N n x1 x2 x3 X) := by
  intro n
  induction n with
  | zero => intro x1 x2 x3 σ X h hF; exact sm_none
  | succ n ih =>
    intro x1 x2 x3 σ X h hF
    unfold f_X10_isLeft_b9 g_X10_isLeft_b9
    refine mo_rdI h rfl ?_
    refine sm_ite (fun h1 => ?_) (fun h1 => ?_)
    · refine sm_ite (fun h2 => ?_) (fun h2 => ?_)
      · exact sm_retZ ⟨rfl, h, hF⟩
      · exact sm_retZ ⟨rfl, h, hF⟩
    · refine mo_rdR h rfl ?_
      refine sm_nn ?_
      refine mo_ldI (k := 34) (n := 8) h rfl rfl rfl (fun v9 h9 => ?_)
      refine sm_ite (fun h3 => ?_) (fun h3 => ?_)
      · refine mo_rdR h rfl ?_
        refine sm_nn ?_
        refine mo_ldI (k := 35) (n := 8) h rfl rfl rfl (fun v16 h9 => ?_)
        refine sm_ite (fun h4 => ?_) (fun h4 => ?_)
        · refine mo_rdR h rfl ?_
          refine sm_nn ?_
          refine mo_ldI (k := 33) (n := 8) h rfl rfl rfl (fun v23 h9 => ?_)
          exact q_X10_isLeft_b48 N _ (g_X10_isLeft_b9 N n) ih x1 x3 v23 x2 h hF
        · exact q_X10_isLeft_b47 N _ (g_X10_isLeft_b9 N n) ih x1 x3 x2 h hF
      · exact q_X10_isLeft_b47 N _ (g_X10_isLeft_b9 N n) ih x1 x3 x2 h hF
def g_X10_isLeft (N : Nat) (p1 : Int32) (X : xs_S) : Option (Int32 × xs_S) :=
  (xs_ld 16 X 22 p1).bind fun v5 =>
  g_X10_isLeft_b9 N N p1 v5 0 X
set_option maxRecDepth 100000 in
theorem q_X10_isLeft {m mb : Nat} {rr : Nat → Nat} {σ0 : bh_S} (N : Nat) (p1 : Int32) {σ : bh_S} {X : xs_S} (h : mo_R m rr mb σ X) (hF : mo_F mb σ0 σ) : sm (mo_G m rr mb σ0) (f_X10_isLeft N m p1 σ) (g_X10_isLeft N p1 X) := by
  unfold f_X10_isLeft g_X10_isLeft
  refine mo_rdR h rfl ?_
  refine sm_nn ?_
  refine mo_ldI (k := 22) (n := 16) h rfl rfl rfl (fun v5 h9 => ?_)
  exact q_X10_isLeft_b9 N N p1 v5 0 _ _ h hF
/-! BeetHouseModel.owedOf(I)I -/
def g_X10_owedOf_b49 (N : Nat) (k7 : Int32 → Int32 → Int32 → Int32 → xs_S → Option (Int32 × xs_S)) (x1 : Int32) (x2 : Int32) (x4 : Int32) (t0 : Int32) (t1 : Int32) (X : xs_S) : Option (Int32 × xs_S) :=
  k7 x1 x2 (t1 + t0) (x4 + 1) X
set_option maxRecDepth 100000 in
theorem q_X10_owedOf_b49 {m mb : Nat} {rr : Nat → Nat} {σ0 : bh_S} (N : Nat) (k7 : Nat → Int32 → Int32 → Int32 → Int32 → bh_S → Option (Int32 × bh_S)) (K7 : Int32 → Int32 → Int32 → Int32 → xs_S → Option (Int32 × xs_S)) (hk7 : ∀ (x1 : Int32) (x2 : Int32) (x3 : Int32) (x4 : Int32) (σ : bh_S) (X : xs_S), mo_R m rr mb σ X → mo_F mb σ0 σ → sm (mo_G m rr mb σ0) (k7 m x1 x2 x3 x4 σ) (K7 x1 x2 x3 x4 X)) (x1 : Int32) (x2 : Int32) (x4 : Int32) (t0 : Int32) (t1 : Int32) {σ : bh_S} {X : xs_S} (h : mo_R m rr mb σ X) (hF : mo_F mb σ0 σ) : sm (mo_G m rr mb σ0) (f_X10_owedOf_b49 N k7 m x1 x2 x4 t0 t1 σ) (g_X10_owedOf_b49 N K7 x1 x2 x4 t0 t1 X) := by
  unfold f_X10_owedOf_b49 g_X10_owedOf_b49
  exact hk7 x1 x2 (t1 + t0) (x4 + 1) σ X h hF
def g_X10_owedOf_b7 (N : Nat) : Nat → Int32 → Int32 → Int32 → Int32 → xs_S → Option (Int32 × xs_S)
  | 0, _, _, _, _, _ => none
  | n + 1, x1, x2, x3, x4, X =>
    if (X 7 0) ≤ x4 then
      (xs_ld 6 X 1 x1).bind fun v8 =>
      some ((v8 * x2) - (1000 * x3), X)
    else
      (xs_ld 16 X 27 x4).bind fun v14 =>
      (xs_ld 16 X 18 x4).bind fun v20 =>
      if v20 = x1 then
        (xs_ld 16 X 27 x4).bind fun v27 =>
        g_X10_owedOf_b49 N (g_X10_owedOf_b7 N n) x1 (x2 + v14) x4 v27 x3 X
      else
        g_X10_owedOf_b49 N (g_X10_owedOf_b7 N n) x1 (x2 + v14) x4 0 x3 X
set_option maxRecDepth 100000 in
theorem q_X10_owedOf_b7 {m mb : Nat} {rr : Nat → Nat} {σ0 : bh_S} (N : Nat) : ∀ (n : Nat) (x1 : Int32) (x2 : Int32) (x3 : Int32) (x4 : Int32) (σ : bh_S) (X : xs_S), mo_R m rr mb σ X → mo_F mb σ0 σ → sm (mo_G m rr mb σ0) (f_X10_owedOf_b7 N n m x1 x2 x3 x4 σ) (g_X10_owedOf_b7 N n x1 x2 x3 x4 X) := by
  intro n
  induction n with
  | zero => intro x1 x2 x3 x4 σ X h hF; exact sm_none
  | succ n ih =>
    intro x1 x2 x3 x4 σ X h hF
    unfold f_X10_owedOf_b7 g_X10_owedOf_b7
    refine mo_rdI h rfl ?_
    refine sm_ite (fun h1 => ?_) (fun h1 => ?_)
    · refine mo_rdR h rfl ?_
      refine sm_nn ?_
      refine mo_ldI (k := 1) (n := 6) h rfl rfl rfl (fun v8 h9 => ?_)
      exact sm_ret ⟨rfl, h, hF⟩
    · refine mo_rdR h rfl ?_
      refine sm_nn ?_
      refine mo_ldI (k := 27) (n := 16) h rfl rfl rfl (fun v14 h9 => ?_)
      refine mo_rdR h rfl ?_
      refine sm_nn ?_
      refine mo_ldI (k := 18) (n := 16) h rfl rfl rfl (fun v20 h9 => ?_)
      refine sm_ite (fun h2 => ?_) (fun h2 => ?_)
      · refine mo_rdR h rfl ?_
        refine sm_nn ?_
        refine mo_ldI (k := 27) (n := 16) h rfl rfl rfl (fun v27 h9 => ?_)
        exact q_X10_owedOf_b49 N _ (g_X10_owedOf_b7 N n) ih x1 (x2 + v14) x4 v27 x3 h hF
      · exact q_X10_owedOf_b49 N _ (g_X10_owedOf_b7 N n) ih x1 (x2 + v14) x4 0 x3 h hF
def g_X10_owedOf (N : Nat) (p1 : Int32) (X : xs_S) : Option (Int32 × xs_S) :=
  g_X10_owedOf_b7 N N p1 0 0 0 X
set_option maxRecDepth 100000 in
theorem q_X10_owedOf {m mb : Nat} {rr : Nat → Nat} {σ0 : bh_S} (N : Nat) (p1 : Int32) {σ : bh_S} {X : xs_S} (h : mo_R m rr mb σ X) (hF : mo_F mb σ0 σ) : sm (mo_G m rr mb σ0) (f_X10_owedOf N m p1 σ) (g_X10_owedOf N p1 X) := by
  unfold f_X10_owedOf g_X10_owedOf
  exact q_X10_owedOf_b7 N N p1 0 0 0 _ _ h hF
/-! BeetHouseModel.nextOf()I -/
def g_X10_nextOf_b54 (N : Nat) (k5 : Int32 → Int32 → xs_S → Option (Int32 × xs_S)) (k16 : Int32 → Int32 → Int32 → Int32 → xs_S → Option (Int32 × xs_S)) (x1 : Int32) (x2 : Int32) (x4 : Int32) (t0 : Int32) (X : xs_S) : Option (Int32 × xs_S) :=
  k16 x1 x2 t0 (x4 + 1) X
set_option maxRecDepth 100000 in
theorem q_X10_nextOf_b54 {m mb : Nat} {rr : Nat → Nat} {σ0 : bh_S} (N : Nat) (k5 : Nat → Int32 → Int32 → bh_S → Option (Int32 × bh_S)) (K5 : Int32 → Int32 → xs_S → Option (Int32 × xs_S)) (hk5 : ∀ (x1 : Int32) (x2 : Int32) (σ : bh_S) (X : xs_S), mo_R m rr mb σ X → mo_F mb σ0 σ → sm (mo_G m rr mb σ0) (k5 m x1 x2 σ) (K5 x1 x2 X)) (k16 : Nat → Int32 → Int32 → Int32 → Int32 → bh_S → Option (Int32 × bh_S)) (K16 : Int32 → Int32 → Int32 → Int32 → xs_S → Option (Int32 × xs_S)) (hk16 : ∀ (x1 : Int32) (x2 : Int32) (x3 : Int32) (x4 : Int32) (σ : bh_S) (X : xs_S), mo_R m rr mb σ X → mo_F mb σ0 σ → sm (mo_G m rr mb σ0) (k16 m x1 x2 x3 x4 σ) (K16 x1 x2 x3 x4 X)) (x1 : Int32) (x2 : Int32) (x4 : Int32) (t0 : Int32) {σ : bh_S} {X : xs_S} (h : mo_R m rr mb σ X) (hF : mo_F mb σ0 σ) : sm (mo_G m rr mb σ0) (f_X10_nextOf_b54 N k5 k16 m x1 x2 x4 t0 σ) (g_X10_nextOf_b54 N K5 K16 x1 x2 x4 t0 X) := by
  unfold f_X10_nextOf_b54 g_X10_nextOf_b54
  exact hk16 x1 x2 t0 (x4 + 1) σ X h hF
def g_X10_nextOf_b53 (N : Nat) (k5 : Int32 → Int32 → xs_S → Option (Int32 × xs_S)) (k16 : Int32 → Int32 → Int32 → Int32 → xs_S → Option (Int32 × xs_S)) (x1 : Int32) (x2 : Int32) (x4 : Int32) (X : xs_S) : Option (Int32 × xs_S) :=
  g_X10_nextOf_b54 N k5 k16 x1 x2 x4 0 X
set_option maxRecDepth 100000 in
theorem q_X10_nextOf_b53 {m mb : Nat} {rr : Nat → Nat} {σ0 : bh_S} (N : Nat) (k5 : Nat → Int32 → Int32 → bh_S → Option (Int32 × bh_S)) (K5 : Int32 → Int32 → xs_S → Option (Int32 × xs_S)) (hk5 : ∀ (x1 : Int32) (x2 : Int32) (σ : bh_S) (X : xs_S), mo_R m rr mb σ X → mo_F mb σ0 σ → sm (mo_G m rr mb σ0) (k5 m x1 x2 σ) (K5 x1 x2 X)) (k16 : Nat → Int32 → Int32 → Int32 → Int32 → bh_S → Option (Int32 × bh_S)) (K16 : Int32 → Int32 → Int32 → Int32 → xs_S → Option (Int32 × xs_S)) (hk16 : ∀ (x1 : Int32) (x2 : Int32) (x3 : Int32) (x4 : Int32) (σ : bh_S) (X : xs_S), mo_R m rr mb σ X → mo_F mb σ0 σ → sm (mo_G m rr mb σ0) (k16 m x1 x2 x3 x4 σ) (K16 x1 x2 x3 x4 X)) (x1 : Int32) (x2 : Int32) (x4 : Int32) {σ : bh_S} {X : xs_S} (h : mo_R m rr mb σ X) (hF : mo_F mb σ0 σ) : sm (mo_G m rr mb σ0) (f_X10_nextOf_b53 N k5 k16 m x1 x2 x4 σ) (g_X10_nextOf_b53 N K5 K16 x1 x2 x4 X) := by
  unfold f_X10_nextOf_b53 g_X10_nextOf_b53
  exact q_X10_nextOf_b54 N k5 K5 hk5 k16 K16 hk16 x1 x2 x4 0 h hF
def g_X10_nextOf_b84 (N : Nat) (k5 : Int32 → Int32 → xs_S → Option (Int32 × xs_S)) (x1 : Int32) (x2 : Int32) (X : xs_S) : Option (Int32 × xs_S) :=
  k5 x1 (x2 + 1) X
set_option maxRecDepth 100000 in
theorem q_X10_nextOf_b84 {m mb : Nat} {rr : Nat → Nat} {σ0 : bh_S} (N : Nat) (k5 : Nat → Int32 → Int32 → bh_S → Option (Int32 × bh_S)) (K5 : Int32 → Int32 → xs_S → Option (Int32 × xs_S)) (hk5 : ∀ (x1 : Int32) (x2 : Int32) (σ : bh_S) (X : xs_S), mo_R m rr mb σ X → mo_F mb σ0 σ → sm (mo_G m rr mb σ0) (k5 m x1 x2 σ) (K5 x1 x2 X)) (x1 : Int32) (x2 : Int32) {σ : bh_S} {X : xs_S} (h : mo_R m rr mb σ X) (hF : mo_F mb σ0 σ) : sm (mo_G m rr mb σ0) (f_X10_nextOf_b84 N k5 m x1 x2 σ) (g_X10_nextOf_b84 N K5 x1 x2 X) := by
  unfold f_X10_nextOf_b84 g_X10_nextOf_b84
  exact hk5 x1 (x2 + 1) σ X h hF
def g_X10_nextOf_b82 (N : Nat) (k5 : Int32 → Int32 → xs_S → Option (Int32 × xs_S)) (x2 : Int32) (X : xs_S) : Option (Int32 × xs_S) :=
  g_X10_nextOf_b84 N k5 x2 x2 X
set_option maxRecDepth 100000 in
theorem q_X10_nextOf_b82 {m mb : Nat} {rr : Nat → Nat} {σ0 : bh_S} (N : Nat) (k5 : Nat → Int32 → Int32 → bh_S → Option (Int32 × bh_S)) (K5 : Int32 → Int32 → xs_S → Option (Int32 × xs_S)) (hk5 : ∀ (x1 : Int32) (x2 : Int32) (σ : bh_S) (X : xs_S), mo_R m rr mb σ X → mo_F mb σ0 σ → sm (mo_G m rr mb σ0) (k5 m x1 x2 σ) (K5 x1 x2 X)) (x2 : Int32) {σ : bh_S} {X : xs_S} (h : mo_R m rr mb σ X) (hF : mo_F mb σ0 σ) : sm (mo_G m rr mb σ0) (f_X10_nextOf_b82 N k5 m x2 σ) (g_X10_nextOf_b82 N K5 x2 X) := by
  unfold f_X10_nextOf_b82 g_X10_nextOf_b82
  exact q_X10_nextOf_b84 N k5 K5 hk5 x2 x2 h hF
def g_X10_nextOf_b61 (N : Nat) (k5 : Int32 → Int32 → xs_S → Option (Int32 × xs_S)) (x1 : Int32) (x2 : Int32) (x3 : Int32) (X : xs_S) : Option (Int32 × xs_S) :=
  if x3 = 0 then
    g_X10_nextOf_b84 N k5 x1 x2 X
  else
    if x1 < 0 then
      g_X10_nextOf_b82 N k5 x2 X
    else
      xs_bnd (g_X10_owedOf N x2 X) fun v4 X5 =>
      xs_bnd (g_X10_owedOf N x1 X5) fun v8 X9 =>
      if v4 ≤ v8 then
        g_X10_nextOf_b84 N k5 x1 x2 X9
      else
        g_X10_nextOf_b82 N k5 x2 X9
set_option maxRecDepth 100000 in
theorem q_X10_nextOf_b61 {m mb : Nat} {rr : Nat → Nat} {σ0 : bh_S} (N : Nat) (k5 : Nat → Int32 → Int32 → bh_S → Option (Int32 × bh_S)) (K5 : Int32 → Int32 → xs_S → Option (Int32 × xs_S)) (hk5 : ∀ (x1 : Int32) (x2 : Int32) (σ : bh_S) (X : xs_S), mo_R m rr mb σ X → mo_F mb σ0 σ → sm (mo_G m rr mb σ0) (k5 m x1 x2 σ) (K5 x1 x2 X)) (x1 : Int32) (x2 : Int32) (x3 : Int32) {σ : bh_S} {X : xs_S} (h : mo_R m rr mb σ X) (hF : mo_F mb σ0 σ) : sm (mo_G m rr mb σ0) (f_X10_nextOf_b61 N k5 m x1 x2 x3 σ) (g_X10_nextOf_b61 N K5 x1 x2 x3 X) := by
  unfold f_X10_nextOf_b61 g_X10_nextOf_b61
  refine sm_ite (fun h1 => ?_) (fun h1 => ?_)
  · exact q_X10_nextOf_b84 N k5 K5 hk5 x1 x2 h hF
  · refine sm_ite (fun h2 => ?_) (fun h2 => ?_)
    · exact q_X10_nextOf_b82 N k5 K5 hk5 x2 h hF
    · refine mo_ck h ?_
      refine sm_call (q_X10_owedOf N x2  h hF) ?_
      rintro v4 σ5 _ X5 ⟨rfl, h, hF⟩
      refine mo_ck h ?_
      refine sm_call (q_X10_owedOf N x1  h hF) ?_
      rintro v8 σ9 _ X9 ⟨rfl, h, hF⟩
      refine sm_ite (fun h3 => ?_) (fun h3 => ?_)
      · exact q_X10_nextOf_b84 N k5 K5 hk5 x1 x2 h hF
      · exact q_X10_nextOf_b82 N k5 K5 hk5 x2 h hF
def g_X10_nextOf_b16 (N : Nat) (k5 : Int32 → Int32 → xs_S → Option (Int32 × xs_S)) : Nat → Int32 → Int32 → Int32 → Int32 → xs_S → Option (Int32 × xs_S)
  | 0, _, _, _, _, _ => none
  | n + 1, x1, x2, x3, x4, X =>
    if (X 7 0) ≤ x4 then
      g_X10_nextOf_b61 N k5 x1 x2 x3 X
    else
      if x3 = 0 then
        (xs_ld 16 X 18 x4).bind fun v9 =>
        if v9 = x2 then
          xs_bnd (g_X10_isLeft N x4 X) fun v13 X14 =>
          if v13 = 0 then
            g_X10_nextOf_b53 N k5 (g_X10_nextOf_b16 N k5 n) x1 x2 x4 X14
          else
            g_X10_nextOf_b54 N k5 (g_X10_nextOf_b16 N k5 n) x1 x2 x4 1 X14
        else
          g_X10_nextOf_b53 N k5 (g_X10_nextOf_b16 N k5 n) x1 x2 x4 X
      else
        g_X10_nextOf_b61 N k5 x1 x2 x3 X
set_option maxRecDepth 100000 in
theorem q_X10_nextOf_b16 {m mb : Nat} {rr : Nat → Nat} {σ0 : bh_S} (N : Nat) (k5 : Nat → Int32 → Int32 → bh_S → Option (Int32 × bh_S)) (K5 : Int32 → Int32 → xs_S → Option (Int32 × xs_S)) (hk5 : ∀ (x1 : Int32) (x2 : Int32) (σ : bh_S) (X : xs_S), mo_R m rr mb σ X → mo_F mb σ0 σ → sm (mo_G m rr mb σ0) (k5 m x1 x2 σ) (K5 x1 x2 X)) : ∀ (n : Nat) (x1 : Int32) (x2 : Int32) (x3 : Int32) (x4 : Int32) (σ : bh_S) (X : xs_S), mo_R m rr mb σ X → mo_F mb σ0 σ → sm (mo_G m rr mb σ0) (f_X10_nextOf_b16 N k5 n m x1 x2 x3 x4 σ) (g_X10_nextOf_b16 N K5 n x1 x2 x3 x4 X) := by
  intro n
  induction n with
  | zero => intro x1 x2 x3 x4 σ X h hF; exact sm_none
  | succ n ih =>
    intro x1 x2 x3 x4 σ X h hF
    unfold f_X10_nextOf_b16 g_X10_nextOf_b16
    refine mo_rdI h rfl ?_
    refine sm_ite (fun h1 => ?_) (fun h1 => ?_)
    · exact q_X10_nextOf_b61 N k5 K5 hk5 x1 x2 x3 h hF
    · refine sm_ite (fun h2 => ?_) (fun h2 => ?_)
      · refine mo_rdR h rfl ?_
        refine sm_nn ?_
        refine mo_ldI (k := 18) (n := 16) h rfl rfl rfl (fun v9 h9 => ?_)
        refine sm_ite (fun h3 => ?_) (fun h3 => ?_)
        · refine mo_ck h ?_
          refine sm_call (q_X10_isLeft N x4  h hF) ?_
          rintro v13 σ14 _ X14 ⟨rfl, h, hF⟩
          refine sm_ite (fun h4 => ?_) (fun h4 => ?_)
          · exact q_X10_nextOf_b53 N k5 K5 hk5 _ (g_X10_nextOf_b16 N K5 n) ih x1 x2 x4 h hF
          · exact q_X10_nextOf_b54 N k5 K5 hk5 _ (g_X10_nextOf_b16 N K5 n) ih x1 x2 x4 1 h hF
        · exact q_X10_nextOf_b53 N k5 K5 hk5 _ (g_X10_nextOf_b16 N K5 n) ih x1 x2 x4 h hF
      · exact q_X10_nextOf_b61 N k5 K5 hk5 x1 x2 x3 h hF
def g_X10_nextOf_b5 (N : Nat) : Nat → Int32 → Int32 → xs_S → Option (Int32 × xs_S)
  | 0, _, _, _ => none
  | n + 1, x1, x2, X =>
    if 6 ≤ x2 then
      some (x1, X)
    else
      g_X10_nextOf_b16 N (g_X10_nextOf_b5 N n) N x1 x2 0 0 X
set_option maxRecDepth 100000 in
theorem q_X10_nextOf_b5 {m mb : Nat} {rr : Nat → Nat} {σ0 : bh_S} (N : Nat) : ∀ (n : Nat) (x1 : Int32) (x2 : Int32) (σ : bh_S) (X : xs_S), mo_R m rr mb σ X → mo_F mb σ0 σ → sm (mo_G m rr mb σ0) (f_X10_nextOf_b5 N n m x1 x2 σ) (g_X10_nextOf_b5 N n x1 x2 X) := by
  intro n
  induction n with
  | zero => intro x1 x2 σ X h hF; exact sm_none
  | succ n ih =>
    intro x1 x2 σ X h hF
    unfold f_X10_nextOf_b5 g_X10_nextOf_b5
    refine sm_ite (fun h1 => ?_) (fun h1 => ?_)
    · exact sm_ret ⟨rfl, h, hF⟩
    · exact q_X10_nextOf_b16 N _ (g_X10_nextOf_b5 N n) ih N x1 x2 0 0 _ _ h hF
def g_X10_nextOf (N : Nat)  (X : xs_S) : Option (Int32 × xs_S) :=
  g_X10_nextOf_b5 N N (-9) 0 X
set_option maxRecDepth 100000 in
theorem q_X10_nextOf {m mb : Nat} {rr : Nat → Nat} {σ0 : bh_S} (N : Nat)  {σ : bh_S} {X : xs_S} (h : mo_R m rr mb σ X) (hF : mo_F mb σ0 σ) : sm (mo_G m rr mb σ0) (f_X10_nextOf N m σ) (g_X10_nextOf N  X) := by
  unfold f_X10_nextOf g_X10_nextOf
  exact q_X10_nextOf_b5 N N (-9) 0 _ _ h hF
/-! BeetHouseModel.turn()I -/
def g_X10_turn_b103 (N : Nat) (k51 : Int32 → Int32 → Int32 → Int32 → xs_S → Option (Int32 × xs_S)) (x1 : Int32) (x2 : Int32) (x3 : Int32) (x4 : Int32) (X : xs_S) : Option (Int32 × xs_S) :=
  k51 x1 x2 x3 (x4 + 1) X
set_option maxRecDepth 100000 in
theorem q_X10_turn_b103 {m mb : Nat} {rr : Nat → Nat} {σ0 : bh_S} (N : Nat) (k51 : Nat → Int32 → Int32 → Int32 → Int32 → bh_S → Option (Int32 × bh_S)) (K51 : Int32 → Int32 → Int32 → Int32 → xs_S → Option (Int32 × xs_S)) (hk51 : ∀ (x1 : Int32) (x2 : Int32) (x3 : Int32) (x4 : Int32) (σ : bh_S) (X : xs_S), mo_R m rr mb σ X → mo_F mb σ0 σ → sm (mo_G m rr mb σ0) (k51 m x1 x2 x3 x4 σ) (K51 x1 x2 x3 x4 X)) (x1 : Int32) (x2 : Int32) (x3 : Int32) (x4 : Int32) {σ : bh_S} {X : xs_S} (h : mo_R m rr mb σ X) (hF : mo_F mb σ0 σ) : sm (mo_G m rr mb σ0) (f_X10_turn_b103 N k51 m x1 x2 x3 x4 σ) (g_X10_turn_b103 N K51 x1 x2 x3 x4 X) := by
  unfold f_X10_turn_b103 g_X10_turn_b103
  exact hk51 x1 x2 x3 (x4 + 1) σ X h hF
def g_X10_turn_b100 (N : Nat) (k51 : Int32 → Int32 → Int32 → Int32 → xs_S → Option (Int32 × xs_S)) (x1 : Int32) (x2 : Int32) (x4 : Int32) (X : xs_S) : Option (Int32 × xs_S) :=
  g_X10_turn_b103 N k51 x1 x2 x4 x4 X
set_option maxRecDepth 100000 in
theorem q_X10_turn_b100 {m mb : Nat} {rr : Nat → Nat} {σ0 : bh_S} (N : Nat) (k51 : Nat → Int32 → Int32 → Int32 → Int32 → bh_S → Option (Int32 × bh_S)) (K51 : Int32 → Int32 → Int32 → Int32 → xs_S → Option (Int32 × xs_S)) (hk51 : ∀ (x1 : Int32) (x2 : Int32) (x3 : Int32) (x4 : Int32) (σ : bh_S) (X : xs_S), mo_R m rr mb σ X → mo_F mb σ0 σ → sm (mo_G m rr mb σ0) (k51 m x1 x2 x3 x4 σ) (K51 x1 x2 x3 x4 X)) (x1 : Int32) (x2 : Int32) (x4 : Int32) {σ : bh_S} {X : xs_S} (h : mo_R m rr mb σ X) (hF : mo_F mb σ0 σ) : sm (mo_G m rr mb σ0) (f_X10_turn_b100 N k51 m x1 x2 x4 σ) (g_X10_turn_b100 N K51 x1 x2 x4 X) := by
  unfold f_X10_turn_b100 g_X10_turn_b100
  exact q_X10_turn_b103 N k51 K51 hk51 x1 x2 x4 x4 h hF
def g_X10_turn_b51 (N : Nat) : Nat → Int32 → Int32 → Int32 → Int32 → xs_S → Option (Int32 × xs_S)
  | 0, _, _, _, _, _ => none
  | n + 1, x1, x2, x3, x4, X =>
    if (X 7 0) ≤ x4 then
      if x3 < 0 then
        some (x3, X)
      else
        xs_bnd (g_X10_goes x1 x3 X) fun v6 X7 =>
        some (x3, X7)
    else
      (xs_ld 16 X 18 x4).bind fun v13 =>
      if v13 = x2 then
        xs_bnd (g_X10_isLeft N x4 X) fun v17 X18 =>
        if v17 = 0 then
          g_X10_turn_b103 N (g_X10_turn_b51 N n) x1 x2 x3 x4 X18
        else
          if x3 < 0 then
            g_X10_turn_b100 N (g_X10_turn_b51 N n) x1 x2 x4 X18
          else
            (xs_ld 16 X18 23 x4).bind fun v26 =>
            (xs_ld 16 X18 23 x3).bind fun v32 =>
            if v26 ≤ v32 then
              g_X10_turn_b103 N (g_X10_turn_b51 N n) x1 x2 x3 x4 X18
            else
              g_X10_turn_b100 N (g_X10_turn_b51 N n) x1 x2 x4 X18
      else
        g_X10_turn_b103 N (g_X10_turn_b51 N n) x1 x2 x3 x4 X
set_option maxRecDepth 100000 in
theorem q_X10_turn_b51 {m mb : Nat} {rr : Nat → Nat} {σ0 : bh_S} (N : Nat) : ∀ (n : Nat) (x1 : Int32) (x2 : Int32) (x3 : Int32) (x4 : Int32) (σ : bh_S) (X : xs_S), mo_R m rr mb σ X → mo_F mb σ0 σ → sm (mo_G m rr mb σ0) (f_X10_turn_b51 N n m x1 x2 x3 x4 σ) (g_X10_turn_b51 N n x1 x2 x3 x4 X) := by
  intro n
  induction n with
  | zero => intro x1 x2 x3 x4 σ X h hF; exact sm_none
  | succ n ih =>
    intro x1 x2 x3 x4 σ X h hF
    unfold f_X10_turn_b51 g_X10_turn_b51
    refine mo_rdI h rfl ?_
    refine sm_ite (fun h1 => ?_) (fun h1 => ?_)
    · refine sm_ite (fun h2 => ?_) (fun h2 => ?_)
      · exact sm_ret ⟨rfl, h, hF⟩
      · refine mo_ck h ?_
        refine sm_call (q_X10_goes x1 x3  h hF) ?_
        rintro v6 σ7 _ X7 ⟨rfl, h, hF⟩
        exact sm_ret ⟨rfl, h, hF⟩
    · refine mo_rdR h rfl ?_
      refine sm_nn ?_
      refine mo_ldI (k := 18) (n := 16) h rfl rfl rfl (fun v13 h9 => ?_)
      refine sm_ite (fun h3 => ?_) (fun h3 => ?_)
      · refine mo_ck h ?_
        refine sm_call (q_X10_isLeft N x4  h hF) ?_
        rintro v17 σ18 _ X18 ⟨rfl, h, hF⟩
        refine sm_ite (fun h4 => ?_) (fun h4 => ?_)
        · exact q_X10_turn_b103 N _ (g_X10_turn_b51 N n) ih x1 x2 x3 x4 h hF
        · refine sm_ite (fun h5 => ?_) (fun h5 => ?_)
          · exact q_X10_turn_b100 N _ (g_X10_turn_b51 N n) ih x1 x2 x4 h hF
          · refine mo_rdR h rfl ?_
            refine sm_nn ?_
            refine mo_ldI (k := 23) (n := 16) h rfl rfl rfl (fun v26 h9 => ?_)
            refine mo_rdR h rfl ?_
            refine sm_nn ?_
            refine mo_ldI (k := 23) (n := 16) h rfl rfl rfl (fun v32 h9 => ?_)
            refine sm_ite (fun h6 => ?_) (fun h6 => ?_)
            · exact q_X10_turn_b103 N _ (g_X10_turn_b51 N n) ih x1 x2 x3 x4 h hF
            · exact q_X10_turn_b100 N _ (g_X10_turn_b51 N n) ih x1 x2 x4 h hF
      · exact q_X10_turn_b103 N _ (g_X10_turn_b51 N n) ih x1 x2 x3 x4 h hF
def g_X10_turn_b25 (N : Nat) (x1 : Int32) (X : xs_S) : Option (Int32 × xs_S) :=
  if x1 = (X 8 0) then
    xs_bnd (g_X10_refuse (-3) X) fun v9 X10 =>
    some (v9, X10)
  else
    xs_bnd (g_X10_nextOf N  X) fun v5 X6 =>
    g_X10_turn_b51 N N x1 v5 (-9) 0 X6
set_option maxRecDepth 100000 in
theorem q_X10_turn_b25 {m mb : Nat} {rr : Nat → Nat} {σ0 : bh_S} (N : Nat) (x1 : Int32) {σ : bh_S} {X : xs_S} (h : mo_R m rr mb σ X) (hF : mo_F mb σ0 σ) : sm (mo_G m rr mb σ0) (f_X10_turn_b25 N m x1 σ) (g_X10_turn_b25 N x1 X) := by
  unfold f_X10_turn_b25 g_X10_turn_b25
  refine mo_rdI h rfl ?_
  refine sm_ite (fun h1 => ?_) (fun h1 => ?_)
  · refine mo_ck h ?_
    refine sm_call (q_X10_refuse (-3)  h hF) ?_
    rintro v9 σ10 _ X10 ⟨rfl, h, hF⟩
    exact sm_ret ⟨rfl, h, hF⟩
  · refine mo_ck h ?_
    refine sm_call (q_X10_nextOf N  h hF) ?_
    rintro v5 σ6 _ X6 ⟨rfl, h, hF⟩
    exact q_X10_turn_b51 N N x1 v5 (-9) 0 _ _ h hF
def g_X10_turn_b2 (N : Nat) : Nat → Int32 → xs_S → Option (Int32 × xs_S)
  | 0, _, _ => none
  | n + 1, x1, X =>
    if (X 8 0) ≤ x1 then
      g_X10_turn_b25 N x1 X
    else
      (xs_ld 8 X 34 x1).bind fun v8 =>
      if v8 = 0 then
        g_X10_turn_b25 N x1 X
      else
        g_X10_turn_b2 N n (x1 + 1) X
set_option maxRecDepth 100000 in
theorem q_X10_turn_b2 {m mb : Nat} {rr : Nat → Nat} {σ0 : bh_S} (N : Nat) : ∀ (n : Nat) (x1 : Int32) (σ : bh_S) (X : xs_S), mo_R m rr mb σ X → mo_F mb σ0 σ → sm (mo_G m rr mb σ0) (f_X10_turn_b2 N n m x1 σ) (g_X10_turn_b2 N n x1 X) := by
  intro n
  induction n with
  | zero => intro x1 σ X h hF; exact sm_none
  | succ n ih =>
    intro x1 σ X h hF
    unfold f_X10_turn_b2 g_X10_turn_b2
    refine mo_rdI h rfl ?_
    refine sm_ite (fun h1 => ?_) (fun h1 => ?_)
    · exact q_X10_turn_b25 N x1 h hF
    · refine mo_rdR h rfl ?_
      refine sm_nn ?_
      refine mo_ldI (k := 34) (n := 8) h rfl rfl rfl (fun v8 h9 => ?_)
      refine sm_ite (fun h2 => ?_) (fun h2 => ?_)
      · exact q_X10_turn_b25 N x1 h hF
      · exact ih (x1 + 1) σ X h hF
def g_X10_turn (N : Nat)  (X : xs_S) : Option (Int32 × xs_S) :=
  g_X10_turn_b2 N N 0 X
set_option maxRecDepth 100000 in
theorem q_X10_turn {m mb : Nat} {rr : Nat → Nat} {σ0 : bh_S} (N : Nat)  {σ : bh_S} {X : xs_S} (h : mo_R m rr mb σ X) (hF : mo_F mb σ0 σ) : sm (mo_G m rr mb σ0) (f_X10_turn N m σ) (g_X10_turn N  X) := by
  unfold f_X10_turn g_X10_turn
  exact q_X10_turn_b2 N N 0 _ _ h hF
/-! BeetHouseModel.works(II)I -/
def g_X10_works_b65 (x1 : Int32) (x2 : Int32) (t0 : Int32) (X : xs_S) : Option (Int32 × xs_S) :=
  if x1 = 0 then
    xs_lt (xs_up X 9 0 x2) fun X4 =>
    some (t0, X4)
  else
    xs_lt (xs_up X 10 0 x2) fun X2 =>
    some (t0, X2)
set_option maxRecDepth 100000 in
theorem q_X10_works_b65 {m mb : Nat} {rr : Nat → Nat} {σ0 : bh_S} (x1 : Int32) (x2 : Int32) (t0 : Int32) {σ : bh_S} {X : xs_S} (h : mo_R m rr mb σ X) (hF : mo_F mb σ0 σ) : sm (mo_G m rr mb σ0) (f_X10_works_b65 m x1 x2 t0 σ) (g_X10_works_b65 x1 x2 t0 X) := by
  unfold f_X10_works_b65 g_X10_works_b65
  refine sm_ite (fun h1 => ?_) (fun h1 => ?_)
  · refine mo_wrI h hF rfl (fun σ4 X4 h9 h hF => ?_)
    exact sm_ret ⟨rfl, h, hF⟩
  · refine mo_wrI h hF rfl (fun σ2 X2 h9 h hF => ?_)
    exact sm_ret ⟨rfl, h, hF⟩
def g_X10_works_b40 (x1 : Int32) (x2 : Int32) (t0 : Int32) (t1 : Int32) (X : xs_S) : Option (Int32 × xs_S) :=
  if t1 ≤ t0 then
    if x1 = 0 then
      g_X10_works_b65 x1 x2 (X 9 0) X
    else
      g_X10_works_b65 x1 x2 (X 10 0) X
  else
    xs_bnd (g_X10_refuse (-6) X) fun v8 X9 =>
    some (v8, X9)
set_option maxRecDepth 100000 in
theorem q_X10_works_b40 {m mb : Nat} {rr : Nat → Nat} {σ0 : bh_S} (x1 : Int32) (x2 : Int32) (t0 : Int32) (t1 : Int32) {σ : bh_S} {X : xs_S} (h : mo_R m rr mb σ X) (hF : mo_F mb σ0 σ) : sm (mo_G m rr mb σ0) (f_X10_works_b40 m x1 x2 t0 t1 σ) (g_X10_works_b40 x1 x2 t0 t1 X) := by
  unfold f_X10_works_b40 g_X10_works_b40
  refine sm_ite (fun h1 => ?_) (fun h1 => ?_)
  · refine sm_ite (fun h2 => ?_) (fun h2 => ?_)
    · refine mo_rdI h rfl ?_
      exact q_X10_works_b65  x1 x2 (X 9 0) h hF
    · refine mo_rdI h rfl ?_
      exact q_X10_works_b65  x1 x2 (X 10 0) h hF
  · refine mo_ck h ?_
    refine sm_call (q_X10_refuse (-6)  h hF) ?_
    rintro v8 σ9 _ X9 ⟨rfl, h, hF⟩
    exact sm_ret ⟨rfl, h, hF⟩
def g_X10_works (p1 : Int32) (p2 : Int32) (X : xs_S) : Option (Int32 × xs_S) :=
  xs_bnd (g_X10_isIn p1 2 X) fun v1 X2 =>
  if v1 = 0 then
    xs_bnd (g_X10_refuse (-2) X2) fun v12 X13 =>
    some (v12, X13)
  else
    if 0 ≤ p2 then
      if p1 = 0 then
        g_X10_works_b40 p1 p2 3000 p2 X2
      else
        g_X10_works_b40 p1 p2 300 p2 X2
    else
      xs_bnd (g_X10_refuse (-4) X2) fun v8 X9 =>
      some (v8, X9)
set_option maxRecDepth 100000 in
theorem q_X10_works {m mb : Nat} {rr : Nat → Nat} {σ0 : bh_S} (p1 : Int32) (p2 : Int32) {σ : bh_S} {X : xs_S} (h : mo_R m rr mb σ X) (hF : mo_F mb σ0 σ) : sm (mo_G m rr mb σ0) (f_X10_works m p1 p2 σ) (g_X10_works p1 p2 X) := by
  unfold f_X10_works g_X10_works
  refine sm_call (q_X10_isIn p1 2  h hF) ?_
  rintro v1 σ2 _ X2 ⟨rfl, h, hF⟩
  refine sm_ite (fun h1 => ?_) (fun h1 => ?_)
  · refine mo_ck h ?_
    refine sm_call (q_X10_refuse (-2)  h hF) ?_
    rintro v12 σ13 _ X13 ⟨rfl, h, hF⟩
    exact sm_ret ⟨rfl, h, hF⟩
  · refine sm_ite (fun h2 => ?_) (fun h2 => ?_)
    · refine sm_ite (fun h3 => ?_) (fun h3 => ?_)
      · exact q_X10_works_b40  p1 p2 3000 p2 h hF
      · exact q_X10_works_b40  p1 p2 300 p2 h hF
    · refine mo_ck h ?_
      refine sm_call (q_X10_refuse (-4)  h hF) ?_
      rintro v8 σ9 _ X9 ⟨rfl, h, hF⟩
      exact sm_ret ⟨rfl, h, hF⟩
/-! BeetHouseModel.table(II)I -/
def g_X10_table (p1 : Int32) (p2 : Int32) (X : xs_S) : Option (Int32 × xs_S) :=
  xs_bnd (g_X10_isIn p1 10 X) fun v1 X2 =>
  if v1 = 0 then
    xs_bnd (g_X10_refuse (-2) X2) fun v28 X29 =>
    some (v28, X29)
  else
    if 0 ≤ p2 then
      if p2 ≤ 100 then
        (xs_ld 10 X2 4 p1).bind fun v11 =>
        (xs_st 10 X2 4 p1 p2).bind fun X17 =>
        some (v11, X17)
      else
        xs_bnd (g_X10_refuse (-6) X2) fun v20 X21 =>
        some (v20, X21)
    else
      xs_bnd (g_X10_refuse (-4) X2) fun v24 X25 =>
      some (v24, X25)
set_option maxRecDepth 100000 in
theorem q_X10_table {m mb : Nat} {rr : Nat → Nat} {σ0 : bh_S} (p1 : Int32) (p2 : Int32) {σ : bh_S} {X : xs_S} (h : mo_R m rr mb σ X) (hF : mo_F mb σ0 σ) : sm (mo_G m rr mb σ0) (f_X10_table m p1 p2 σ) (g_X10_table p1 p2 X) := by
  unfold f_X10_table g_X10_table
  refine sm_call (q_X10_isIn p1 10  h hF) ?_
  rintro v1 σ2 _ X2 ⟨rfl, h, hF⟩
  refine sm_ite (fun h1 => ?_) (fun h1 => ?_)
  · refine mo_ck h ?_
    refine sm_call (q_X10_refuse (-2)  h hF) ?_
    rintro v28 σ29 _ X29 ⟨rfl, h, hF⟩
    exact sm_ret ⟨rfl, h, hF⟩
  · refine sm_ite (fun h2 => ?_) (fun h2 => ?_)
    · refine sm_ite (fun h3 => ?_) (fun h3 => ?_)
      · refine mo_rdR h rfl ?_
        refine sm_nn ?_
        refine mo_ldI (k := 4) (n := 10) h rfl rfl rfl (fun v11 h9 => ?_)
        refine mo_rdR h rfl ?_
        refine sm_nn ?_
        refine mo_stI (k := 4) (n := 10) h hF rfl rfl rfl (fun σ17 X17 h9 h hF => ?_)
        exact sm_ret ⟨rfl, h, hF⟩
      · refine mo_ck h ?_
        refine sm_call (q_X10_refuse (-6)  h hF) ?_
        rintro v20 σ21 _ X21 ⟨rfl, h, hF⟩
        exact sm_ret ⟨rfl, h, hF⟩
    · refine mo_ck h ?_
      refine sm_call (q_X10_refuse (-4)  h hF) ?_
      rintro v24 σ25 _ X25 ⟨rfl, h, hF⟩
      exact sm_ret ⟨rfl, h, hF⟩
/-! BeetHouseModel.warmth(II)I -/
def g_X10_warmth (p1 : Int32) (p2 : Int32) (X : xs_S) : Option (Int32 × xs_S) :=
  xs_bnd (g_X10_isIn p1 100 X) fun v1 X2 =>
  if v1 = 0 then
    xs_bnd (g_X10_refuse (-1) X2) fun v28 X29 =>
    some (v28, X29)
  else
    if 0 ≤ p2 then
      if p2 ≤ 9 then
        (xs_ld 100 X2 3 p1).bind fun v11 =>
        (xs_st 100 X2 3 p1 p2).bind fun X17 =>
        some (v11, X17)
      else
        xs_bnd (g_X10_refuse (-6) X2) fun v20 X21 =>
        some (v20, X21)
    else
      xs_bnd (g_X10_refuse (-4) X2) fun v24 X25 =>
      some (v24, X25)
set_option maxRecDepth 100000 in
theorem q_X10_warmth {m mb : Nat} {rr : Nat → Nat} {σ0 : bh_S} (p1 : Int32) (p2 : Int32) {σ : bh_S} {X : xs_S} (h : mo_R m rr mb σ X) (hF : mo_F mb σ0 σ) : sm (mo_G m rr mb σ0) (f_X10_warmth m p1 p2 σ) (g_X10_warmth p1 p2 X) := by
  unfold f_X10_warmth g_X10_warmth
  refine sm_call (q_X10_isIn p1 100  h hF) ?_
  rintro v1 σ2 _ X2 ⟨rfl, h, hF⟩
  refine sm_ite (fun h1 => ?_) (fun h1 => ?_)
  · refine mo_ck h ?_
    refine sm_call (q_X10_refuse (-1)  h hF) ?_
    rintro v28 σ29 _ X29 ⟨rfl, h, hF⟩
    exact sm_ret ⟨rfl, h, hF⟩
  · refine sm_ite (fun h2 => ?_) (fun h2 => ?_)
    · refine sm_ite (fun h3 => ?_) (fun h3 => ?_)
      · refine mo_rdR h rfl ?_
        refine sm_nn ?_
        refine mo_ldI (k := 3) (n := 100) h rfl rfl rfl (fun v11 h9 => ?_)
        refine mo_rdR h rfl ?_
        refine sm_nn ?_
        refine mo_stI (k := 3) (n := 100) h hF rfl rfl rfl (fun σ17 X17 h9 h hF => ?_)
        exact sm_ret ⟨rfl, h, hF⟩
      · refine mo_ck h ?_
        refine sm_call (q_X10_refuse (-6)  h hF) ?_
        rintro v20 σ21 _ X21 ⟨rfl, h, hF⟩
        exact sm_ret ⟨rfl, h, hF⟩
    · refine mo_ck h ?_
      refine sm_call (q_X10_refuse (-4)  h hF) ?_
      rintro v24 σ25 _ X25 ⟨rfl, h, hF⟩
      exact sm_ret ⟨rfl, h, hF⟩
/-! BeetHouseModel.price(II)I -/
def g_X10_price (p1 : Int32) (p2 : Int32) (X : xs_S) : Option (Int32 × xs_S) :=
  xs_bnd (g_X10_isIn p1 10 X) fun v1 X2 =>
  if v1 = 0 then
    xs_bnd (g_X10_refuse (-2) X2) fun v28 X29 =>
    some (v28, X29)
  else
    if 0 ≤ p2 then
      if p2 ≤ 1000 then
        (xs_ld 10 X2 5 p1).bind fun v11 =>
        (xs_st 10 X2 5 p1 p2).bind fun X17 =>
        some (v11, X17)
      else
        xs_bnd (g_X10_refuse (-6) X2) fun v20 X21 =>
        some (v20, X21)
    else
      xs_bnd (g_X10_refuse (-4) X2) fun v24 X25 =>
      some (v24, X25)
set_option maxRecDepth 100000 in
theorem q_X10_price {m mb : Nat} {rr : Nat → Nat} {σ0 : bh_S} (p1 : Int32) (p2 : Int32) {σ : bh_S} {X : xs_S} (h : mo_R m rr mb σ X) (hF : mo_F mb σ0 σ) : sm (mo_G m rr mb σ0) (f_X10_price m p1 p2 σ) (g_X10_price p1 p2 X) := by
  unfold f_X10_price g_X10_price
  refine sm_call (q_X10_isIn p1 10  h hF) ?_
  rintro v1 σ2 _ X2 ⟨rfl, h, hF⟩
  refine sm_ite (fun h1 => ?_) (fun h1 => ?_)
  · refine mo_ck h ?_
    refine sm_call (q_X10_refuse (-2)  h hF) ?_
    rintro v28 σ29 _ X29 ⟨rfl, h, hF⟩
    exact sm_ret ⟨rfl, h, hF⟩
  · refine sm_ite (fun h2 => ?_) (fun h2 => ?_)
    · refine sm_ite (fun h3 => ?_) (fun h3 => ?_)
      · refine mo_rdR h rfl ?_
        refine sm_nn ?_
        refine mo_ldI (k := 5) (n := 10) h rfl rfl rfl (fun v11 h9 => ?_)
        refine mo_rdR h rfl ?_
        refine sm_nn ?_
        refine mo_stI (k := 5) (n := 10) h hF rfl rfl rfl (fun σ17 X17 h9 h hF => ?_)
        exact sm_ret ⟨rfl, h, hF⟩
      · refine mo_ck h ?_
        refine sm_call (q_X10_refuse (-6)  h hF) ?_
        rintro v20 σ21 _ X21 ⟨rfl, h, hF⟩
        exact sm_ret ⟨rfl, h, hF⟩
    · refine mo_ck h ?_
      refine sm_call (q_X10_refuse (-4)  h hF) ?_
      rintro v24 σ25 _ X25 ⟨rfl, h, hF⟩
      exact sm_ret ⟨rfl, h, hF⟩
/-! BeetHouseModel.cover(IZ)I -/
def g_X10_cover_b32  (X : xs_S) : Option (Int32 × xs_S) :=
  xs_bnd (g_X10_refuse (-3) X) fun v2 X3 =>
  some (v2, X3)
set_option maxRecDepth 100000 in
theorem q_X10_cover_b32 {m mb : Nat} {rr : Nat → Nat} {σ0 : bh_S}  {σ : bh_S} {X : xs_S} (h : mo_R m rr mb σ X) (hF : mo_F mb σ0 σ) : sm (mo_G m rr mb σ0) (f_X10_cover_b32 m σ) (g_X10_cover_b32  X) := by
  unfold f_X10_cover_b32 g_X10_cover_b32
  refine mo_ck h ?_
  refine sm_call (q_X10_refuse (-3)  h hF) ?_
  rintro v2 σ3 _ X3 ⟨rfl, h, hF⟩
  exact sm_ret ⟨rfl, h, hF⟩
def g_X10_cover (p1 : Int32) (p2 : Int32) (X : xs_S) : Option (Int32 × xs_S) :=
  xs_bnd (g_X10_isField p1 X) fun v2 X3 =>
  if v2 = 0 then
    xs_bnd (g_X10_refuse (-1) X3) fun v34 X35 =>
    some (v34, X35)
  else
    (xs_ld 16 X3 22 p1).bind fun v10 =>
    if v10 = 0 then
      g_X10_cover_b32  X3
    else
      (xs_ld 16 X3 30 p1).bind fun v17 =>
      if v17 = 0 then
        (xs_ld 16 X3 29 p1).bind fun v24 =>
        if v24 = p2 then
          some (0, X3)
        else
          (xs_stZ 16 X3 29 p1 p2).bind fun X31 =>
          some (1, X31)
      else
        g_X10_cover_b32  X3
set_option maxRecDepth 100000 in
theorem q_X10_cover {m mb : Nat} {rr : Nat → Nat} {σ0 : bh_S} (p1 : Int32) (p2 : Int32) {σ : bh_S} {X : xs_S} (h : mo_R m rr mb σ X) (hF : mo_F mb σ0 σ) : sm (mo_G m rr mb σ0) (f_X10_cover m p1 p2 σ) (g_X10_cover p1 p2 X) := by
  unfold f_X10_cover g_X10_cover
  refine mo_ck h ?_
  refine sm_call (q_X10_isField p1  h hF) ?_
  rintro v2 σ3 _ X3 ⟨rfl, h, hF⟩
  refine sm_ite (fun h1 => ?_) (fun h1 => ?_)
  · refine mo_ck h ?_
    refine sm_call (q_X10_refuse (-1)  h hF) ?_
    rintro v34 σ35 _ X35 ⟨rfl, h, hF⟩
    exact sm_ret ⟨rfl, h, hF⟩
  · refine mo_rdR h rfl ?_
    refine sm_nn ?_
    refine mo_ldI (k := 22) (n := 16) h rfl rfl rfl (fun v10 h9 => ?_)
    refine sm_ite (fun h2 => ?_) (fun h2 => ?_)
    · exact q_X10_cover_b32   h hF
    · refine mo_rdR h rfl ?_
      refine sm_nn ?_
      refine mo_ldZ (k := 30) (n := 16) h rfl rfl rfl (fun v17 h9 => ?_)
      refine sm_ite (fun h3 => ?_) (fun h3 => ?_)
      · refine mo_rdR h rfl ?_
        refine sm_nn ?_
        refine mo_ldZ (k := 29) (n := 16) h rfl rfl rfl (fun v24 h9 => ?_)
        refine sm_ite (fun h4 => ?_) (fun h4 => ?_)
        · exact sm_ret ⟨rfl, h, hF⟩
        · refine mo_rdR h rfl ?_
          refine sm_nn ?_
          refine mo_stZ (k := 29) (n := 16) h hF rfl rfl rfl (fun σ31 X31 h9 h hF => ?_)
          exact sm_ret ⟨rfl, h, hF⟩
      · exact q_X10_cover_b32   h hF
/-! BeetHouseModel.frost(Z)I -/
def g_X10_frost_b117 (N : Nat) (k24 : Int32 → Int32 → Int32 → xs_S → Option (Int32 × xs_S)) (x1 : Int32) (x2 : Int32) (x3 : Int32) (X : xs_S) : Option (Int32 × xs_S) :=
  k24 x1 x2 (x3 + 1) X
set_option maxRecDepth 100000 in
theorem q_X10_frost_b117 {m mb : Nat} {rr : Nat → Nat} {σ0 : bh_S} (N : Nat) (k24 : Nat → Int32 → Int32 → Int32 → bh_S → Option (Int32 × bh_S)) (K24 : Int32 → Int32 → Int32 → xs_S → Option (Int32 × xs_S)) (hk24 : ∀ (x1 : Int32) (x2 : Int32) (x3 : Int32) (σ : bh_S) (X : xs_S), mo_R m rr mb σ X → mo_F mb σ0 σ → sm (mo_G m rr mb σ0) (k24 m x1 x2 x3 σ) (K24 x1 x2 x3 X)) (x1 : Int32) (x2 : Int32) (x3 : Int32) {σ : bh_S} {X : xs_S} (h : mo_R m rr mb σ X) (hF : mo_F mb σ0 σ) : sm (mo_G m rr mb σ0) (f_X10_frost_b117 N k24 m x1 x2 x3 σ) (g_X10_frost_b117 N K24 x1 x2 x3 X) := by
  unfold f_X10_frost_b117 g_X10_frost_b117
  exact hk24 x1 x2 (x3 + 1) σ X h hF
def g_X10_frost_b72 (N : Nat) (k24 : Int32 → Int32 → Int32 → xs_S → Option (Int32 × xs_S)) (x1 : Int32) (x2 : Int32) (x3 : Int32) (X : xs_S) : Option (Int32 × xs_S) :=
  if x1 = 0 then
    (xs_ld 16 X 30 x3).bind fun v6 =>
    if v6 = 0 then
      g_X10_frost_b117 N k24 x1 x2 x3 X
    else
      (xs_stZ 16 X 30 x3 0).bind fun X13 =>
      (xs_ld 16 X13 22 x3).bind fun v19 =>
      if v19 = 0 then
        g_X10_frost_b117 N k24 x1 x2 x3 X13
      else
        (xs_st 16 X13 24 x3 (X13 6 0)).bind fun X28 =>
        g_X10_frost_b117 N k24 x1 (x2 + 1) x3 X28
  else
    g_X10_frost_b117 N k24 x1 x2 x3 X
set_option maxRecDepth 100000 in
theorem q_X10_frost_b72 {m mb : Nat} {rr : Nat → Nat} {σ0 : bh_S} (N : Nat) (k24 : Nat → Int32 → Int32 → Int32 → bh_S → Option (Int32 × bh_S)) (K24 : Int32 → Int32 → Int32 → xs_S → Option (Int32 × xs_S)) (hk24 : ∀ (x1 : Int32) (x2 : Int32) (x3 : Int32) (σ : bh_S) (X : xs_S), mo_R m rr mb σ X → mo_F mb σ0 σ → sm (mo_G m rr mb σ0) (k24 m x1 x2 x3 σ) (K24 x1 x2 x3 X)) (x1 : Int32) (x2 : Int32) (x3 : Int32) {σ : bh_S} {X : xs_S} (h : mo_R m rr mb σ X) (hF : mo_F mb σ0 σ) : sm (mo_G m rr mb σ0) (f_X10_frost_b72 N k24 m x1 x2 x3 σ) (g_X10_frost_b72 N K24 x1 x2 x3 X) := by
  unfold f_X10_frost_b72 g_X10_frost_b72
  refine sm_ite (fun h1 => ?_) (fun h1 => ?_)
  · refine mo_rdR h rfl ?_
    refine sm_nn ?_
    refine mo_ldZ (k := 30) (n := 16) h rfl rfl rfl (fun v6 h9 => ?_)
    refine sm_ite (fun h2 => ?_) (fun h2 => ?_)
    · exact q_X10_frost_b117 N k24 K24 hk24 x1 x2 x3 h hF
    · refine mo_rdR h rfl ?_
      refine sm_nn ?_
      refine mo_stZ (k := 30) (n := 16) h hF rfl rfl rfl (fun σ13 X13 h9 h hF => ?_)
      refine mo_rdR h rfl ?_
      refine sm_nn ?_
      refine mo_ldI (k := 22) (n := 16) h rfl rfl rfl (fun v19 h9 => ?_)
      refine sm_ite (fun h3 => ?_) (fun h3 => ?_)
      · exact q_X10_frost_b117 N k24 K24 hk24 x1 x2 x3 h hF
      · refine mo_rdR h rfl ?_
        refine mo_rdI h rfl ?_
        refine sm_nn ?_
        refine mo_stI (k := 24) (n := 16) h hF rfl rfl rfl (fun σ28 X28 h9 h hF => ?_)
        exact q_X10_frost_b117 N k24 K24 hk24 x1 (x2 + 1) x3 h hF
  · exact q_X10_frost_b117 N k24 K24 hk24 x1 x2 x3 h hF
def g_X10_frost_b24 (N : Nat) : Nat → Int32 → Int32 → Int32 → xs_S → Option (Int32 × xs_S)
  | 0, _, _, _, _ => none
  | n + 1, x1, x2, x3, X =>
    if (X 7 0) ≤ x3 then
      some (x2, X)
    else
      if x1 = 0 then
        g_X10_frost_b72 N (g_X10_frost_b24 N n) x1 x2 x3 X
      else
        (xs_ld 16 X 22 x3).bind fun v9 =>
        if v9 ≤ 0 then
          g_X10_frost_b72 N (g_X10_frost_b24 N n) x1 x2 x3 X
        else
          (xs_ld 16 X 29 x3).bind fun v16 =>
          if v16 = 0 then
            (xs_stZ 16 X 30 x3 1).bind fun X23 =>
            (xs_st 16 X23 24 x3 (-9)).bind fun X29 =>
            g_X10_frost_b72 N (g_X10_frost_b24 N n) x1 (x2 + 1) x3 X29
          else
            g_X10_frost_b72 N (g_X10_frost_b24 N n) x1 x2 x3 X
set_option maxRecDepth 100000 in
theorem q_X10_frost_b24 {m mb : Nat} {rr : Nat → Nat} {σ0 : bh_S} (N : Nat) : ∀ (n : Nat) (x1 : Int32) (x2 : Int32) (x3 : Int32) (σ : bh_S) (X : xs_S), mo_R m rr mb σ X → mo_F mb σ0 σ → sm (mo_G m rr mb σ0) (f_X10_frost_b24 N n m x1 x2 x3 σ) (g_X10_frost_b24 N n x1 x2 x3 X) := by
  intro n
  induction n with
  | zero => intro x1 x2 x3 σ X h hF; exact sm_none
  | succ n ih =>
    intro x1 x2 x3 σ X h hF
    unfold f_X10_frost_b24 g_X10_frost_b24
    refine mo_rdI h rfl ?_
    refine sm_ite (fun h1 => ?_) (fun h1 => ?_)
    · exact sm_ret ⟨rfl, h, hF⟩
    · refine sm_ite (fun h2 => ?_) (fun h2 => ?_)
      · exact q_X10_frost_b72 N _ (g_X10_frost_b24 N n) ih x1 x2 x3 h hF
      · refine mo_rdR h rfl ?_
        refine sm_nn ?_
        refine mo_ldI (k := 22) (n := 16) h rfl rfl rfl (fun v9 h9 => ?_)
        refine sm_ite (fun h3 => ?_) (fun h3 => ?_)
        · exact q_X10_frost_b72 N _ (g_X10_frost_b24 N n) ih x1 x2 x3 h hF
        · refine mo_rdR h rfl ?_
          refine sm_nn ?_
          refine mo_ldZ (k := 29) (n := 16) h rfl rfl rfl (fun v16 h9 => ?_)
          refine sm_ite (fun h4 => ?_) (fun h4 => ?_)
          · refine mo_rdR h rfl ?_
            refine sm_nn ?_
            refine mo_stZ (k := 30) (n := 16) h hF rfl rfl rfl (fun σ23 X23 h9 h hF => ?_)
            refine mo_rdR h rfl ?_
            refine sm_nn ?_
            refine mo_stI (k := 24) (n := 16) h hF rfl rfl rfl (fun σ29 X29 h9 h hF => ?_)
            exact q_X10_frost_b72 N _ (g_X10_frost_b24 N n) ih x1 (x2 + 1) x3 h hF
          · exact q_X10_frost_b72 N _ (g_X10_frost_b24 N n) ih x1 x2 x3 h hF
def g_X10_frost (N : Nat) (p1 : Int32) (X : xs_S) : Option (Int32 × xs_S) :=
  if (X 17 0) = p1 then
    xs_bnd (g_X10_refuse (-3) X) fun v7 X8 =>
    some (v7, X8)
  else
    (xs_wrZ X 17 p1).bind fun X4 =>
    g_X10_frost_b24 N N p1 0 0 X4
set_option maxRecDepth 100000 in
theorem q_X10_frost {m mb : Nat} {rr : Nat → Nat} {σ0 : bh_S} (N : Nat) (p1 : Int32) {σ : bh_S} {X : xs_S} (h : mo_R m rr mb σ X) (hF : mo_F mb σ0 σ) : sm (mo_G m rr mb σ0) (f_X10_frost N m p1 σ) (g_X10_frost N p1 X) := by
  unfold f_X10_frost g_X10_frost
  refine mo_rdI h rfl ?_
  refine sm_ite (fun h1 => ?_) (fun h1 => ?_)
  · refine mo_ck h ?_
    refine sm_call (q_X10_refuse (-3)  h hF) ?_
    rintro v7 σ8 _ X8 ⟨rfl, h, hF⟩
    exact sm_ret ⟨rfl, h, hF⟩
  · refine mo_wrZ h hF rfl (fun σ4 X4 h9 h hF => ?_)
    exact q_X10_frost_b24 N N p1 0 0 _ _ h hF
