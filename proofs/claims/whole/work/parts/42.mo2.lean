/-! BeetHouseModel.inYard()I -/
def g_X10_inYard_b4 (N : Nat) : Nat → Int32 → Int32 → xs_S → Option (Int32 × xs_S)
  | 0, _, _, _ => none
  | n + 1, x1, x2, X =>
    if (X 44 0) ≤ x2 then
      some (x1, X)
    else
      (xs_ld 3100 X 42 x2).bind fun v8 =>
      g_X10_inYard_b4 N n (x1 + v8) (x2 + 1) X
set_option maxRecDepth 100000 in
theorem q_X10_inYard_b4 {m mb : Nat} {rr : Nat → Nat} {σ0 : bh_S} (N : Nat) : ∀ (n : Nat) (x1 : Int32) (x2 : Int32) (σ : bh_S) (X : xs_S), mo_R m rr mb σ X → mo_F mb σ0 σ → sm (mo_G m rr mb σ0) (f_X10_inYard_b4 N n m x1 x2 σ) (g_X10_inYard_b4 N n x1 x2 X) := by
  intro n
  induction n with
  | zero => intro x1 x2 σ X h hF; exact sm_none
  | succ n ih =>
    intro x1 x2 σ X h hF
    unfold f_X10_inYard_b4 g_X10_inYard_b4
    refine mo_rdI h rfl ?_
    refine sm_ite (fun h1 => ?_) (fun h1 => ?_)
    · exact sm_ret ⟨rfl, h, hF⟩
    · refine mo_rdR h rfl ?_
      refine sm_nn ?_
      refine mo_ldI (k := 42) (n := 3100) h rfl rfl rfl (fun v8 h9 => ?_)
      exact ih (x1 + v8) (x2 + 1) σ X h hF
def g_X10_inYard (N : Nat)  (X : xs_S) : Option (Int32 × xs_S) :=
  g_X10_inYard_b4 N N 0 0 X
set_option maxRecDepth 100000 in
theorem q_X10_inYard {m mb : Nat} {rr : Nat → Nat} {σ0 : bh_S} (N : Nat)  {σ : bh_S} {X : xs_S} (h : mo_R m rr mb σ X) (hF : mo_F mb σ0 σ) : sm (mo_G m rr mb σ0) (f_X10_inYard N m σ) (g_X10_inYard N  X) := by
  unfold f_X10_inYard g_X10_inYard
  exact q_X10_inYard_b4 N N 0 0 _ _ h hF
/-! BeetHouseModel.lifts()V -/
def g_X10_lifts_b74 (N : Nat) (k2 : Int32 → xs_S → Option (Unit × xs_S)) (x1 : Int32) (X : xs_S) : Option (Unit × xs_S) :=
  k2 (x1 + 1) X
set_option maxRecDepth 100000 in
theorem q_X10_lifts_b74 {m mb : Nat} {rr : Nat → Nat} {σ0 : bh_S} (N : Nat) (k2 : Nat → Int32 → bh_S → Option (Unit × bh_S)) (K2 : Int32 → xs_S → Option (Unit × xs_S)) (hk2 : ∀ (x1 : Int32) (σ : bh_S) (X : xs_S), mo_R m rr mb σ X → mo_F mb σ0 σ → sm (mo_G m rr mb σ0) (k2 m x1 σ) (K2 x1 X)) (x1 : Int32) {σ : bh_S} {X : xs_S} (h : mo_R m rr mb σ X) (hF : mo_F mb σ0 σ) : sm (mo_G m rr mb σ0) (f_X10_lifts_b74 N k2 m x1 σ) (g_X10_lifts_b74 N K2 x1 X) := by
  unfold f_X10_lifts_b74 g_X10_lifts_b74
  exact hk2 (x1 + 1) σ X h hF
def g_X10_lifts_b2 (N : Nat) : Nat → Int32 → xs_S → Option (Unit × xs_S)
  | 0, _, _ => none
  | n + 1, x1, X =>
    if 4 ≤ x1 then
      some ((), X)
    else
      (xs_ld 4 X 32 x1).bind fun v6 =>
      if 0 ≤ v6 then
        (xs_ld 4 X 31 x1).bind fun v13 =>
        (xs_ld 16 X 19 v6).bind fun v19 =>
        (xs_ld 16 X 19 v6).bind fun v25 =>
        (xs_st 16 X 19 v6 (v25 - (bh_min v13 v19))).bind fun X27 =>
        (xs_ld 16 X27 22 v6).bind fun v33 =>
        (xs_st 16 X27 22 v6 (v33 + (bh_min v13 v19))).bind fun X35 =>
        (xs_ld 16 X35 23 v6).bind fun v41 =>
        (xs_ld 16 X35 20 v6).bind fun v47 =>
        (xs_st 16 X35 23 v6 (v41 + ((bh_min v13 v19) * v47))).bind fun X49 =>
        g_X10_lifts_b74 N (g_X10_lifts_b2 N n) x1 X49
      else
        g_X10_lifts_b74 N (g_X10_lifts_b2 N n) x1 X
set_option maxRecDepth 100000 in
theorem q_X10_lifts_b2 {m mb : Nat} {rr : Nat → Nat} {σ0 : bh_S} (N : Nat) : ∀ (n : Nat) (x1 : Int32) (σ : bh_S) (X : xs_S), mo_R m rr mb σ X → mo_F mb σ0 σ → sm (mo_G m rr mb σ0) (f_X10_lifts_b2 N n m x1 σ) (g_X10_lifts_b2 N n x1 X) := by
  intro n
  induction n with
  | zero => intro x1 σ X h hF; exact sm_none
  | succ n ih =>
    intro x1 σ X h hF
    unfold f_X10_lifts_b2 g_X10_lifts_b2
    refine sm_ite (fun h1 => ?_) (fun h1 => ?_)
    · exact sm_ret ⟨rfl, h, hF⟩
    · refine mo_rdR h rfl ?_
      refine sm_nn ?_
      refine mo_ldI (k := 32) (n := 4) h rfl rfl rfl (fun v6 h9 => ?_)
      refine sm_ite (fun h2 => ?_) (fun h2 => ?_)
      · refine mo_rdR h rfl ?_
        refine sm_nn ?_
        refine mo_ldI (k := 31) (n := 4) h rfl rfl rfl (fun v13 h9 => ?_)
        refine mo_rdR h rfl ?_
        refine sm_nn ?_
        refine mo_ldI (k := 19) (n := 16) h rfl rfl rfl (fun v19 h9 => ?_)
        refine mo_rdR h rfl ?_
        refine sm_nn ?_
        refine mo_ldI (k := 19) (n := 16) h rfl rfl rfl (fun v25 h9 => ?_)
        refine mo_stI (k := 19) (n := 16) h hF rfl rfl rfl (fun σ27 X27 h9 h hF => ?_)
        refine mo_rdR h rfl ?_
        refine sm_nn ?_
        refine mo_ldI (k := 22) (n := 16) h rfl rfl rfl (fun v33 h9 => ?_)
        refine mo_stI (k := 22) (n := 16) h hF rfl rfl rfl (fun σ35 X35 h9 h hF => ?_)
        refine mo_rdR h rfl ?_
        refine sm_nn ?_
        refine mo_ldI (k := 23) (n := 16) h rfl rfl rfl (fun v41 h9 => ?_)
        refine mo_rdR h rfl ?_
        refine sm_nn ?_
        refine mo_ldI (k := 20) (n := 16) h rfl rfl rfl (fun v47 h9 => ?_)
        refine mo_stI (k := 23) (n := 16) h hF rfl rfl rfl (fun σ49 X49 h9 h hF => ?_)
        exact q_X10_lifts_b74 N _ (g_X10_lifts_b2 N n) ih x1 h hF
      · exact q_X10_lifts_b74 N _ (g_X10_lifts_b2 N n) ih x1 h hF
def g_X10_lifts (N : Nat)  (X : xs_S) : Option (Unit × xs_S) :=
  g_X10_lifts_b2 N N 0 X
set_option maxRecDepth 100000 in
theorem q_X10_lifts {m mb : Nat} {rr : Nat → Nat} {σ0 : bh_S} (N : Nat)  {σ : bh_S} {X : xs_S} (h : mo_R m rr mb σ X) (hF : mo_F mb σ0 σ) : sm (mo_G m rr mb σ0) (f_X10_lifts N m σ) (g_X10_lifts N  X) := by
  unfold f_X10_lifts g_X10_lifts
  exact q_X10_lifts_b2 N N 0 _ _ h hF
/-! BeetHouseModel.arrives(I)V -/
def g_X10_arrives_b202 (t0 : Int32) (t1 : Int32) (t2 : Int32) (X : xs_S) : Option (Unit × xs_S) :=
  (xs_st 8 X 36 t2 (t1 + t0)).bind fun X3 =>
  some ((), X3)
set_option maxRecDepth 100000 in
theorem q_X10_arrives_b202 {m mb : Nat} {rr : Nat → Nat} {σ0 : bh_S} (t0 : Int32) (t1 : Int32) (t2 : Int32) {σ : bh_S} {X : xs_S} (h : mo_R m rr mb σ X) (hF : mo_F mb σ0 σ) : sm (mo_G m rr mb σ0) (f_X10_arrives_b202 m t0 t1 t2 (some (rr 36)) σ) (g_X10_arrives_b202 t0 t1 t2 X) := by
  unfold f_X10_arrives_b202 g_X10_arrives_b202
  refine sm_nn ?_
  refine mo_stI (k := 36) (n := 8) h hF rfl rfl rfl (fun σ3 X3 h9 h hF => ?_)
  exact sm_ret ⟨rfl, h, hF⟩
def g_X10_arrives_b165 (x1 : Int32) (x2 : Int32) (X : xs_S) : Option (Unit × xs_S) :=
  (xs_st 8 X 34 x1 2).bind fun X5 =>
  (xs_ld 16 X5 21 x2).bind fun v15 =>
  (xs_ld 16 X5 28 x2).bind fun v21 =>
  if v21 = 0 then
    g_X10_arrives_b202 0 ((X5 6 0) + v15) x1 X5
  else
    g_X10_arrives_b202 1 ((X5 6 0) + v15) x1 X5
set_option maxRecDepth 100000 in
theorem q_X10_arrives_b165 {m mb : Nat} {rr : Nat → Nat} {σ0 : bh_S} (x1 : Int32) (x2 : Int32) {σ : bh_S} {X : xs_S} (h : mo_R m rr mb σ X) (hF : mo_F mb σ0 σ) : sm (mo_G m rr mb σ0) (f_X10_arrives_b165 m x1 x2 σ) (g_X10_arrives_b165 x1 x2 X) := by
  unfold f_X10_arrives_b165 g_X10_arrives_b165
  refine mo_rdR h rfl ?_
  refine sm_nn ?_
  refine mo_stI (k := 34) (n := 8) h hF rfl rfl rfl (fun σ5 X5 h9 h hF => ?_)
  refine mo_rdR h rfl ?_
  refine mo_rdI h rfl ?_
  refine mo_rdR h rfl ?_
  refine sm_nn ?_
  refine mo_ldI (k := 21) (n := 16) h rfl rfl rfl (fun v15 h9 => ?_)
  refine mo_rdR h rfl ?_
  refine sm_nn ?_
  refine mo_ldZ (k := 28) (n := 16) h rfl rfl rfl (fun v21 h9 => ?_)
  refine sm_ite (fun h1 => ?_) (fun h1 => ?_)
  · exact q_X10_arrives_b202  0 ((X5 6 0) + v15) x1 h hF
  · exact q_X10_arrives_b202  1 ((X5 6 0) + v15) x1 h hF
def g_X10_arrives_b110 (x1 : Int32) (x2 : Int32) (x3 : Int32) (t0 : Int32) (X : xs_S) : Option (Unit × xs_S) :=
  (xs_st 8 X 37 x1 x3).bind fun X5 =>
  (xs_st 8 X5 38 x1 t0).bind fun X11 =>
  (xs_ld 16 X11 22 x2).bind fun v17 =>
  (xs_st 16 X11 22 x2 (v17 - x3)).bind fun X19 =>
  (xs_ld 16 X19 23 x2).bind fun v25 =>
  (xs_st 16 X19 23 x2 (v25 - t0)).bind fun X27 =>
  (xs_ld 16 X27 22 x2).bind fun v33 =>
  if v33 = 0 then
    (xs_st 16 X27 24 x2 (-9)).bind fun X40 =>
    g_X10_arrives_b165 x1 x2 X40
  else
    g_X10_arrives_b165 x1 x2 X27
set_option maxRecDepth 100000 in
theorem q_X10_arrives_b110 {m mb : Nat} {rr : Nat → Nat} {σ0 : bh_S} (x1 : Int32) (x2 : Int32) (x3 : Int32) (t0 : Int32) {σ : bh_S} {X : xs_S} (h : mo_R m rr mb σ X) (hF : mo_F mb σ0 σ) : sm (mo_G m rr mb σ0) (f_X10_arrives_b110 m x1 x2 x3 t0 σ) (g_X10_arrives_b110 x1 x2 x3 t0 X) := by
  unfold f_X10_arrives_b110 g_X10_arrives_b110
  refine mo_rdR h rfl ?_
  refine sm_nn ?_
  refine mo_stI (k := 37) (n := 8) h hF rfl rfl rfl (fun σ5 X5 h9 h hF => ?_)
  refine mo_rdR h rfl ?_
  refine sm_nn ?_
  refine mo_stI (k := 38) (n := 8) h hF rfl rfl rfl (fun σ11 X11 h9 h hF => ?_)
  refine mo_rdR h rfl ?_
  refine sm_nn ?_
  refine mo_ldI (k := 22) (n := 16) h rfl rfl rfl (fun v17 h9 => ?_)
  refine mo_stI (k := 22) (n := 16) h hF rfl rfl rfl (fun σ19 X19 h9 h hF => ?_)
  refine mo_rdR h rfl ?_
  refine sm_nn ?_
  refine mo_ldI (k := 23) (n := 16) h rfl rfl rfl (fun v25 h9 => ?_)
  refine mo_stI (k := 23) (n := 16) h hF rfl rfl rfl (fun σ27 X27 h9 h hF => ?_)
  refine mo_rdR h rfl ?_
  refine sm_nn ?_
  refine mo_ldI (k := 22) (n := 16) h rfl rfl rfl (fun v33 h9 => ?_)
  refine sm_ite (fun h1 => ?_) (fun h1 => ?_)
  · refine mo_rdR h rfl ?_
    refine sm_nn ?_
    refine mo_stI (k := 24) (n := 16) h hF rfl rfl rfl (fun σ40 X40 h9 h hF => ?_)
    exact q_X10_arrives_b165  x1 x2 h hF
  · exact q_X10_arrives_b165  x1 x2 h hF
def g_X10_arrives_b34 (x1 : Int32) (X : xs_S) : Option (Unit × xs_S) :=
  (xs_ld 8 X 35 x1).bind fun v5 =>
  (xs_ld 8 X 34 x1).bind fun v11 =>
  if v11 = 2 then
    (xs_st 8 X 34 x1 3).bind fun X44 =>
    (xs_st 8 X44 36 x1 (-9)).bind fun X50 =>
    some ((), X50)
  else
    (xs_ld 8 X 33 x1).bind fun v18 =>
    (xs_ld 16 X 22 v5).bind fun v24 =>
    if (bh_min v18 v24) = 0 then
      g_X10_arrives_b110 x1 v5 (bh_min v18 v24) 0 X
    else
      (xs_ld 16 X 23 v5).bind fun v31 =>
      (xs_ld 16 X 22 v5).bind fun v37 =>
      (bh_nzL v37.toInt64).bind fun _ =>
      g_X10_arrives_b110 x1 v5 (bh_min v18 v24) (((v31.toInt64 * ((bh_min v18 v24).toInt64)) / v37.toInt64).toInt32) X
set_option maxRecDepth 100000 in
theorem q_X10_arrives_b34 {m mb : Nat} {rr : Nat → Nat} {σ0 : bh_S} (x1 : Int32) {σ : bh_S} {X : xs_S} (h : mo_R m rr mb σ X) (hF : mo_F mb σ0 σ) : sm (mo_G m rr mb σ0) (f_X10_arrives_b34 m x1 σ) (g_X10_arrives_b34 x1 X) := by
  unfold f_X10_arrives_b34 g_X10_arrives_b34
  refine mo_rdR h rfl ?_
  refine sm_nn ?_
  refine mo_ldI (k := 35) (n := 8) h rfl rfl rfl (fun v5 h9 => ?_)
  refine mo_rdR h rfl ?_
  refine sm_nn ?_
  refine mo_ldI (k := 34) (n := 8) h rfl rfl rfl (fun v11 h9 => ?_)
  refine sm_ite (fun h1 => ?_) (fun h1 => ?_)
  · refine mo_rdR h rfl ?_
    refine sm_nn ?_
    refine mo_stI (k := 34) (n := 8) h hF rfl rfl rfl (fun σ44 X44 h9 h hF => ?_)
    refine mo_rdR h rfl ?_
    refine sm_nn ?_
    refine mo_stI (k := 36) (n := 8) h hF rfl rfl rfl (fun σ50 X50 h9 h hF => ?_)
    exact sm_ret ⟨rfl, h, hF⟩
  · refine mo_rdR h rfl ?_
    refine sm_nn ?_
    refine mo_ldI (k := 33) (n := 8) h rfl rfl rfl (fun v18 h9 => ?_)
    refine mo_rdR h rfl ?_
    refine sm_nn ?_
    refine mo_ldI (k := 22) (n := 16) h rfl rfl rfl (fun v24 h9 => ?_)
    refine sm_ite (fun h2 => ?_) (fun h2 => ?_)
    · exact q_X10_arrives_b110  x1 v5 (bh_min v18 v24) 0 h hF
    · refine mo_rdR h rfl ?_
      refine sm_nn ?_
      refine mo_ldI (k := 23) (n := 16) h rfl rfl rfl (fun v31 h9 => ?_)
      refine mo_rdR h rfl ?_
      refine sm_nn ?_
      refine mo_ldI (k := 22) (n := 16) h rfl rfl rfl (fun v37 h9 => ?_)
      refine sm_op (fun _ h9 => ?_)
      exact q_X10_arrives_b110  x1 v5 (bh_min v18 v24) (((v31.toInt64 * ((bh_min v18 v24).toInt64)) / v37.toInt64).toInt32) h hF
def g_X10_arrives (p1 : Int32) (X : xs_S) : Option (Unit × xs_S) :=
  (xs_ld 8 X 36 p1).bind fun v5 =>
  if v5 = (X 6 0) then
    (xs_ld 8 X 34 p1).bind fun v14 =>
    if v14 = 1 then
      g_X10_arrives_b34 p1 X
    else
      (xs_ld 8 X 34 p1).bind fun v21 =>
      if v21 = 2 then
        g_X10_arrives_b34 p1 X
      else
        some ((), X)
  else
    some ((), X)
set_option maxRecDepth 100000 in
theorem q_X10_arrives {m mb : Nat} {rr : Nat → Nat} {σ0 : bh_S} (p1 : Int32) {σ : bh_S} {X : xs_S} (h : mo_R m rr mb σ X) (hF : mo_F mb σ0 σ) : sm (mo_G m rr mb σ0) (f_X10_arrives m p1 σ) (g_X10_arrives p1 X) := by
  unfold f_X10_arrives g_X10_arrives
  refine mo_rdR h rfl ?_
  refine sm_nn ?_
  refine mo_ldI (k := 36) (n := 8) h rfl rfl rfl (fun v5 h9 => ?_)
  refine mo_rdI h rfl ?_
  refine sm_ite (fun h1 => ?_) (fun h1 => ?_)
  · refine mo_rdR h rfl ?_
    refine sm_nn ?_
    refine mo_ldI (k := 34) (n := 8) h rfl rfl rfl (fun v14 h9 => ?_)
    refine sm_ite (fun h2 => ?_) (fun h2 => ?_)
    · exact q_X10_arrives_b34  p1 h hF
    · refine mo_rdR h rfl ?_
      refine sm_nn ?_
      refine mo_ldI (k := 34) (n := 8) h rfl rfl rfl (fun v21 h9 => ?_)
      refine sm_ite (fun h3 => ?_) (fun h3 => ?_)
      · exact q_X10_arrives_b34  p1 h hF
      · exact sm_ret ⟨rfl, h, hF⟩
  · exact sm_ret ⟨rfl, h, hF⟩
/-! BeetHouseModel.brings(I)V -/
def g_X10_brings_b138 (x1 : Int32) (X : xs_S) : Option (Unit × xs_S) :=
  (xs_st 8 X 34 x1 0).bind fun X5 =>
  (xs_st 8 X5 35 x1 (-9)).bind fun X11 =>
  (xs_st 8 X11 37 x1 0).bind fun X17 =>
  (xs_st 8 X17 38 x1 0).bind fun X23 =>
  some ((), X23)
set_option maxRecDepth 100000 in
theorem q_X10_brings_b138 {m mb : Nat} {rr : Nat → Nat} {σ0 : bh_S} (x1 : Int32) {σ : bh_S} {X : xs_S} (h : mo_R m rr mb σ X) (hF : mo_F mb σ0 σ) : sm (mo_G m rr mb σ0) (f_X10_brings_b138 m x1 σ) (g_X10_brings_b138 x1 X) := by
  unfold f_X10_brings_b138 g_X10_brings_b138
  refine mo_rdR h rfl ?_
  refine sm_nn ?_
  refine mo_stI (k := 34) (n := 8) h hF rfl rfl rfl (fun σ5 X5 h9 h hF => ?_)
  refine mo_rdR h rfl ?_
  refine sm_nn ?_
  refine mo_stI (k := 35) (n := 8) h hF rfl rfl rfl (fun σ11 X11 h9 h hF => ?_)
  refine mo_rdR h rfl ?_
  refine sm_nn ?_
  refine mo_stI (k := 37) (n := 8) h hF rfl rfl rfl (fun σ17 X17 h9 h hF => ?_)
  refine mo_rdR h rfl ?_
  refine sm_nn ?_
  refine mo_stI (k := 38) (n := 8) h hF rfl rfl rfl (fun σ23 X23 h9 h hF => ?_)
  exact sm_ret ⟨rfl, h, hF⟩
def g_X10_brings (p1 : Int32) (X : xs_S) : Option (Unit × xs_S) :=
  (xs_ld 8 X 35 p1).bind fun v5 =>
  (xs_ld 8 X 37 p1).bind fun v11 =>
  if v11 ≤ 0 then
    g_X10_brings_b138 p1 X
  else
    (xs_st 3100 X 41 (X 44 0) v5).bind fun X20 =>
    (xs_ld 8 X20 37 p1).bind fun v30 =>
    (xs_st 3100 X20 42 (X20 44 0) v30).bind fun X34 =>
    (xs_ld 8 X34 38 p1).bind fun v44 =>
    (xs_st 3100 X34 43 (X34 44 0) v44).bind fun X48 =>
    xs_lt (xs_up X48 44 0 ((X48 44 0) + 1)) fun X52 =>
    (xs_ld 16 X52 18 v5).bind fun v60 =>
    (xs_ld 6 X52 2 v60).bind fun v64 =>
    (xs_ld 8 X52 37 p1).bind fun v70 =>
    (xs_ld 8 X52 38 p1).bind fun v78 =>
    (xs_ld 8 X52 37 p1).bind fun v84 =>
    (bh_nz v84).bind fun _ =>
    (xs_ld 10 X52 5 (bh_min 9 ((v78 / v84) / 25))).bind fun v89 =>
    (xs_st 6 X52 2 v60 (v64 + (v70 * v89))).bind fun X91 =>
    (xs_ld 16 X91 27 v5).bind fun v97 =>
    (xs_ld 8 X91 37 p1).bind fun v103 =>
    (xs_st 16 X91 27 v5 (v97 + v103)).bind fun X105 =>
    (xs_ld 8 X105 40 p1).bind fun v111 =>
    (xs_st 8 X105 40 p1 (v111 + 1)).bind fun X113 =>
    g_X10_brings_b138 p1 X113
set_option maxRecDepth 100000 in
theorem q_X10_brings {m mb : Nat} {rr : Nat → Nat} {σ0 : bh_S} (p1 : Int32) {σ : bh_S} {X : xs_S} (h : mo_R m rr mb σ X) (hF : mo_F mb σ0 σ) : sm (mo_G m rr mb σ0) (f_X10_brings m p1 σ) (g_X10_brings p1 X) := by
  unfold f_X10_brings g_X10_brings
  refine mo_rdR h rfl ?_
  refine sm_nn ?_
  refine mo_ldI (k := 35) (n := 8) h rfl rfl rfl (fun v5 h9 => ?_)
  refine mo_rdR h rfl ?_
  refine sm_nn ?_
  refine mo_ldI (k := 37) (n := 8) h rfl rfl rfl (fun v11 h9 => ?_)
  refine sm_ite (fun h1 => ?_) (fun h1 => ?_)
  · exact q_X10_brings_b138  p1 h hF
  · refine mo_rdR h rfl ?_
    refine mo_rdI h rfl ?_
    refine sm_nn ?_
    refine mo_stI (k := 41) (n := 3100) h hF rfl rfl rfl (fun σ20 X20 h9 h hF => ?_)
    refine mo_rdR h rfl ?_
    refine mo_rdI h rfl ?_
    refine mo_rdR h rfl ?_
    refine sm_nn ?_
    refine mo_ldI (k := 37) (n := 8) h rfl rfl rfl (fun v30 h9 => ?_)
    refine sm_nn ?_
    refine mo_stI (k := 42) (n := 3100) h hF rfl rfl rfl (fun σ34 X34 h9 h hF => ?_)
    refine mo_rdR h rfl ?_
    refine mo_rdI h rfl ?_
    refine mo_rdR h rfl ?_
    refine sm_nn ?_
    refine mo_ldI (k := 38) (n := 8) h rfl rfl rfl (fun v44 h9 => ?_)
    refine sm_nn ?_
    refine mo_stI (k := 43) (n := 3100) h hF rfl rfl rfl (fun σ48 X48 h9 h hF => ?_)
    refine mo_rdI h rfl ?_
    refine mo_wrI h hF rfl (fun σ52 X52 h9 h hF => ?_)
    refine mo_rdR h rfl ?_
    refine mo_rdR h rfl ?_
    refine sm_nn ?_
    refine mo_ldI (k := 18) (n := 16) h rfl rfl rfl (fun v60 h9 => ?_)
    refine sm_nn ?_
    refine mo_ldI (k := 2) (n := 6) h rfl rfl rfl (fun v64 h9 => ?_)
    refine mo_rdR h rfl ?_
    refine sm_nn ?_
    refine mo_ldI (k := 37) (n := 8) h rfl rfl rfl (fun v70 h9 => ?_)
    refine mo_rdR h rfl ?_
    refine mo_rdR h rfl ?_
    refine sm_nn ?_
    refine mo_ldI (k := 38) (n := 8) h rfl rfl rfl (fun v78 h9 => ?_)
    refine mo_rdR h rfl ?_
    refine sm_nn ?_
    refine mo_ldI (k := 37) (n := 8) h rfl rfl rfl (fun v84 h9 => ?_)
    refine sm_op (fun _ h9 => ?_)
    refine sm_nn ?_
    refine mo_ldI (k := 5) (n := 10) h rfl rfl rfl (fun v89 h9 => ?_)
    refine mo_stI (k := 2) (n := 6) h hF rfl rfl rfl (fun σ91 X91 h9 h hF => ?_)
    refine mo_rdR h rfl ?_
    refine sm_nn ?_
    refine mo_ldI (k := 27) (n := 16) h rfl rfl rfl (fun v97 h9 => ?_)
    refine mo_rdR h rfl ?_
    refine sm_nn ?_
    refine mo_ldI (k := 37) (n := 8) h rfl rfl rfl (fun v103 h9 => ?_)
    refine mo_stI (k := 27) (n := 16) h hF rfl rfl rfl (fun σ105 X105 h9 h hF => ?_)
    refine mo_rdR h rfl ?_
    refine sm_nn ?_
    refine mo_ldI (k := 40) (n := 8) h rfl rfl rfl (fun v111 h9 => ?_)
    refine mo_stI (k := 40) (n := 8) h hF rfl rfl rfl (fun σ113 X113 h9 h hF => ?_)
    exact q_X10_brings_b138  p1 h hF
/-! BeetHouseModel.unloads()V -/
def g_X10_unloads_b84 (N : Nat) (k4 : Int32 → Int32 → xs_S → Option (Unit × xs_S)) (x1 : Int32) (x2 : Int32) (X : xs_S) : Option (Unit × xs_S) :=
  k4 x1 (x2 + 1) X
set_option maxRecDepth 100000 in
theorem q_X10_unloads_b84 {m mb : Nat} {rr : Nat → Nat} {σ0 : bh_S} (N : Nat) (k4 : Nat → Int32 → Int32 → bh_S → Option (Unit × bh_S)) (K4 : Int32 → Int32 → xs_S → Option (Unit × xs_S)) (hk4 : ∀ (x1 : Int32) (x2 : Int32) (σ : bh_S) (X : xs_S), mo_R m rr mb σ X → mo_F mb σ0 σ → sm (mo_G m rr mb σ0) (k4 m x1 x2 σ) (K4 x1 x2 X)) (x1 : Int32) (x2 : Int32) {σ : bh_S} {X : xs_S} (h : mo_R m rr mb σ X) (hF : mo_F mb σ0 σ) : sm (mo_G m rr mb σ0) (f_X10_unloads_b84 N k4 m x1 x2 σ) (g_X10_unloads_b84 N K4 x1 x2 X) := by
  unfold f_X10_unloads_b84 g_X10_unloads_b84
  exact hk4 x1 (x2 + 1) σ X h hF
def g_X10_unloads_b61 (N : Nat) (k4 : Int32 → Int32 → xs_S → Option (Unit × xs_S)) (x2 : Int32) (t0 : Int32) (X : xs_S) : Option (Unit × xs_S) :=
  if t0 = 0 then
    (xs_ld 8 X 39 x2).bind fun v6 =>
    (xs_st 8 X 39 x2 (v6 + 1)).bind fun X8 =>
    g_X10_unloads_b84 N k4 t0 x2 X8
  else
    xs_bnd (g_X10_brings x2 X) fun v11 X12 =>
    g_X10_unloads_b84 N k4 t0 x2 X12
set_option maxRecDepth 100000 in
theorem q_X10_unloads_b61 {m mb : Nat} {rr : Nat → Nat} {σ0 : bh_S} (N : Nat) (k4 : Nat → Int32 → Int32 → bh_S → Option (Unit × bh_S)) (K4 : Int32 → Int32 → xs_S → Option (Unit × xs_S)) (hk4 : ∀ (x1 : Int32) (x2 : Int32) (σ : bh_S) (X : xs_S), mo_R m rr mb σ X → mo_F mb σ0 σ → sm (mo_G m rr mb σ0) (k4 m x1 x2 σ) (K4 x1 x2 X)) (x2 : Int32) (t0 : Int32) {σ : bh_S} {X : xs_S} (h : mo_R m rr mb σ X) (hF : mo_F mb σ0 σ) : sm (mo_G m rr mb σ0) (f_X10_unloads_b61 N k4 m x2 t0 σ) (g_X10_unloads_b61 N K4 x2 t0 X) := by
  unfold f_X10_unloads_b61 g_X10_unloads_b61
  refine sm_ite (fun h1 => ?_) (fun h1 => ?_)
  · refine mo_rdR h rfl ?_
    refine sm_nn ?_
    refine mo_ldI (k := 39) (n := 8) h rfl rfl rfl (fun v6 h9 => ?_)
    refine mo_stI (k := 39) (n := 8) h hF rfl rfl rfl (fun σ8 X8 h9 h hF => ?_)
    exact q_X10_unloads_b84 N k4 K4 hk4 t0 x2 h hF
  · refine mo_ck h ?_
    refine sm_call (q_X10_brings x2  h hF) ?_
    rintro v11 σ12 _ X12 ⟨rfl, h, hF⟩
    exact q_X10_unloads_b84 N k4 K4 hk4 t0 x2 h hF
def g_X10_unloads_b56 (N : Nat) (k4 : Int32 → Int32 → xs_S → Option (Unit × xs_S)) (x2 : Int32) (X : xs_S) : Option (Unit × xs_S) :=
  g_X10_unloads_b61 N k4 x2 1 X
set_option maxRecDepth 100000 in
theorem q_X10_unloads_b56 {m mb : Nat} {rr : Nat → Nat} {σ0 : bh_S} (N : Nat) (k4 : Nat → Int32 → Int32 → bh_S → Option (Unit × bh_S)) (K4 : Int32 → Int32 → xs_S → Option (Unit × xs_S)) (hk4 : ∀ (x1 : Int32) (x2 : Int32) (σ : bh_S) (X : xs_S), mo_R m rr mb σ X → mo_F mb σ0 σ → sm (mo_G m rr mb σ0) (k4 m x1 x2 σ) (K4 x1 x2 X)) (x2 : Int32) {σ : bh_S} {X : xs_S} (h : mo_R m rr mb σ X) (hF : mo_F mb σ0 σ) : sm (mo_G m rr mb σ0) (f_X10_unloads_b56 N k4 m x2 σ) (g_X10_unloads_b56 N K4 x2 X) := by
  unfold f_X10_unloads_b56 g_X10_unloads_b56
  exact q_X10_unloads_b61 N k4 K4 hk4 x2 1 h hF
def g_X10_unloads_b60 (N : Nat) (k4 : Int32 → Int32 → xs_S → Option (Unit × xs_S)) (x2 : Int32) (X : xs_S) : Option (Unit × xs_S) :=
  g_X10_unloads_b61 N k4 x2 0 X
set_option maxRecDepth 100000 in
theorem q_X10_unloads_b60 {m mb : Nat} {rr : Nat → Nat} {σ0 : bh_S} (N : Nat) (k4 : Nat → Int32 → Int32 → bh_S → Option (Unit × bh_S)) (K4 : Int32 → Int32 → xs_S → Option (Unit × xs_S)) (hk4 : ∀ (x1 : Int32) (x2 : Int32) (σ : bh_S) (X : xs_S), mo_R m rr mb σ X → mo_F mb σ0 σ → sm (mo_G m rr mb σ0) (k4 m x1 x2 σ) (K4 x1 x2 X)) (x2 : Int32) {σ : bh_S} {X : xs_S} (h : mo_R m rr mb σ X) (hF : mo_F mb σ0 σ) : sm (mo_G m rr mb σ0) (f_X10_unloads_b60 N k4 m x2 σ) (g_X10_unloads_b60 N K4 x2 X) := by
  unfold f_X10_unloads_b60 g_X10_unloads_b60
  exact q_X10_unloads_b61 N k4 K4 hk4 x2 0 h hF
def g_X10_unloads_b4 (N : Nat) : Nat → Int32 → Int32 → xs_S → Option (Unit × xs_S)
  | 0, _, _, _ => none
  | n + 1, x1, x2, X =>
    if (X 8 0) ≤ x2 then
      some ((), X)
    else
      (xs_ld 8 X 34 x2).bind fun v8 =>
      if v8 = 3 then
        if x1 = 0 then
          g_X10_unloads_b60 N (g_X10_unloads_b4 N n) x2 X
        else
          (xs_ld 8 X 37 x2).bind fun v16 =>
          if v16 = 0 then
            g_X10_unloads_b56 N (g_X10_unloads_b4 N n) x2 X
          else
            xs_bnd (g_X10_inYard N  X) fun v20 X21 =>
            (xs_ld 8 X21 37 x2).bind fun v27 =>
            if (X21 9 0) < (v20 + v27) then
              g_X10_unloads_b60 N (g_X10_unloads_b4 N n) x2 X21
            else
              g_X10_unloads_b56 N (g_X10_unloads_b4 N n) x2 X21
      else
        g_X10_unloads_b84 N (g_X10_unloads_b4 N n) x1 x2 X
set_option maxRecDepth 100000 in
theorem q_X10_unloads_b4 {m mb : Nat} {rr : Nat → Nat} {σ0 : bh_S} (N : Nat) : ∀ (n : Nat) (x1 : Int32) (x2 : Int32) (σ : bh_S) (X : xs_S), mo_R m rr mb σ X → mo_F mb σ0 σ → sm (mo_G m rr mb σ0) (f_X10_unloads_b4 N n m x1 x2 σ) (g_X10_unloads_b4 N n x1 x2 X) := by
  intro n
  induction n with
  | zero => intro x1 x2 σ X h hF; exact sm_none
  | succ n ih =>
    intro x1 x2 σ X h hF
    unfold f_X10_unloads_b4 g_X10_unloads_b4
    refine mo_rdI h rfl ?_
    refine sm_ite (fun h1 => ?_) (fun h1 => ?_)
    · exact sm_ret ⟨rfl, h, hF⟩
    · refine mo_rdR h rfl ?_
      refine sm_nn ?_
      refine mo_ldI (k := 34) (n := 8) h rfl rfl rfl (fun v8 h9 => ?_)
      refine sm_ite (fun h2 => ?_) (fun h2 => ?_)
      · refine sm_ite (fun h3 => ?_) (fun h3 => ?_)
        · exact q_X10_unloads_b60 N _ (g_X10_unloads_b4 N n) ih x2 h hF
        · refine mo_rdR h rfl ?_
          refine sm_nn ?_
          refine mo_ldI (k := 37) (n := 8) h rfl rfl rfl (fun v16 h9 => ?_)
          refine sm_ite (fun h4 => ?_) (fun h4 => ?_)
          · exact q_X10_unloads_b56 N _ (g_X10_unloads_b4 N n) ih x2 h hF
          · refine mo_ck h ?_
            refine sm_call (q_X10_inYard N  h hF) ?_
            rintro v20 σ21 _ X21 ⟨rfl, h, hF⟩
            refine mo_rdR h rfl ?_
            refine sm_nn ?_
            refine mo_ldI (k := 37) (n := 8) h rfl rfl rfl (fun v27 h9 => ?_)
            refine mo_rdI h rfl ?_
            refine sm_ite (fun h5 => ?_) (fun h5 => ?_)
            · exact q_X10_unloads_b60 N _ (g_X10_unloads_b4 N n) ih x2 h hF
            · exact q_X10_unloads_b56 N _ (g_X10_unloads_b4 N n) ih x2 h hF
      · exact q_X10_unloads_b84 N _ (g_X10_unloads_b4 N n) ih x1 x2 h hF
def g_X10_unloads (N : Nat)  (X : xs_S) : Option (Unit × xs_S) :=
  g_X10_unloads_b4 N N 1 0 X
set_option maxRecDepth 100000 in
theorem q_X10_unloads {m mb : Nat} {rr : Nat → Nat} {σ0 : bh_S} (N : Nat)  {σ : bh_S} {X : xs_S} (h : mo_R m rr mb σ X) (hF : mo_F mb σ0 σ) : sm (mo_G m rr mb σ0) (f_X10_unloads N m σ) (g_X10_unloads N  X) := by
  unfold f_X10_unloads g_X10_unloads
  exact q_X10_unloads_b4 N N 1 0 _ _ h hF
/-! BeetHouseModel.eats()I -/
def g_X10_eats_b111 (N : Nat) (k7 : Int32 → Int32 → xs_S → Option (Int32 × xs_S)) : Nat → Int32 → Int32 → Int32 → xs_S → Option (Int32 × xs_S)
  | 0, _, _, _, _ => none
  | n + 1, x1, x2, x3, X =>
    if (X 44 0) ≤ x3 then
      k7 x1 x2 X
    else
      (xs_ld 3100 X 41 (x3 + 1)).bind fun v10 =>
      (xs_st 3100 X 41 x3 v10).bind fun X14 =>
      (xs_ld 3100 X14 42 (x3 + 1)).bind fun v22 =>
      (xs_st 3100 X14 42 x3 v22).bind fun X26 =>
      (xs_ld 3100 X26 43 (x3 + 1)).bind fun v34 =>
      (xs_st 3100 X26 43 x3 v34).bind fun X38 =>
      g_X10_eats_b111 N k7 n x1 x2 (x3 + 1) X38
set_option maxRecDepth 100000 in
theorem q_X10_eats_b111 {m mb : Nat} {rr : Nat → Nat} {σ0 : bh_S} (N : Nat) (k7 : Nat → Int32 → Int32 → bh_S → Option (Int32 × bh_S)) (K7 : Int32 → Int32 → xs_S → Option (Int32 × xs_S)) (hk7 : ∀ (x1 : Int32) (x2 : Int32) (σ : bh_S) (X : xs_S), mo_R m rr mb σ X → mo_F mb σ0 σ → sm (mo_G m rr mb σ0) (k7 m x1 x2 σ) (K7 x1 x2 X)) : ∀ (n : Nat) (x1 : Int32) (x2 : Int32) (x3 : Int32) (σ : bh_S) (X : xs_S), mo_R m rr mb σ X → mo_F mb σ0 σ → sm (mo_G m rr mb σ0) (f_X10_eats_b111 N k7 n m x1 x2 x3 σ) (g_X10_eats_b111 N K7 n x1 x2 x3 X) := by
  intro n
  induction n with
  | zero => intro x1 x2 x3 σ X h hF; exact sm_none
  | succ n ih =>
    intro x1 x2 x3 σ X h hF
    unfold f_X10_eats_b111 g_X10_eats_b111
    refine mo_rdI h rfl ?_
    refine sm_ite (fun h1 => ?_) (fun h1 => ?_)
    · exact hk7 x1 x2 σ X h hF
    · refine mo_rdR h rfl ?_
      refine mo_rdR h rfl ?_
      refine sm_nn ?_
      refine mo_ldI (k := 41) (n := 3100) h rfl rfl rfl (fun v10 h9 => ?_)
      refine sm_nn ?_
      refine mo_stI (k := 41) (n := 3100) h hF rfl rfl rfl (fun σ14 X14 h9 h hF => ?_)
      refine mo_rdR h rfl ?_
      refine mo_rdR h rfl ?_
      refine sm_nn ?_
      refine mo_ldI (k := 42) (n := 3100) h rfl rfl rfl (fun v22 h9 => ?_)
      refine sm_nn ?_
      refine mo_stI (k := 42) (n := 3100) h hF rfl rfl rfl (fun σ26 X26 h9 h hF => ?_)
      refine mo_rdR h rfl ?_
      refine mo_rdR h rfl ?_
      refine sm_nn ?_
      refine mo_ldI (k := 43) (n := 3100) h rfl rfl rfl (fun v34 h9 => ?_)
      refine sm_nn ?_
      refine mo_stI (k := 43) (n := 3100) h hF rfl rfl rfl (fun σ38 X38 h9 h hF => ?_)
      exact ih x1 x2 (x3 + 1) σ38 X38 h hF
def g_X10_eats_b57 (N : Nat) (k7 : Int32 → Int32 → xs_S → Option (Int32 × xs_S)) (x2 : Int32) (t0 : Int32) (t1 : Int32) (X : xs_S) : Option (Int32 × xs_S) :=
  (xs_ld 3100 X 42 0).bind fun v5 =>
  (xs_st 3100 X 42 0 (v5 - 1)).bind fun X7 =>
  (xs_ld 3100 X7 42 0).bind fun v13 =>
  if v13 ≤ 0 then
    (xs_ld 3100 X7 43 0).bind fun v22 =>
    xs_lt (xs_up X7 12 0 ((X7 12 0) + v22)) fun X24 =>
    xs_lt (xs_up X24 44 0 ((X24 44 0) - 1)) fun X28 =>
    g_X10_eats_b111 N k7 N (t1 - t0) (x2 + 1) 0 X28
  else
    k7 (t1 - t0) (x2 + 1) X7
set_option maxRecDepth 100000 in
theorem q_X10_eats_b57 {m mb : Nat} {rr : Nat → Nat} {σ0 : bh_S} (N : Nat) (k7 : Nat → Int32 → Int32 → bh_S → Option (Int32 × bh_S)) (K7 : Int32 → Int32 → xs_S → Option (Int32 × xs_S)) (hk7 : ∀ (x1 : Int32) (x2 : Int32) (σ : bh_S) (X : xs_S), mo_R m rr mb σ X → mo_F mb σ0 σ → sm (mo_G m rr mb σ0) (k7 m x1 x2 σ) (K7 x1 x2 X)) (x2 : Int32) (t0 : Int32) (t1 : Int32) {σ : bh_S} {X : xs_S} (h : mo_R m rr mb σ X) (hF : mo_F mb σ0 σ) : sm (mo_G m rr mb σ0) (f_X10_eats_b57 N k7 m x2 t0 t1 σ) (g_X10_eats_b57 N K7 x2 t0 t1 X) := by
  unfold f_X10_eats_b57 g_X10_eats_b57
  refine mo_rdR h rfl ?_
  refine sm_nn ?_
  refine mo_ldI (k := 42) (n := 3100) h rfl rfl rfl (fun v5 h9 => ?_)
  refine mo_stI (k := 42) (n := 3100) h hF rfl rfl rfl (fun σ7 X7 h9 h hF => ?_)
  refine mo_rdR h rfl ?_
  refine sm_nn ?_
  refine mo_ldI (k := 42) (n := 3100) h rfl rfl rfl (fun v13 h9 => ?_)
  refine sm_ite (fun h1 => ?_) (fun h1 => ?_)
  · refine mo_rdI h rfl ?_
    refine mo_rdR h rfl ?_
    refine sm_nn ?_
    refine mo_ldI (k := 43) (n := 3100) h rfl rfl rfl (fun v22 h9 => ?_)
    refine mo_wrI h hF rfl (fun σ24 X24 h9 h hF => ?_)
    refine mo_rdI h rfl ?_
    refine mo_wrI h hF rfl (fun σ28 X28 h9 h hF => ?_)
    exact q_X10_eats_b111 N k7 K7 hk7 N (t1 - t0) (x2 + 1) 0 _ _ h hF
  · exact hk7 (t1 - t0) (x2 + 1) σ7 X7 h hF
def g_X10_eats_b201 (N : Nat) (x2 : Int32) (X : xs_S) : Option (Int32 × xs_S) :=
  xs_lt (xs_up X 11 0 ((X 11 0) + x2)) fun X3 =>
  some (x2, X3)
set_option maxRecDepth 100000 in
theorem q_X10_eats_b201 {m mb : Nat} {rr : Nat → Nat} {σ0 : bh_S} (N : Nat) (x2 : Int32) {σ : bh_S} {X : xs_S} (h : mo_R m rr mb σ X) (hF : mo_F mb σ0 σ) : sm (mo_G m rr mb σ0) (f_X10_eats_b201 N m x2 σ) (g_X10_eats_b201 N x2 X) := by
  unfold f_X10_eats_b201 g_X10_eats_b201
  refine mo_rdI h rfl ?_
  refine mo_wrI h hF rfl (fun σ3 X3 h9 h hF => ?_)
  exact sm_ret ⟨rfl, h, hF⟩
def g_X10_eats_b170 (N : Nat) (x1 : Int32) (x2 : Int32) (X : xs_S) : Option (Int32 × xs_S) :=
  if (X 44 0) = 0 then
    if x1 ≤ 0 then
      g_X10_eats_b201 N x2 X
    else
      xs_lt (xs_up X 14 0 ((X 14 0) + x1)) fun X7 =>
      xs_lt (xs_up X7 13 0 ((X7 13 0) + 1)) fun X11 =>
      g_X10_eats_b201 N x2 X11
  else
    g_X10_eats_b201 N x2 X
set_option maxRecDepth 100000 in
theorem q_X10_eats_b170 {m mb : Nat} {rr : Nat → Nat} {σ0 : bh_S} (N : Nat) (x1 : Int32) (x2 : Int32) {σ : bh_S} {X : xs_S} (h : mo_R m rr mb σ X) (hF : mo_F mb σ0 σ) : sm (mo_G m rr mb σ0) (f_X10_eats_b170 N m x1 x2 σ) (g_X10_eats_b170 N x1 x2 X) := by
  unfold f_X10_eats_b170 g_X10_eats_b170
  refine mo_rdI h rfl ?_
  refine sm_ite (fun h1 => ?_) (fun h1 => ?_)
  · refine sm_ite (fun h2 => ?_) (fun h2 => ?_)
    · exact q_X10_eats_b201 N x2 h hF
    · refine mo_rdI h rfl ?_
      refine mo_wrI h hF rfl (fun σ7 X7 h9 h hF => ?_)
      refine mo_rdI h rfl ?_
      refine mo_wrI h hF rfl (fun σ11 X11 h9 h hF => ?_)
      exact q_X10_eats_b201 N x2 h hF
  · exact q_X10_eats_b201 N x2 h hF
def g_X10_eats_b34 (N : Nat) (k7 : Int32 → Int32 → xs_S → Option (Int32 × xs_S)) (x1 : Int32) (x2 : Int32) (t0 : Int32) (t1 : Int32) (X : xs_S) : Option (Int32 × xs_S) :=
  if t1 < t0 then
    g_X10_eats_b170 N x1 x2 X
  else
    (xs_ld 3100 X 41 0).bind fun v8 =>
    (xs_ld 16 X 28 v8).bind fun v12 =>
    if v12 = 0 then
      g_X10_eats_b57 N k7 x2 1 x1 X
    else
      g_X10_eats_b57 N k7 x2 2 x1 X
set_option maxRecDepth 100000 in
theorem q_X10_eats_b34 {m mb : Nat} {rr : Nat → Nat} {σ0 : bh_S} (N : Nat) (k7 : Nat → Int32 → Int32 → bh_S → Option (Int32 × bh_S)) (K7 : Int32 → Int32 → xs_S → Option (Int32 × xs_S)) (hk7 : ∀ (x1 : Int32) (x2 : Int32) (σ : bh_S) (X : xs_S), mo_R m rr mb σ X → mo_F mb σ0 σ → sm (mo_G m rr mb σ0) (k7 m x1 x2 σ) (K7 x1 x2 X)) (x1 : Int32) (x2 : Int32) (t0 : Int32) (t1 : Int32) {σ : bh_S} {X : xs_S} (h : mo_R m rr mb σ X) (hF : mo_F mb σ0 σ) : sm (mo_G m rr mb σ0) (f_X10_eats_b34 N k7 m x1 x2 t0 t1 σ) (g_X10_eats_b34 N K7 x1 x2 t0 t1 X) := by
  unfold f_X10_eats_b34 g_X10_eats_b34
  refine sm_ite (fun h1 => ?_) (fun h1 => ?_)
  · exact q_X10_eats_b170 N x1 x2 h hF
  · refine mo_rdR h rfl ?_
    refine mo_rdR h rfl ?_
    refine sm_nn ?_
    refine mo_ldI (k := 41) (n := 3100) h rfl rfl rfl (fun v8 h9 => ?_)
    refine sm_nn ?_
    refine mo_ldZ (k := 28) (n := 16) h rfl rfl rfl (fun v12 h9 => ?_)
    refine sm_ite (fun h2 => ?_) (fun h2 => ?_)
    · exact q_X10_eats_b57 N k7 K7 hk7 x2 1 x1 h hF
    · exact q_X10_eats_b57 N k7 K7 hk7 x2 2 x1 h hF
def g_X10_eats_b7 (N : Nat) : Nat → Int32 → Int32 → xs_S → Option (Int32 × xs_S)
  | 0, _, _, _ => none
  | n + 1, x1, x2, X =>
    if (X 44 0) ≤ 0 then
      g_X10_eats_b170 N x1 x2 X
    else
      (xs_ld 3100 X 41 0).bind fun v10 =>
      (xs_ld 16 X 28 v10).bind fun v14 =>
      if v14 = 0 then
        g_X10_eats_b34 N (g_X10_eats_b7 N n) x1 x2 1 x1 X
      else
        g_X10_eats_b34 N (g_X10_eats_b7 N n) x1 x2 2 x1 X
set_option maxRecDepth 100000 in
theorem q_X10_eats_b7 {m mb : Nat} {rr : Nat → Nat} {σ0 : bh_S} (N : Nat) : ∀ (n : Nat) (x1 : Int32) (x2 : Int32) (σ : bh_S) (X : xs_S), mo_R m rr mb σ X → mo_F mb σ0 σ → sm (mo_G m rr mb σ0) (f_X10_eats_b7 N n m x1 x2 σ) (g_X10_eats_b7 N n x1 x2 X) := by
  intro n
  induction n with
  | zero => intro x1 x2 σ X h hF; exact sm_none
  | succ n ih =>
    intro x1 x2 σ X h hF
    unfold f_X10_eats_b7 g_X10_eats_b7
    refine mo_rdI h rfl ?_
    refine sm_ite (fun h1 => ?_) (fun h1 => ?_)
    · exact q_X10_eats_b170 N x1 x2 h hF
    · refine mo_rdR h rfl ?_
      refine mo_rdR h rfl ?_
      refine sm_nn ?_
      refine mo_ldI (k := 41) (n := 3100) h rfl rfl rfl (fun v10 h9 => ?_)
      refine sm_nn ?_
      refine mo_ldZ (k := 28) (n := 16) h rfl rfl rfl (fun v14 h9 => ?_)
      refine sm_ite (fun h2 => ?_) (fun h2 => ?_)
      · exact q_X10_eats_b34 N _ (g_X10_eats_b7 N n) ih x1 x2 1 x1 h hF
      · exact q_X10_eats_b34 N _ (g_X10_eats_b7 N n) ih x1 x2 2 x1 h hF
def g_X10_eats (N : Nat)  (X : xs_S) : Option (Int32 × xs_S) :=
  g_X10_eats_b7 N N (X 10 0) 0 X
set_option maxRecDepth 100000 in
theorem q_X10_eats {m mb : Nat} {rr : Nat → Nat} {σ0 : bh_S} (N : Nat)  {σ : bh_S} {X : xs_S} (h : mo_R m rr mb σ X) (hF : mo_F mb σ0 σ) : sm (mo_G m rr mb σ0) (f_X10_eats N m σ) (g_X10_eats N  X) := by
  unfold f_X10_eats g_X10_eats
  refine mo_rdI h rfl ?_
  exact q_X10_eats_b7 N N (X 10 0) 0 _ _ h hF
/-! BeetHouseModel.wasteOf(III)I -/
def g_X10_wasteOf_b65 (x2 : Int32) (x4 : Int32) (X : xs_S) : Option (Int32 × xs_S) :=
  some (((x2.toInt64 * x4.toInt64) / 1000).toInt32, X)
set_option maxRecDepth 100000 in
theorem q_X10_wasteOf_b65 {m mb : Nat} {rr : Nat → Nat} {σ0 : bh_S} (x2 : Int32) (x4 : Int32) {σ : bh_S} {X : xs_S} (h : mo_R m rr mb σ X) (hF : mo_F mb σ0 σ) : sm (mo_G m rr mb σ0) (f_X10_wasteOf_b65 m x2 x4 σ) (g_X10_wasteOf_b65 x2 x4 X) := by
  unfold f_X10_wasteOf_b65 g_X10_wasteOf_b65
  exact sm_ret ⟨rfl, h, hF⟩
def g_X10_wasteOf (p1 : Int32) (p2 : Int32) (p3 : Int32) (X : xs_S) : Option (Int32 × xs_S) :=
  (xs_ld 16 X 30 p1).bind fun v5 =>
  if v5 = 0 then
    (xs_ld 100 X 3 p3).bind fun v14 =>
    (xs_ld 10 X 4 v14).bind fun v18 =>
    (xs_ld 16 X 24 p1).bind fun v24 =>
    if v24 = (-9) then
      (xs_ld 16 X 29 p1).bind fun v31 =>
      if v31 = 0 then
        g_X10_wasteOf_b65 p2 v18 X
      else
        g_X10_wasteOf_b65 p2 (v18 / 2) X
    else
      g_X10_wasteOf_b65 p2 (bh_min 1000 (3 * v18)) X
  else
    some (0, X)
set_option maxRecDepth 100000 in
theorem q_X10_wasteOf {m mb : Nat} {rr : Nat → Nat} {σ0 : bh_S} (p1 : Int32) (p2 : Int32) (p3 : Int32) {σ : bh_S} {X : xs_S} (h : mo_R m rr mb σ X) (hF : mo_F mb σ0 σ) : sm (mo_G m rr mb σ0) (f_X10_wasteOf m p1 p2 p3 σ) (g_X10_wasteOf p1 p2 p3 X) := by
  unfold f_X10_wasteOf g_X10_wasteOf
  refine mo_rdR h rfl ?_
  refine sm_nn ?_
  refine mo_ldZ (k := 30) (n := 16) h rfl rfl rfl (fun v5 h9 => ?_)
  refine sm_ite (fun h1 => ?_) (fun h1 => ?_)
  · refine mo_rdR h rfl ?_
    refine mo_rdR h rfl ?_
    refine sm_nn ?_
    refine mo_ldI (k := 3) (n := 100) h rfl rfl rfl (fun v14 h9 => ?_)
    refine sm_nn ?_
    refine mo_ldI (k := 4) (n := 10) h rfl rfl rfl (fun v18 h9 => ?_)
    refine mo_rdR h rfl ?_
    refine sm_nn ?_
    refine mo_ldI (k := 24) (n := 16) h rfl rfl rfl (fun v24 h9 => ?_)
    refine sm_ite (fun h2 => ?_) (fun h2 => ?_)
    · refine mo_rdR h rfl ?_
      refine sm_nn ?_
      refine mo_ldZ (k := 29) (n := 16) h rfl rfl rfl (fun v31 h9 => ?_)
      refine sm_ite (fun h3 => ?_) (fun h3 => ?_)
      · exact q_X10_wasteOf_b65  p2 v18 h hF
      · exact q_X10_wasteOf_b65  p2 (v18 / 2) h hF
    · exact q_X10_wasteOf_b65  p2 (bh_min 1000 (3 * v18)) h hF
  · exact sm_ret ⟨rfl, h, hF⟩
/-! BeetHouseModel.ends()V -/
def g_X10_ends_b176 (N : Nat) (k79 : Int32 → xs_S → Option (Unit × xs_S)) (x1 : Int32) (X : xs_S) : Option (Unit × xs_S) :=
  k79 (x1 + 1) X
set_option maxRecDepth 100000 in
theorem q_X10_ends_b176 {m mb : Nat} {rr : Nat → Nat} {σ0 : bh_S} (N : Nat) (k79 : Nat → Int32 → bh_S → Option (Unit × bh_S)) (K79 : Int32 → xs_S → Option (Unit × xs_S)) (hk79 : ∀ (x1 : Int32) (σ : bh_S) (X : xs_S), mo_R m rr mb σ X → mo_F mb σ0 σ → sm (mo_G m rr mb σ0) (k79 m x1 σ) (K79 x1 X)) (x1 : Int32) {σ : bh_S} {X : xs_S} (h : mo_R m rr mb σ X) (hF : mo_F mb σ0 σ) : sm (mo_G m rr mb σ0) (f_X10_ends_b176 N k79 m x1 σ) (g_X10_ends_b176 N K79 x1 X) := by
  unfold f_X10_ends_b176 g_X10_ends_b176
  exact hk79 (x1 + 1) σ X h hF
def g_X10_ends_b79 (N : Nat) : Nat → Int32 → xs_S → Option (Unit × xs_S)
  | 0, _, _ => none
  | n + 1, x1, X =>
    if (X 7 0) ≤ x1 then
      some ((), X)
    else
      (xs_ld 16 X 24 x1).bind fun v8 =>
      if v8 = (-9) then
        g_X10_ends_b176 N (g_X10_ends_b79 N n) x1 X
      else
        (xs_ld 16 X 24 x1).bind fun v17 =>
        if 72 ≤ ((X 6 0) - v17) then
          (xs_ld 16 X 26 x1).bind fun v24 =>
          (xs_ld 16 X 22 x1).bind fun v30 =>
          (xs_st 16 X 26 x1 (v24 + v30)).bind fun X32 =>
          (xs_ld 16 X32 22 x1).bind fun v40 =>
          xs_lt (xs_up X32 16 0 ((X32 16 0) + v40)) fun X42 =>
          (xs_st 16 X42 22 x1 0).bind fun X48 =>
          (xs_st 16 X48 23 x1 0).bind fun X54 =>
          (xs_st 16 X54 24 x1 (-9)).bind fun X60 =>
          (xs_stZ 16 X60 29 x1 0).bind fun X66 =>
          g_X10_ends_b176 N (g_X10_ends_b79 N n) x1 X66
        else
          g_X10_ends_b176 N (g_X10_ends_b79 N n) x1 X
set_option maxRecDepth 100000 in
theorem q_X10_ends_b79 {m mb : Nat} {rr : Nat → Nat} {σ0 : bh_S} (N : Nat) : ∀ (n : Nat) (x1 : Int32) (σ : bh_S) (X : xs_S), mo_R m rr mb σ X → mo_F mb σ0 σ → sm (mo_G m rr mb σ0) (f_X10_ends_b79 N n m x1 σ) (g_X10_ends_b79 N n x1 X) := by
  intro n
  induction n with
  | zero => intro x1 σ X h hF; exact sm_none
  | succ n ih =>
    intro x1 σ X h hF
    unfold f_X10_ends_b79 g_X10_ends_b79
    refine mo_rdI h rfl ?_
    refine sm_ite (fun h1 => ?_) (fun h1 => ?_)
    · exact sm_ret ⟨rfl, h, hF⟩
    · refine mo_rdR h rfl ?_
      refine sm_nn ?_
      refine mo_ldI (k := 24) (n := 16) h rfl rfl rfl (fun v8 h9 => ?_)
      refine sm_ite (fun h2 => ?_) (fun h2 => ?_)
      · exact q_X10_ends_b176 N _ (g_X10_ends_b79 N n) ih x1 h hF
      · refine mo_rdI h rfl ?_
        refine mo_rdR h rfl ?_
        refine sm_nn ?_
        refine mo_ldI (k := 24) (n := 16) h rfl rfl rfl (fun v17 h9 => ?_)
        refine sm_ite (fun h3 => ?_) (fun h3 => ?_)
        · refine mo_rdR h rfl ?_
          refine sm_nn ?_
          refine mo_ldI (k := 26) (n := 16) h rfl rfl rfl (fun v24 h9 => ?_)
          refine mo_rdR h rfl ?_
          refine sm_nn ?_
          refine mo_ldI (k := 22) (n := 16) h rfl rfl rfl (fun v30 h9 => ?_)
          refine mo_stI (k := 26) (n := 16) h hF rfl rfl rfl (fun σ32 X32 h9 h hF => ?_)
          refine mo_rdI h rfl ?_
          refine mo_rdR h rfl ?_
          refine sm_nn ?_
          refine mo_ldI (k := 22) (n := 16) h rfl rfl rfl (fun v40 h9 => ?_)
          refine mo_wrI h hF rfl (fun σ42 X42 h9 h hF => ?_)
          refine mo_rdR h rfl ?_
          refine sm_nn ?_
          refine mo_stI (k := 22) (n := 16) h hF rfl rfl rfl (fun σ48 X48 h9 h hF => ?_)
          refine mo_rdR h rfl ?_
          refine sm_nn ?_
          refine mo_stI (k := 23) (n := 16) h hF rfl rfl rfl (fun σ54 X54 h9 h hF => ?_)
          refine mo_rdR h rfl ?_
          refine sm_nn ?_
          refine mo_stI (k := 24) (n := 16) h hF rfl rfl rfl (fun σ60 X60 h9 h hF => ?_)
          refine mo_rdR h rfl ?_
          refine sm_nn ?_
          refine mo_stZ (k := 29) (n := 16) h hF rfl rfl rfl (fun σ66 X66 h9 h hF => ?_)
          exact q_X10_ends_b176 N _ (g_X10_ends_b79 N n) ih x1 h hF
        · exact q_X10_ends_b176 N _ (g_X10_ends_b79 N n) ih x1 h hF
def g_X10_ends_b77 (N : Nat)  (X : xs_S) : Option (Unit × xs_S) :=
  g_X10_ends_b79 N N 0 X
set_option maxRecDepth 100000 in
theorem q_X10_ends_b77 {m mb : Nat} {rr : Nat → Nat} {σ0 : bh_S} (N : Nat)  {σ : bh_S} {X : xs_S} (h : mo_R m rr mb σ X) (hF : mo_F mb σ0 σ) : sm (mo_G m rr mb σ0) (f_X10_ends_b77 N m σ) (g_X10_ends_b77 N  X) := by
  unfold f_X10_ends_b77 g_X10_ends_b77
  exact q_X10_ends_b79 N N 0 _ _ h hF
def g_X10_ends_b2 (N : Nat) : Nat → Int32 → xs_S → Option (Unit × xs_S)
  | 0, _, _ => none
  | n + 1, x1, X =>
    if (X 7 0) ≤ x1 then
      g_X10_ends_b77 N X
    else
      if ((X 6 0) - (X 6 0) / 24 * 24) = 0 then
        (xs_ld 16 X 23 x1).bind fun v11 =>
        xs_bnd (g_X10_wasteOf x1 v11 (((X 6 0) / 24) - 1) X) fun v16 X17 =>
        (xs_ld 16 X17 23 x1).bind fun v23 =>
        (xs_st 16 X17 23 x1 (v23 - v16)).bind fun X25 =>
        (xs_ld 16 X25 25 x1).bind fun v31 =>
        (xs_st 16 X25 25 x1 (v31 + v16)).bind fun X33 =>
        xs_lt (xs_up X33 15 0 ((X33 15 0) + v16)) fun X37 =>
        g_X10_ends_b2 N n (x1 + 1) X37
      else
        g_X10_ends_b77 N X
set_option maxRecDepth 100000 in
theorem q_X10_ends_b2 {m mb : Nat} {rr : Nat → Nat} {σ0 : bh_S} (N : Nat) : ∀ (n : Nat) (x1 : Int32) (σ : bh_S) (X : xs_S), mo_R m rr mb σ X → mo_F mb σ0 σ → sm (mo_G m rr mb σ0) (f_X10_ends_b2 N n m x1 σ) (g_X10_ends_b2 N n x1 X) := by
  intro n
  induction n with
  | zero => intro x1 σ X h hF; exact sm_none
  | succ n ih =>
    intro x1 σ X h hF
    unfold f_X10_ends_b2 g_X10_ends_b2
    refine mo_rdI h rfl ?_
    refine sm_ite (fun h1 => ?_) (fun h1 => ?_)
    · exact q_X10_ends_b77 N  h hF
    · refine mo_rdI h rfl ?_
      refine sm_ite (fun h2 => ?_) (fun h2 => ?_)
      · refine mo_rdR h rfl ?_
        refine sm_nn ?_
        refine mo_ldI (k := 23) (n := 16) h rfl rfl rfl (fun v11 h9 => ?_)
        refine mo_rdI h rfl ?_
        refine mo_ck h ?_
        refine sm_call (q_X10_wasteOf x1 v11 (((X 6 0) / 24) - 1)  h hF) ?_
        rintro v16 σ17 _ X17 ⟨rfl, h, hF⟩
        refine mo_rdR h rfl ?_
        refine sm_nn ?_
        refine mo_ldI (k := 23) (n := 16) h rfl rfl rfl (fun v23 h9 => ?_)
        refine mo_stI (k := 23) (n := 16) h hF rfl rfl rfl (fun σ25 X25 h9 h hF => ?_)
        refine mo_rdR h rfl ?_
        refine sm_nn ?_
        refine mo_ldI (k := 25) (n := 16) h rfl rfl rfl (fun v31 h9 => ?_)
        refine mo_stI (k := 25) (n := 16) h hF rfl rfl rfl (fun σ33 X33 h9 h hF => ?_)
        refine mo_rdI h rfl ?_
        refine mo_wrI h hF rfl (fun σ37 X37 h9 h hF => ?_)
        exact ih (x1 + 1) σ37 X37 h hF
      · exact q_X10_ends_b77 N  h hF
def g_X10_ends (N : Nat)  (X : xs_S) : Option (Unit × xs_S) :=
  g_X10_ends_b2 N N 0 X
set_option maxRecDepth 100000 in
theorem q_X10_ends {m mb : Nat} {rr : Nat → Nat} {σ0 : bh_S} (N : Nat)  {σ : bh_S} {X : xs_S} (h : mo_R m rr mb σ X) (hF : mo_F mb σ0 σ) : sm (mo_G m rr mb σ0) (f_X10_ends N m σ) (g_X10_ends N  X) := by
  unfold f_X10_ends g_X10_ends
  exact q_X10_ends_b2 N N 0 _ _ h hF
/-! BeetHouseModel.hours(I)I -/
def g_X10_hours_b64 (N : Nat) (k35 : Int32 → Int32 → Int32 → xs_S → Option (Int32 × xs_S)) : Nat → Int32 → Int32 → Int32 → Int32 → xs_S → Option (Int32 × xs_S)
  | 0, _, _, _, _, _ => none
  | n + 1, x1, x2, x3, x4, X =>
    if (X 8 0) ≤ x4 then
      xs_bnd (g_X10_unloads N  X) fun v5 X6 =>
      xs_bnd (g_X10_eats N  X6) fun v9 X10 =>
      xs_bnd (g_X10_ends N  X10) fun v13 X14 =>
      k35 x1 (x2 + v9) (x3 + 1) X14
    else
      xs_bnd (g_X10_arrives x4 X) fun v17 X18 =>
      g_X10_hours_b64 N k35 n x1 x2 x3 (x4 + 1) X18
set_option maxRecDepth 100000 in
theorem q_X10_hours_b64 {m mb : Nat} {rr : Nat → Nat} {σ0 : bh_S} (N : Nat) (k35 : Nat → Int32 → Int32 → Int32 → bh_S → Option (Int32 × bh_S)) (K35 : Int32 → Int32 → Int32 → xs_S → Option (Int32 × xs_S)) (hk35 : ∀ (x1 : Int32) (x2 : Int32) (x3 : Int32) (σ : bh_S) (X : xs_S), mo_R m rr mb σ X → mo_F mb σ0 σ → sm (mo_G m rr mb σ0) (k35 m x1 x2 x3 σ) (K35 x1 x2 x3 X)) : ∀ (n : Nat) (x1 : Int32) (x2 : Int32) (x3 : Int32) (x4 : Int32) (σ : bh_S) (X : xs_S), mo_R m rr mb σ X → mo_F mb σ0 σ → sm (mo_G m rr mb σ0) (f_X10_hours_b64 N k35 n m x1 x2 x3 x4 σ) (g_X10_hours_b64 N K35 n x1 x2 x3 x4 X) := by
  intro n
  induction n with
  | zero => intro x1 x2 x3 x4 σ X h hF; exact sm_none
  | succ n ih =>
    intro x1 x2 x3 x4 σ X h hF
    unfold f_X10_hours_b64 g_X10_hours_b64
    refine mo_rdI h rfl ?_
    refine sm_ite (fun h1 => ?_) (fun h1 => ?_)
    · refine mo_ck h ?_
      refine sm_call (q_X10_unloads N  h hF) ?_
      rintro v5 σ6 _ X6 ⟨rfl, h, hF⟩
      refine mo_ck h ?_
      refine sm_call (q_X10_eats N  h hF) ?_
      rintro v9 σ10 _ X10 ⟨rfl, h, hF⟩
      refine mo_ck h ?_
      refine sm_call (q_X10_ends N  h hF) ?_
      rintro v13 σ14 _ X14 ⟨rfl, h, hF⟩
      exact hk35 x1 (x2 + v9) (x3 + 1) σ14 X14 h hF
    · refine mo_ck h ?_
      refine sm_call (q_X10_arrives x4  h hF) ?_
      rintro v17 σ18 _ X18 ⟨rfl, h, hF⟩
      exact ih x1 x2 x3 (x4 + 1) σ18 X18 h hF
def g_X10_hours_b61 (N : Nat) (k35 : Int32 → Int32 → Int32 → xs_S → Option (Int32 × xs_S)) (x1 : Int32) (x2 : Int32) (x3 : Int32) (X : xs_S) : Option (Int32 × xs_S) :=
  g_X10_hours_b64 N k35 N x1 x2 x3 0 X
set_option maxRecDepth 100000 in
theorem q_X10_hours_b61 {m mb : Nat} {rr : Nat → Nat} {σ0 : bh_S} (N : Nat) (k35 : Nat → Int32 → Int32 → Int32 → bh_S → Option (Int32 × bh_S)) (K35 : Int32 → Int32 → Int32 → xs_S → Option (Int32 × xs_S)) (hk35 : ∀ (x1 : Int32) (x2 : Int32) (x3 : Int32) (σ : bh_S) (X : xs_S), mo_R m rr mb σ X → mo_F mb σ0 σ → sm (mo_G m rr mb σ0) (k35 m x1 x2 x3 σ) (K35 x1 x2 x3 X)) (x1 : Int32) (x2 : Int32) (x3 : Int32) {σ : bh_S} {X : xs_S} (h : mo_R m rr mb σ X) (hF : mo_F mb σ0 σ) : sm (mo_G m rr mb σ0) (f_X10_hours_b61 N k35 m x1 x2 x3 σ) (g_X10_hours_b61 N K35 x1 x2 x3 X) := by
  unfold f_X10_hours_b61 g_X10_hours_b61
  exact q_X10_hours_b64 N k35 K35 hk35 N x1 x2 x3 0 _ _ h hF
def g_X10_hours_b35 (N : Nat) : Nat → Int32 → Int32 → Int32 → xs_S → Option (Int32 × xs_S)
  | 0, _, _, _, _ => none
  | n + 1, x1, x2, x3, X =>
    if x1 ≤ x3 then
      some (x2, X)
    else
      xs_lt (xs_up X 6 0 ((X 6 0) + 1)) fun X4 =>
      if (X4 17 0) = 0 then
        xs_bnd (g_X10_lifts N  X4) fun v10 X11 =>
        g_X10_hours_b61 N (g_X10_hours_b35 N n) x1 x2 x3 X11
      else
        g_X10_hours_b61 N (g_X10_hours_b35 N n) x1 x2 x3 X4
set_option maxRecDepth 100000 in
theorem q_X10_hours_b35 {m mb : Nat} {rr : Nat → Nat} {σ0 : bh_S} (N : Nat) : ∀ (n : Nat) (x1 : Int32) (x2 : Int32) (x3 : Int32) (σ : bh_S) (X : xs_S), mo_R m rr mb σ X → mo_F mb σ0 σ → sm (mo_G m rr mb σ0) (f_X10_hours_b35 N n m x1 x2 x3 σ) (g_X10_hours_b35 N n x1 x2 x3 X) := by
  intro n
  induction n with
  | zero => intro x1 x2 x3 σ X h hF; exact sm_none
  | succ n ih =>
    intro x1 x2 x3 σ X h hF
    unfold f_X10_hours_b35 g_X10_hours_b35
    refine sm_ite (fun h1 => ?_) (fun h1 => ?_)
    · exact sm_ret ⟨rfl, h, hF⟩
    · refine mo_rdI h rfl ?_
      refine mo_wrI h hF rfl (fun σ4 X4 h9 h hF => ?_)
      refine mo_rdI h rfl ?_
      refine sm_ite (fun h2 => ?_) (fun h2 => ?_)
      · refine mo_ck h ?_
        refine sm_call (q_X10_lifts N  h hF) ?_
        rintro v10 σ11 _ X11 ⟨rfl, h, hF⟩
        exact q_X10_hours_b61 N _ (g_X10_hours_b35 N n) ih x1 x2 x3 h hF
      · exact q_X10_hours_b61 N _ (g_X10_hours_b35 N n) ih x1 x2 x3 h hF
def g_X10_hours (N : Nat) (p1 : Int32) (X : xs_S) : Option (Int32 × xs_S) :=
  if 1 ≤ p1 then
    if p1 ≤ (2400 - (X 6 0)) then
      g_X10_hours_b35 N N p1 0 0 X
    else
      xs_bnd (g_X10_refuse (-6) X) fun v6 X7 =>
      some (v6, X7)
  else
    xs_bnd (g_X10_refuse (-4) X) fun v10 X11 =>
    some (v10, X11)
set_option maxRecDepth 100000 in
theorem q_X10_hours {m mb : Nat} {rr : Nat → Nat} {σ0 : bh_S} (N : Nat) (p1 : Int32) {σ : bh_S} {X : xs_S} (h : mo_R m rr mb σ X) (hF : mo_F mb σ0 σ) : sm (mo_G m rr mb σ0) (f_X10_hours N m p1 σ) (g_X10_hours N p1 X) := by
  unfold f_X10_hours g_X10_hours
  refine sm_ite (fun h1 => ?_) (fun h1 => ?_)
  · refine mo_rdI h rfl ?_
    refine sm_ite (fun h2 => ?_) (fun h2 => ?_)
    · exact q_X10_hours_b35 N N p1 0 0 _ _ h hF
    · refine mo_ck h ?_
      refine sm_call (q_X10_refuse (-6)  h hF) ?_
      rintro v6 σ7 _ X7 ⟨rfl, h, hF⟩
      exact sm_ret ⟨rfl, h, hF⟩
  · refine mo_ck h ?_
    refine sm_call (q_X10_refuse (-4)  h hF) ?_
    rintro v10 σ11 _ X11 ⟨rfl, h, hF⟩
    exact sm_ret ⟨rfl, h, hF⟩
/-! BeetHouseModel.owed(I)I -/
def g_X10_owed (N : Nat) (p1 : Int32) (X : xs_S) : Option (Int32 × xs_S) :=
  xs_bnd (g_X10_isIn p1 6 X) fun v1 X2 =>
  if v1 = 0 then
    xs_bnd (g_X10_refuse (-1) X2) fun v6 X7 =>
    some (v6, X7)
  else
    xs_bnd (g_X10_owedOf N p1 X2) fun v10 X11 =>
    some (v10 + 1000000000, X11)
set_option maxRecDepth 100000 in
theorem q_X10_owed {m mb : Nat} {rr : Nat → Nat} {σ0 : bh_S} (N : Nat) (p1 : Int32) {σ : bh_S} {X : xs_S} (h : mo_R m rr mb σ X) (hF : mo_F mb σ0 σ) : sm (mo_G m rr mb σ0) (f_X10_owed N m p1 σ) (g_X10_owed N p1 X) := by
  unfold f_X10_owed g_X10_owed
  refine sm_call (q_X10_isIn p1 6  h hF) ?_
  rintro v1 σ2 _ X2 ⟨rfl, h, hF⟩
  refine sm_ite (fun h1 => ?_) (fun h1 => ?_)
  · refine mo_ck h ?_
    refine sm_call (q_X10_refuse (-1)  h hF) ?_
    rintro v6 σ7 _ X7 ⟨rfl, h, hF⟩
    exact sm_ret ⟨rfl, h, hF⟩
  · refine mo_ck h ?_
    refine sm_call (q_X10_owedOf N p1  h hF) ?_
    rintro v10 σ11 _ X11 ⟨rfl, h, hF⟩
    exact sm_ret ⟨rfl, h, hF⟩
/-! BeetHouseModel.next()I -/
def g_X10_next (N : Nat)  (X : xs_S) : Option (Int32 × xs_S) :=
  xs_bnd (g_X10_nextOf N  X) fun v2 X3 =>
  some (v2, X3)
set_option maxRecDepth 100000 in
theorem q_X10_next {m mb : Nat} {rr : Nat → Nat} {σ0 : bh_S} (N : Nat)  {σ : bh_S} {X : xs_S} (h : mo_R m rr mb σ X) (hF : mo_F mb σ0 σ) : sm (mo_G m rr mb σ0) (f_X10_next N m σ) (g_X10_next N  X) := by
  unfold f_X10_next g_X10_next
  refine mo_ck h ?_
  refine sm_call (q_X10_nextOf N  h hF) ?_
  rintro v2 σ3 _ X3 ⟨rfl, h, hF⟩
  exact sm_ret ⟨rfl, h, hF⟩
/-! BeetHouseModel.lies(II)I -/
def g_X10_lies_b39 (N : Nat) (k8 : Int32 → Int32 → Int32 → Int32 → xs_S → Option (Int32 × xs_S)) (x1 : Int32) (x2 : Int32) (x4 : Int32) (t0 : Int32) (t1 : Int32) (X : xs_S) : Option (Int32 × xs_S) :=
  k8 x1 x2 (t1 + t0) (x4 + 1) X
set_option maxRecDepth 100000 in
theorem q_X10_lies_b39 {m mb : Nat} {rr : Nat → Nat} {σ0 : bh_S} (N : Nat) (k8 : Nat → Int32 → Int32 → Int32 → Int32 → bh_S → Option (Int32 × bh_S)) (K8 : Int32 → Int32 → Int32 → Int32 → xs_S → Option (Int32 × xs_S)) (hk8 : ∀ (x1 : Int32) (x2 : Int32) (x3 : Int32) (x4 : Int32) (σ : bh_S) (X : xs_S), mo_R m rr mb σ X → mo_F mb σ0 σ → sm (mo_G m rr mb σ0) (k8 m x1 x2 x3 x4 σ) (K8 x1 x2 x3 x4 X)) (x1 : Int32) (x2 : Int32) (x4 : Int32) (t0 : Int32) (t1 : Int32) {σ : bh_S} {X : xs_S} (h : mo_R m rr mb σ X) (hF : mo_F mb σ0 σ) : sm (mo_G m rr mb σ0) (f_X10_lies_b39 N k8 m x1 x2 x4 t0 t1 σ) (g_X10_lies_b39 N K8 x1 x2 x4 t0 t1 X) := by
  unfold f_X10_lies_b39 g_X10_lies_b39
  exact hk8 x1 x2 (t1 + t0) (x4 + 1) σ X h hF
def g_X10_lies_b118 (N : Nat) (x4 : Int32) (x5 : Int32) (X : xs_S) : Option (Int32 × xs_S) :=
  (xs_ld 16 X 23 x4).bind fun v5 =>
  some (v5 - x5, X)
set_option maxRecDepth 100000 in
theorem q_X10_lies_b118 {m mb : Nat} {rr : Nat → Nat} {σ0 : bh_S} (N : Nat) (x4 : Int32) (x5 : Int32) {σ : bh_S} {X : xs_S} (h : mo_R m rr mb σ X) (hF : mo_F mb σ0 σ) : sm (mo_G m rr mb σ0) (f_X10_lies_b118 N m x4 x5 σ) (g_X10_lies_b118 N x4 x5 X) := by
  unfold f_X10_lies_b118 g_X10_lies_b118
  refine mo_rdR h rfl ?_
  refine sm_nn ?_
  refine mo_ldI (k := 23) (n := 16) h rfl rfl rfl (fun v5 h9 => ?_)
  exact sm_ret ⟨rfl, h, hF⟩
def g_X10_lies_b78 (N : Nat) : Nat → Int32 → Int32 → Int32 → Int32 → xs_S → Option (Int32 × xs_S)
  | 0, _, _, _, _, _ => none
  | n + 1, x3, x4, x5, x6, X =>
    if x3 < x6 then
      g_X10_lies_b118 N x4 x5 X
    else
      if 2400 < x6 then
        g_X10_lies_b118 N x4 x5 X
      else
        xs_bnd (g_X10_wasteOf x4 x5 ((x6 / 24) - 1) X) fun v4 X5 =>
        g_X10_lies_b78 N n x3 x4 (x5 - v4) (x6 + 24) X5
set_option maxRecDepth 100000 in
theorem q_X10_lies_b78 {m mb : Nat} {rr : Nat → Nat} {σ0 : bh_S} (N : Nat) : ∀ (n : Nat) (x3 : Int32) (x4 : Int32) (x5 : Int32) (x6 : Int32) (σ : bh_S) (X : xs_S), mo_R m rr mb σ X → mo_F mb σ0 σ → sm (mo_G m rr mb σ0) (f_X10_lies_b78 N n m x3 x4 x5 x6 σ) (g_X10_lies_b78 N n x3 x4 x5 x6 X) := by
  intro n
  induction n with
  | zero => intro x3 x4 x5 x6 σ X h hF; exact sm_none
  | succ n ih =>
    intro x3 x4 x5 x6 σ X h hF
    unfold f_X10_lies_b78 g_X10_lies_b78
    refine sm_ite (fun h1 => ?_) (fun h1 => ?_)
    · exact q_X10_lies_b118 N x4 x5 h hF
    · refine sm_ite (fun h2 => ?_) (fun h2 => ?_)
      · exact q_X10_lies_b118 N x4 x5 h hF
      · refine mo_ck h ?_
        refine sm_call (q_X10_wasteOf x4 x5 ((x6 / 24) - 1)  h hF) ?_
        rintro v4 σ5 _ X5 ⟨rfl, h, hF⟩
        exact ih x3 x4 (x5 - v4) (x6 + 24) σ5 X5 h hF
def g_X10_lies_b8 (N : Nat) : Nat → Int32 → Int32 → Int32 → Int32 → xs_S → Option (Int32 × xs_S)
  | 0, _, _, _, _, _ => none
  | n + 1, x1, x2, x3, x4, X =>
    if (X 48 0) ≤ x4 then
      (xs_ld 8 X 45 x2).bind fun v8 =>
      (xs_ld 16 X 23 v8).bind fun v14 =>
      g_X10_lies_b78 N N x3 v8 v14 ((((X 6 0) / 24) + 1) * 24) X
    else
      if ((x1 >>> (x4 &&& 31)) &&& 1) = 1 then
        (xs_ld 8 X 46 x4).bind fun v23 =>
        g_X10_lies_b39 N (g_X10_lies_b8 N n) x1 x2 x4 v23 x3 X
      else
        g_X10_lies_b39 N (g_X10_lies_b8 N n) x1 x2 x4 0 x3 X
set_option maxRecDepth 100000 in
theorem q_X10_lies_b8 {m mb : Nat} {rr : Nat → Nat} {σ0 : bh_S} (N : Nat) : ∀ (n : Nat) (x1 : Int32) (x2 : Int32) (x3 : Int32) (x4 : Int32) (σ : bh_S) (X : xs_S), mo_R m rr mb σ X → mo_F mb σ0 σ → sm (mo_G m rr mb σ0) (f_X10_lies_b8 N n m x1 x2 x3 x4 σ) (g_X10_lies_b8 N n x1 x2 x3 x4 X) := by
  intro n
  induction n with
  | zero => intro x1 x2 x3 x4 σ X h hF; exact sm_none
  | succ n ih =>
    intro x1 x2 x3 x4 σ X h hF
    unfold f_X10_lies_b8 g_X10_lies_b8
    refine mo_rdI h rfl ?_
    refine sm_ite (fun h1 => ?_) (fun h1 => ?_)
    · refine mo_rdR h rfl ?_
      refine sm_nn ?_
      refine mo_ldI (k := 45) (n := 8) h rfl rfl rfl (fun v8 h9 => ?_)
      refine mo_rdR h rfl ?_
      refine sm_nn ?_
      refine mo_ldI (k := 23) (n := 16) h rfl rfl rfl (fun v14 h9 => ?_)
      refine mo_rdI h rfl ?_
      exact q_X10_lies_b78 N N x3 v8 v14 ((((X 6 0) / 24) + 1) * 24) _ _ h hF
    · refine sm_ite (fun h2 => ?_) (fun h2 => ?_)
      · refine mo_rdR h rfl ?_
        refine sm_nn ?_
        refine mo_ldI (k := 46) (n := 8) h rfl rfl rfl (fun v23 h9 => ?_)
        exact q_X10_lies_b39 N _ (g_X10_lies_b8 N n) ih x1 x2 x4 v23 x3 h hF
      · exact q_X10_lies_b39 N _ (g_X10_lies_b8 N n) ih x1 x2 x4 0 x3 h hF
def g_X10_lies (N : Nat) (p1 : Int32) (p2 : Int32) (X : xs_S) : Option (Int32 × xs_S) :=
  g_X10_lies_b8 N N p1 p2 (X 6 0) 0 X
set_option maxRecDepth 100000 in
theorem q_X10_lies {m mb : Nat} {rr : Nat → Nat} {σ0 : bh_S} (N : Nat) (p1 : Int32) (p2 : Int32) {σ : bh_S} {X : xs_S} (h : mo_R m rr mb σ X) (hF : mo_F mb σ0 σ) : sm (mo_G m rr mb σ0) (f_X10_lies N m p1 p2 σ) (g_X10_lies N p1 p2 X) := by
  unfold f_X10_lies g_X10_lies
  refine mo_rdI h rfl ?_
  exact q_X10_lies_b8 N N p1 p2 (X 6 0) 0 _ _ h hF
/-! BeetHouseModel.knows()Z -/
def g_X10_knows_b58 (N : Nat) (k7 : Int32 → xs_S → Option (Int32 × xs_S)) (x1 : Int32) (X : xs_S) : Option (Int32 × xs_S) :=
  k7 (x1 + 1) X
set_option maxRecDepth 100000 in
theorem q_X10_knows_b58 {m mb : Nat} {rr : Nat → Nat} {σ0 : bh_S} (N : Nat) (k7 : Nat → Int32 → bh_S → Option (Int32 × bh_S)) (K7 : Int32 → xs_S → Option (Int32 × xs_S)) (hk7 : ∀ (x1 : Int32) (σ : bh_S) (X : xs_S), mo_R m rr mb σ X → mo_F mb σ0 σ → sm (mo_G m rr mb σ0) (k7 m x1 σ) (K7 x1 X)) (x1 : Int32) {σ : bh_S} {X : xs_S} (h : mo_R m rr mb σ X) (hF : mo_F mb σ0 σ) : sm (mo_G m rr mb σ0) (f_X10_knows_b58 N k7 m x1 σ) (g_X10_knows_b58 N K7 x1 X) := by
  unfold f_X10_knows_b58 g_X10_knows_b58
  exact hk7 (x1 + 1) σ X h hF
def g_X10_knows_b113 (N : Nat) (k75 : Int32 → xs_S → Option (Int32 × xs_S)) (x1 : Int32) (t0 : Int32) (t1 : Int32) (X : xs_S) : Option (Int32 × xs_S) :=
  (bh_nz (X 10 0)).bind fun _ =>
  (xs_st 8 X 46 x1 ((((t1 * t0) + (X 10 0)) - 1) / (X 10 0))).bind fun X10 =>
  k75 (x1 + 1) X10
set_option maxRecDepth 100000 in
theorem q_X10_knows_b113 {m mb : Nat} {rr : Nat → Nat} {σ0 : bh_S} (N : Nat) (k75 : Nat → Int32 → bh_S → Option (Int32 × bh_S)) (K75 : Int32 → xs_S → Option (Int32 × xs_S)) (hk75 : ∀ (x1 : Int32) (σ : bh_S) (X : xs_S), mo_R m rr mb σ X → mo_F mb σ0 σ → sm (mo_G m rr mb σ0) (k75 m x1 σ) (K75 x1 X)) (x1 : Int32) (t0 : Int32) (t1 : Int32) {σ : bh_S} {X : xs_S} (h : mo_R m rr mb σ X) (hF : mo_F mb σ0 σ) : sm (mo_G m rr mb σ0) (f_X10_knows_b113 N k75 m x1 t0 t1 σ) (g_X10_knows_b113 N K75 x1 t0 t1 X) := by
  unfold f_X10_knows_b113 g_X10_knows_b113
  refine mo_rdR h rfl ?_
  refine mo_rdI h rfl ?_
  refine mo_rdI h rfl ?_
  refine sm_op (fun _ h9 => ?_)
  refine sm_nn ?_
  refine mo_stI (k := 46) (n := 8) h hF rfl rfl rfl (fun σ10 X10 h9 h hF => ?_)
  exact hk75 (x1 + 1) σ10 X10 h hF
def g_X10_knows_b227 (N : Nat) (k163 : Int32 → xs_S → Option (Int32 × xs_S)) (k171 : Int32 → Int32 → Int32 → xs_S → Option (Int32 × xs_S)) (x1 : Int32) (x2 : Int32) (x3 : Int32) (X : xs_S) : Option (Int32 × xs_S) :=
  k171 x1 x2 (x3 + 1) X
set_option maxRecDepth 100000 in
theorem q_X10_knows_b227 {m mb : Nat} {rr : Nat → Nat} {σ0 : bh_S} (N : Nat) (k163 : Nat → Int32 → bh_S → Option (Int32 × bh_S)) (K163 : Int32 → xs_S → Option (Int32 × xs_S)) (hk163 : ∀ (x1 : Int32) (σ : bh_S) (X : xs_S), mo_R m rr mb σ X → mo_F mb σ0 σ → sm (mo_G m rr mb σ0) (k163 m x1 σ) (K163 x1 X)) (k171 : Nat → Int32 → Int32 → Int32 → bh_S → Option (Int32 × bh_S)) (K171 : Int32 → Int32 → Int32 → xs_S → Option (Int32 × xs_S)) (hk171 : ∀ (x1 : Int32) (x2 : Int32) (x3 : Int32) (σ : bh_S) (X : xs_S), mo_R m rr mb σ X → mo_F mb σ0 σ → sm (mo_G m rr mb σ0) (k171 m x1 x2 x3 σ) (K171 x1 x2 x3 X)) (x1 : Int32) (x2 : Int32) (x3 : Int32) {σ : bh_S} {X : xs_S} (h : mo_R m rr mb σ X) (hF : mo_F mb σ0 σ) : sm (mo_G m rr mb σ0) (f_X10_knows_b227 N k163 k171 m x1 x2 x3 σ) (g_X10_knows_b227 N K163 K171 x1 x2 x3 X) := by
  unfold f_X10_knows_b227 g_X10_knows_b227
  exact hk171 x1 x2 (x3 + 1) σ X h hF
def g_X10_knows_b226 (N : Nat) (k163 : Int32 → xs_S → Option (Int32 × xs_S)) (k171 : Int32 → Int32 → Int32 → xs_S → Option (Int32 × xs_S)) (x1 : Int32) (x3 : Int32) (t0 : Int32) (X : xs_S) : Option (Int32 × xs_S) :=
  g_X10_knows_b227 N k163 k171 x1 t0 x3 X
set_option maxRecDepth 100000 in
theorem q_X10_knows_b226 {m mb : Nat} {rr : Nat → Nat} {σ0 : bh_S} (N : Nat) (k163 : Nat → Int32 → bh_S → Option (Int32 × bh_S)) (K163 : Int32 → xs_S → Option (Int32 × xs_S)) (hk163 : ∀ (x1 : Int32) (σ : bh_S) (X : xs_S), mo_R m rr mb σ X → mo_F mb σ0 σ → sm (mo_G m rr mb σ0) (k163 m x1 σ) (K163 x1 X)) (k171 : Nat → Int32 → Int32 → Int32 → bh_S → Option (Int32 × bh_S)) (K171 : Int32 → Int32 → Int32 → xs_S → Option (Int32 × xs_S)) (hk171 : ∀ (x1 : Int32) (x2 : Int32) (x3 : Int32) (σ : bh_S) (X : xs_S), mo_R m rr mb σ X → mo_F mb σ0 σ → sm (mo_G m rr mb σ0) (k171 m x1 x2 x3 σ) (K171 x1 x2 x3 X)) (x1 : Int32) (x3 : Int32) (t0 : Int32) {σ : bh_S} {X : xs_S} (h : mo_R m rr mb σ X) (hF : mo_F mb σ0 σ) : sm (mo_G m rr mb σ0) (f_X10_knows_b226 N k163 k171 m x1 x3 t0 σ) (g_X10_knows_b226 N K163 K171 x1 x3 t0 X) := by
  unfold f_X10_knows_b226 g_X10_knows_b226
  exact q_X10_knows_b227 N k163 K163 hk163 k171 K171 hk171 x1 t0 x3 h hF
def g_X10_knows_b220 (N : Nat) (k163 : Int32 → xs_S → Option (Int32 × xs_S)) (k171 : Int32 → Int32 → Int32 → xs_S → Option (Int32 × xs_S)) (x1 : Int32) (x3 : Int32) (x4 : Int32) (X : xs_S) : Option (Int32 × xs_S) :=
  g_X10_knows_b226 N k163 k171 x1 x3 x4 X
set_option maxRecDepth 100000 in
theorem q_X10_knows_b220 {m mb : Nat} {rr : Nat → Nat} {σ0 : bh_S} (N : Nat) (k163 : Nat → Int32 → bh_S → Option (Int32 × bh_S)) (K163 : Int32 → xs_S → Option (Int32 × xs_S)) (hk163 : ∀ (x1 : Int32) (σ : bh_S) (X : xs_S), mo_R m rr mb σ X → mo_F mb σ0 σ → sm (mo_G m rr mb σ0) (k163 m x1 σ) (K163 x1 X)) (k171 : Nat → Int32 → Int32 → Int32 → bh_S → Option (Int32 × bh_S)) (K171 : Int32 → Int32 → Int32 → xs_S → Option (Int32 × xs_S)) (hk171 : ∀ (x1 : Int32) (x2 : Int32) (x3 : Int32) (σ : bh_S) (X : xs_S), mo_R m rr mb σ X → mo_F mb σ0 σ → sm (mo_G m rr mb σ0) (k171 m x1 x2 x3 σ) (K171 x1 x2 x3 X)) (x1 : Int32) (x3 : Int32) (x4 : Int32) {σ : bh_S} {X : xs_S} (h : mo_R m rr mb σ X) (hF : mo_F mb σ0 σ) : sm (mo_G m rr mb σ0) (f_X10_knows_b220 N k163 k171 m x1 x3 x4 σ) (g_X10_knows_b220 N K163 K171 x1 x3 x4 X) := by
  unfold f_X10_knows_b220 g_X10_knows_b220
  exact q_X10_knows_b226 N k163 K163 hk163 k171 K171 hk171 x1 x3 x4 h hF
def g_X10_knows_b171 (N : Nat) (k163 : Int32 → xs_S → Option (Int32 × xs_S)) : Nat → Int32 → Int32 → Int32 → xs_S → Option (Int32 × xs_S)
  | 0, _, _, _, _ => none
  | n + 1, x1, x2, x3, X =>
    if (X 48 0) ≤ x3 then
      (xs_st 257 X 47 x1 x2).bind fun X8 =>
      k163 (x1 + (-1)) X8
    else
      if ((x1 >>> (x3 &&& 31)) &&& 1) = 1 then
        g_X10_knows_b227 N k163 (g_X10_knows_b171 N k163 n) x1 x2 x3 X
      else
        xs_bnd (g_X10_lies N x1 x3 X) fun v12 X13 =>
        (xs_ld 257 X13 47 (x1 ||| (1 <<< (x3 &&& 31)))).bind fun v19 =>
        if x2 < 0 then
          g_X10_knows_b220 N k163 (g_X10_knows_b171 N k163 n) x1 x3 (v12 + v19) X13
        else
          if x2 ≤ (v12 + v19) then
            g_X10_knows_b226 N k163 (g_X10_knows_b171 N k163 n) x1 x3 x2 X13
          else
            g_X10_knows_b220 N k163 (g_X10_knows_b171 N k163 n) x1 x3 (v12 + v19) X13
set_option maxRecDepth 100000 in
theorem q_X10_knows_b171 {m mb : Nat} {rr : Nat → Nat} {σ0 : bh_S} (N : Nat) (k163 : Nat → Int32 → bh_S → Option (Int32 × bh_S)) (K163 : Int32 → xs_S → Option (Int32 × xs_S)) (hk163 : ∀ (x1 : Int32) (σ : bh_S) (X : xs_S), mo_R m rr mb σ X → mo_F mb σ0 σ → sm (mo_G m rr mb σ0) (k163 m x1 σ) (K163 x1 X)) : ∀ (n : Nat) (x1 : Int32) (x2 : Int32) (x3 : Int32) (σ : bh_S) (X : xs_S), mo_R m rr mb σ X → mo_F mb σ0 σ → sm (mo_G m rr mb σ0) (f_X10_knows_b171 N k163 n m x1 x2 x3 σ) (g_X10_knows_b171 N K163 n x1 x2 x3 X) := by
  intro n
  induction n with
  | zero => intro x1 x2 x3 σ X h hF; exact sm_none
  | succ n ih =>
    intro x1 x2 x3 σ X h hF
    unfold f_X10_knows_b171 g_X10_knows_b171
    refine mo_rdI h rfl ?_
    refine sm_ite (fun h1 => ?_) (fun h1 => ?_)
    · refine mo_rdR h rfl ?_
      refine sm_nn ?_
      refine mo_stI (k := 47) (n := 257) h hF rfl rfl rfl (fun σ8 X8 h9 h hF => ?_)
      exact hk163 (x1 + (-1)) σ8 X8 h hF
    · refine sm_ite (fun h2 => ?_) (fun h2 => ?_)
      · exact q_X10_knows_b227 N k163 K163 hk163 _ (g_X10_knows_b171 N K163 n) ih x1 x2 x3 h hF
      · refine mo_ck h ?_
        refine sm_call (q_X10_lies N x1 x3  h hF) ?_
        rintro v12 σ13 _ X13 ⟨rfl, h, hF⟩
        refine mo_rdR h rfl ?_
        refine sm_nn ?_
        refine mo_ldI (k := 47) (n := 257) h rfl rfl rfl (fun v19 h9 => ?_)
        refine sm_ite (fun h3 => ?_) (fun h3 => ?_)
        · exact q_X10_knows_b220 N k163 K163 hk163 _ (g_X10_knows_b171 N K163 n) ih x1 x3 (v12 + v19) h hF
        · refine sm_ite (fun h4 => ?_) (fun h4 => ?_)
          · exact q_X10_knows_b226 N k163 K163 hk163 _ (g_X10_knows_b171 N K163 n) ih x1 x3 x2 h hF
          · exact q_X10_knows_b220 N k163 K163 hk163 _ (g_X10_knows_b171 N K163 n) ih x1 x3 (v12 + v19) h hF
def g_X10_knows_b163 (N : Nat) : Nat → Int32 → xs_S → Option (Int32 × xs_S)
  | 0, _, _ => none
  | n + 1, x1, X =>
    if x1 < 0 then
      xs_retZ X 1
    else
      g_X10_knows_b171 N (g_X10_knows_b163 N n) N x1 (-1) 0 X
set_option maxRecDepth 100000 in
theorem q_X10_knows_b163 {m mb : Nat} {rr : Nat → Nat} {σ0 : bh_S} (N : Nat) : ∀ (n : Nat) (x1 : Int32) (σ : bh_S) (X : xs_S), mo_R m rr mb σ X → mo_F mb σ0 σ → sm (mo_G m rr mb σ0) (f_X10_knows_b163 N n m x1 σ) (g_X10_knows_b163 N n x1 X) := by
  intro n
  induction n with
  | zero => intro x1 σ X h hF; exact sm_none
  | succ n ih =>
    intro x1 σ X h hF
    unfold f_X10_knows_b163 g_X10_knows_b163
    refine sm_ite (fun h1 => ?_) (fun h1 => ?_)
    · exact sm_retZ ⟨rfl, h, hF⟩
    · exact q_X10_knows_b171 N _ (g_X10_knows_b163 N n) ih N x1 (-1) 0 _ _ h hF
def g_X10_knows_b75 (N : Nat) : Nat → Int32 → xs_S → Option (Int32 × xs_S)
  | 0, _, _ => none
  | n + 1, x1, X =>
    if (X 48 0) ≤ x1 then
      (xs_st 257 X 47 ((1 <<< ((X 48 0) &&& 31)) - 1) 0).bind fun X10 =>
      g_X10_knows_b163 N N ((1 <<< ((X10 48 0) &&& 31)) - 2) X10
    else
      (xs_ld 8 X 45 x1).bind fun v20 =>
      (xs_ld 16 X 22 v20).bind fun v24 =>
      (xs_ld 8 X 45 x1).bind fun v32 =>
      (xs_ld 16 X 28 v32).bind fun v36 =>
      if v36 = 0 then
        g_X10_knows_b113 N (g_X10_knows_b75 N n) x1 1 v24 X
      else
        g_X10_knows_b113 N (g_X10_knows_b75 N n) x1 2 v24 X
set_option maxRecDepth 100000 in
theorem q_X10_knows_b75 {m mb : Nat} {rr : Nat → Nat} {σ0 : bh_S} (N : Nat) : ∀ (n : Nat) (x1 : Int32) (σ : bh_S) (X : xs_S), mo_R m rr mb σ X → mo_F mb σ0 σ → sm (mo_G m rr mb σ0) (f_X10_knows_b75 N n m x1 σ) (g_X10_knows_b75 N n x1 X) := by
  intro n
  induction n with
  | zero => intro x1 σ X h hF; exact sm_none
  | succ n ih =>
    intro x1 σ X h hF
    unfold f_X10_knows_b75 g_X10_knows_b75
    refine mo_rdI h rfl ?_
    refine sm_ite (fun h1 => ?_) (fun h1 => ?_)
    · refine mo_rdR h rfl ?_
      refine mo_rdI h rfl ?_
      refine sm_nn ?_
      refine mo_stI (k := 47) (n := 257) h hF rfl rfl rfl (fun σ10 X10 h9 h hF => ?_)
      refine mo_rdI h rfl ?_
      exact q_X10_knows_b163 N N ((1 <<< ((X10 48 0) &&& 31)) - 2) _ _ h hF
    · refine mo_rdR h rfl ?_
      refine mo_rdR h rfl ?_
      refine sm_nn ?_
      refine mo_ldI (k := 45) (n := 8) h rfl rfl rfl (fun v20 h9 => ?_)
      refine sm_nn ?_
      refine mo_ldI (k := 22) (n := 16) h rfl rfl rfl (fun v24 h9 => ?_)
      refine mo_rdR h rfl ?_
      refine mo_rdR h rfl ?_
      refine sm_nn ?_
      refine mo_ldI (k := 45) (n := 8) h rfl rfl rfl (fun v32 h9 => ?_)
      refine sm_nn ?_
      refine mo_ldZ (k := 28) (n := 16) h rfl rfl rfl (fun v36 h9 => ?_)
      refine sm_ite (fun h2 => ?_) (fun h2 => ?_)
      · exact q_X10_knows_b113 N _ (g_X10_knows_b75 N n) ih x1 1 v24 h hF
      · exact q_X10_knows_b113 N _ (g_X10_knows_b75 N n) ih x1 2 v24 h hF
def g_X10_knows_b7 (N : Nat) : Nat → Int32 → xs_S → Option (Int32 × xs_S)
  | 0, _, _ => none
  | n + 1, x1, X =>
    if (X 7 0) ≤ x1 then
      if (X 10 0) = 0 then
        xs_retZ X 0
      else
        g_X10_knows_b75 N N 0 X
    else
      (xs_ld 16 X 22 x1).bind fun v11 =>
      if v11 = 0 then
        g_X10_knows_b58 N (g_X10_knows_b7 N n) x1 X
      else
        if (X 48 0) = 8 then
          xs_retZ X 0
        else
          (xs_st 8 X 45 (X 48 0) x1).bind fun X23 =>
          xs_lt (xs_up X23 48 0 ((X23 48 0) + 1)) fun X27 =>
          g_X10_knows_b58 N (g_X10_knows_b7 N n) x1 X27
set_option maxRecDepth 100000 in
theorem q_X10_knows_b7 {m mb : Nat} {rr : Nat → Nat} {σ0 : bh_S} (N : Nat) : ∀ (n : Nat) (x1 : Int32) (σ : bh_S) (X : xs_S), mo_R m rr mb σ X → mo_F mb σ0 σ → sm (mo_G m rr mb σ0) (f_X10_knows_b7 N n m x1 σ) (g_X10_knows_b7 N n x1 X) := by
  intro n
  induction n with
  | zero => intro x1 σ X h hF; exact sm_none
  | succ n ih =>
    intro x1 σ X h hF
    unfold f_X10_knows_b7 g_X10_knows_b7
    refine mo_rdI h rfl ?_
    refine sm_ite (fun h1 => ?_) (fun h1 => ?_)
    · refine mo_rdI h rfl ?_
      refine sm_ite (fun h2 => ?_) (fun h2 => ?_)
      · exact sm_retZ ⟨rfl, h, hF⟩
      · exact q_X10_knows_b75 N N 0 _ _ h hF
    · refine mo_rdR h rfl ?_
      refine sm_nn ?_
      refine mo_ldI (k := 22) (n := 16) h rfl rfl rfl (fun v11 h9 => ?_)
      refine sm_ite (fun h3 => ?_) (fun h3 => ?_)
      · exact q_X10_knows_b58 N _ (g_X10_knows_b7 N n) ih x1 h hF
      · refine mo_rdI h rfl ?_
        refine sm_ite (fun h4 => ?_) (fun h4 => ?_)
        · exact sm_retZ ⟨rfl, h, hF⟩
        · refine mo_rdR h rfl ?_
          refine mo_rdI h rfl ?_
          refine sm_nn ?_
          refine mo_stI (k := 45) (n := 8) h hF rfl rfl rfl (fun σ23 X23 h9 h hF => ?_)
          refine mo_rdI h rfl ?_
          refine mo_wrI h hF rfl (fun σ27 X27 h9 h hF => ?_)
          exact q_X10_knows_b58 N _ (g_X10_knows_b7 N n) ih x1 h hF
def g_X10_knows (N : Nat)  (X : xs_S) : Option (Int32 × xs_S) :=
  xs_lt (xs_up X 48 0 0) fun X1 =>
  g_X10_knows_b7 N N 0 X1
set_option maxRecDepth 100000 in
theorem q_X10_knows {m mb : Nat} {rr : Nat → Nat} {σ0 : bh_S} (N : Nat)  {σ : bh_S} {X : xs_S} (h : mo_R m rr mb σ X) (hF : mo_F mb σ0 σ) : sm (mo_G m rr mb σ0) (f_X10_knows N m σ) (g_X10_knows N  X) := by
  unfold f_X10_knows g_X10_knows
  refine mo_wrI h hF rfl (fun σ1 X1 h9 h hF => ?_)
  exact q_X10_knows_b7 N N 0 _ _ h hF
/-! BeetHouseModel.best()I -/
def g_X10_best (N : Nat)  (X : xs_S) : Option (Int32 × xs_S) :=
  xs_bnd (g_X10_knows N  X) fun v2 X3 =>
  if v2 = 0 then
    xs_bnd (g_X10_refuse (-3) X3) fun v7 X8 =>
    some (v7, X8)
  else
    (xs_ld 257 X3 47 0).bind fun v14 =>
    some (v14, X3)
set_option maxRecDepth 100000 in
theorem q_X10_best {m mb : Nat} {rr : Nat → Nat} {σ0 : bh_S} (N : Nat)  {σ : bh_S} {X : xs_S} (h : mo_R m rr mb σ X) (hF : mo_F mb σ0 σ) : sm (mo_G m rr mb σ0) (f_X10_best N m σ) (g_X10_best N  X) := by
  unfold f_X10_best g_X10_best
  refine mo_ck h ?_
  refine sm_call (q_X10_knows N  h hF) ?_
  rintro v2 σ3 _ X3 ⟨rfl, h, hF⟩
  refine sm_ite (fun h1 => ?_) (fun h1 => ?_)
  · refine mo_ck h ?_
    refine sm_call (q_X10_refuse (-3)  h hF) ?_
    rintro v7 σ8 _ X8 ⟨rfl, h, hF⟩
    exact sm_ret ⟨rfl, h, hF⟩
  · refine mo_rdR h rfl ?_
    refine sm_nn ?_
    refine mo_ldI (k := 47) (n := 257) h rfl rfl rfl (fun v14 h9 => ?_)
    exact sm_ret ⟨rfl, h, hF⟩
/-! BeetHouseModel.order(I)I -/
def g_X10_order_b83 (N : Nat) (k36 : Int32 → Int32 → Int32 → Int32 → xs_S → Option (Int32 × xs_S)) (k45 : Int32 → Int32 → Int32 → Int32 → xs_S → Option (Int32 × xs_S)) (x1 : Int32) (x2 : Int32) (x4 : Int32) (x5 : Int32) (X : xs_S) : Option (Int32 × xs_S) :=
  k45 x1 x2 x4 (x5 + 1) X
set_option maxRecDepth 100000 in
theorem q_X10_order_b83 {m mb : Nat} {rr : Nat → Nat} {σ0 : bh_S} (N : Nat) (k36 : Nat → Int32 → Int32 → Int32 → Int32 → bh_S → Option (Int32 × bh_S)) (K36 : Int32 → Int32 → Int32 → Int32 → xs_S → Option (Int32 × xs_S)) (hk36 : ∀ (x1 : Int32) (x2 : Int32) (x3 : Int32) (x4 : Int32) (σ : bh_S) (X : xs_S), mo_R m rr mb σ X → mo_F mb σ0 σ → sm (mo_G m rr mb σ0) (k36 m x1 x2 x3 x4 σ) (K36 x1 x2 x3 x4 X)) (k45 : Nat → Int32 → Int32 → Int32 → Int32 → bh_S → Option (Int32 × bh_S)) (K45 : Int32 → Int32 → Int32 → Int32 → xs_S → Option (Int32 × xs_S)) (hk45 : ∀ (x1 : Int32) (x2 : Int32) (x4 : Int32) (x5 : Int32) (σ : bh_S) (X : xs_S), mo_R m rr mb σ X → mo_F mb σ0 σ → sm (mo_G m rr mb σ0) (k45 m x1 x2 x4 x5 σ) (K45 x1 x2 x4 x5 X)) (x1 : Int32) (x2 : Int32) (x4 : Int32) (x5 : Int32) {σ : bh_S} {X : xs_S} (h : mo_R m rr mb σ X) (hF : mo_F mb σ0 σ) : sm (mo_G m rr mb σ0) (f_X10_order_b83 N k36 k45 m x1 x2 x4 x5 σ) (g_X10_order_b83 N K36 K45 x1 x2 x4 x5 X) := by
  unfold f_X10_order_b83 g_X10_order_b83
  exact hk45 x1 x2 x4 (x5 + 1) σ X h hF
def g_X10_order_b45 (N : Nat) (k36 : Int32 → Int32 → Int32 → Int32 → xs_S → Option (Int32 × xs_S)) : Nat → Int32 → Int32 → Int32 → Int32 → xs_S → Option (Int32 × xs_S)
  | 0, _, _, _, _, _ => none
  | n + 1, x1, x2, x4, x5, X =>
    if ((x2 >>> (x5 &&& 31)) &&& 1) = 1 then
      g_X10_order_b83 N k36 (g_X10_order_b45 N k36 n) x1 x2 x4 x5 X
    else
      xs_bnd (g_X10_lies N x2 x5 X) fun v3 X4 =>
      (xs_ld 257 X4 47 (x2 ||| (1 <<< (x5 &&& 31)))).bind fun v10 =>
      (xs_ld 257 X4 47 x2).bind fun v16 =>
      if (v3 + v10) = v16 then
        (xs_ld 8 X4 45 x5).bind fun v23 =>
        k36 x1 (x2 ||| (1 <<< (x5 &&& 31))) v23 (x4 + 1) X4
      else
        g_X10_order_b83 N k36 (g_X10_order_b45 N k36 n) x1 x2 x4 x5 X4
set_option maxRecDepth 100000 in
theorem q_X10_order_b45 {m mb : Nat} {rr : Nat → Nat} {σ0 : bh_S} (N : Nat) (k36 : Nat → Int32 → Int32 → Int32 → Int32 → bh_S → Option (Int32 × bh_S)) (K36 : Int32 → Int32 → Int32 → Int32 → xs_S → Option (Int32 × xs_S)) (hk36 : ∀ (x1 : Int32) (x2 : Int32) (x3 : Int32) (x4 : Int32) (σ : bh_S) (X : xs_S), mo_R m rr mb σ X → mo_F mb σ0 σ → sm (mo_G m rr mb σ0) (k36 m x1 x2 x3 x4 σ) (K36 x1 x2 x3 x4 X)) : ∀ (n : Nat) (x1 : Int32) (x2 : Int32) (x4 : Int32) (x5 : Int32) (σ : bh_S) (X : xs_S), mo_R m rr mb σ X → mo_F mb σ0 σ → sm (mo_G m rr mb σ0) (f_X10_order_b45 N k36 n m x1 x2 x4 x5 σ) (g_X10_order_b45 N K36 n x1 x2 x4 x5 X) := by
  intro n
  induction n with
  | zero => intro x1 x2 x4 x5 σ X h hF; exact sm_none
  | succ n ih =>
    intro x1 x2 x4 x5 σ X h hF
    unfold f_X10_order_b45 g_X10_order_b45
    refine sm_ite (fun h1 => ?_) (fun h1 => ?_)
    · exact q_X10_order_b83 N k36 K36 hk36 _ (g_X10_order_b45 N K36 n) ih x1 x2 x4 x5 h hF
    · refine mo_ck h ?_
      refine sm_call (q_X10_lies N x2 x5  h hF) ?_
      rintro v3 σ4 _ X4 ⟨rfl, h, hF⟩
      refine mo_rdR h rfl ?_
      refine sm_nn ?_
      refine mo_ldI (k := 47) (n := 257) h rfl rfl rfl (fun v10 h9 => ?_)
      refine mo_rdR h rfl ?_
      refine sm_nn ?_
      refine mo_ldI (k := 47) (n := 257) h rfl rfl rfl (fun v16 h9 => ?_)
      refine sm_ite (fun h2 => ?_) (fun h2 => ?_)
      · refine mo_rdR h rfl ?_
        refine sm_nn ?_
        refine mo_ldI (k := 45) (n := 8) h rfl rfl rfl (fun v23 h9 => ?_)
        exact hk36 x1 (x2 ||| (1 <<< (x5 &&& 31))) v23 (x4 + 1) σ4 X4 h hF
      · exact q_X10_order_b83 N k36 K36 hk36 _ (g_X10_order_b45 N K36 n) ih x1 x2 x4 x5 h hF
def g_X10_order_b36 (N : Nat) : Nat → Int32 → Int32 → Int32 → Int32 → xs_S → Option (Int32 × xs_S)
  | 0, _, _, _, _, _ => none
  | n + 1, x1, x2, x3, x4, X =>
    if x1 < x4 then
      some (x3, X)
    else
      g_X10_order_b45 N (g_X10_order_b36 N n) N x1 x2 x4 0 X
set_option maxRecDepth 100000 in
theorem q_X10_order_b36 {m mb : Nat} {rr : Nat → Nat} {σ0 : bh_S} (N : Nat) : ∀ (n : Nat) (x1 : Int32) (x2 : Int32) (x3 : Int32) (x4 : Int32) (σ : bh_S) (X : xs_S), mo_R m rr mb σ X → mo_F mb σ0 σ → sm (mo_G m rr mb σ0) (f_X10_order_b36 N n m x1 x2 x3 x4 σ) (g_X10_order_b36 N n x1 x2 x3 x4 X) := by
  intro n
  induction n with
  | zero => intro x1 x2 x3 x4 σ X h hF; exact sm_none
  | succ n ih =>
    intro x1 x2 x3 x4 σ X h hF
    unfold f_X10_order_b36 g_X10_order_b36
    refine sm_ite (fun h1 => ?_) (fun h1 => ?_)
    · exact sm_ret ⟨rfl, h, hF⟩
    · exact q_X10_order_b45 N _ (g_X10_order_b36 N n) ih N x1 x2 x4 0 _ _ h hF
def g_X10_order (N : Nat) (p1 : Int32) (X : xs_S) : Option (Int32 × xs_S) :=
  xs_bnd (g_X10_knows N  X) fun v2 X3 =>
  if v2 = 0 then
    xs_bnd (g_X10_refuse (-3) X3) fun v13 X14 =>
    some (v13, X14)
  else
    xs_bnd (g_X10_isIn p1 (X3 48 0) X3) fun v8 X9 =>
    if v8 = 0 then
      some ((-9), X9)
    else
      g_X10_order_b36 N N p1 0 (-9) 0 X9
set_option maxRecDepth 100000 in
theorem q_X10_order {m mb : Nat} {rr : Nat → Nat} {σ0 : bh_S} (N : Nat) (p1 : Int32) {σ : bh_S} {X : xs_S} (h : mo_R m rr mb σ X) (hF : mo_F mb σ0 σ) : sm (mo_G m rr mb σ0) (f_X10_order N m p1 σ) (g_X10_order N p1 X) := by
  unfold f_X10_order g_X10_order
  refine mo_ck h ?_
  refine sm_call (q_X10_knows N  h hF) ?_
  rintro v2 σ3 _ X3 ⟨rfl, h, hF⟩
  refine sm_ite (fun h1 => ?_) (fun h1 => ?_)
  · refine mo_ck h ?_
    refine sm_call (q_X10_refuse (-3)  h hF) ?_
    rintro v13 σ14 _ X14 ⟨rfl, h, hF⟩
    exact sm_ret ⟨rfl, h, hF⟩
  · refine mo_rdI h rfl ?_
    refine sm_call (q_X10_isIn p1 (X3 48 0)  h hF) ?_
    rintro v8 σ9 _ X9 ⟨rfl, h, hF⟩
    refine sm_ite (fun h2 => ?_) (fun h2 => ?_)
    · exact sm_ret ⟨rfl, h, hF⟩
    · exact q_X10_order_b36 N N p1 0 (-9) 0 _ _ h hF
/-! BeetHouseModel.fieldOf(II)I -/
def g_X10_fieldOf_b202 (N : Nat) (k165 : Int32 → Int32 → Int32 → xs_S → Option (Int32 × xs_S)) (x1 : Int32) (x4 : Int32) (t0 : Int32) (t1 : Int32) (X : xs_S) : Option (Int32 × xs_S) :=
  k165 x1 (t1 + t0) (x4 + 1) X
set_option maxRecDepth 100000 in
theorem q_X10_fieldOf_b202 {m mb : Nat} {rr : Nat → Nat} {σ0 : bh_S} (N : Nat) (k165 : Nat → Int32 → Int32 → Int32 → bh_S → Option (Int32 × bh_S)) (K165 : Int32 → Int32 → Int32 → xs_S → Option (Int32 × xs_S)) (hk165 : ∀ (x1 : Int32) (x3 : Int32) (x4 : Int32) (σ : bh_S) (X : xs_S), mo_R m rr mb σ X → mo_F mb σ0 σ → sm (mo_G m rr mb σ0) (k165 m x1 x3 x4 σ) (K165 x1 x3 x4 X)) (x1 : Int32) (x4 : Int32) (t0 : Int32) (t1 : Int32) {σ : bh_S} {X : xs_S} (h : mo_R m rr mb σ X) (hF : mo_F mb σ0 σ) : sm (mo_G m rr mb σ0) (f_X10_fieldOf_b202 N k165 m x1 x4 t0 t1 σ) (g_X10_fieldOf_b202 N K165 x1 x4 t0 t1 X) := by
  unfold f_X10_fieldOf_b202 g_X10_fieldOf_b202
  exact hk165 x1 (t1 + t0) (x4 + 1) σ X h hF
def g_X10_fieldOf_b201 (N : Nat) (k165 : Int32 → Int32 → Int32 → xs_S → Option (Int32 × xs_S)) (x1 : Int32) (x4 : Int32) (t0 : Int32) (X : xs_S) : Option (Int32 × xs_S) :=
  g_X10_fieldOf_b202 N k165 x1 x4 0 t0 X
set_option maxRecDepth 100000 in
theorem q_X10_fieldOf_b201 {m mb : Nat} {rr : Nat → Nat} {σ0 : bh_S} (N : Nat) (k165 : Nat → Int32 → Int32 → Int32 → bh_S → Option (Int32 × bh_S)) (K165 : Int32 → Int32 → Int32 → xs_S → Option (Int32 × xs_S)) (hk165 : ∀ (x1 : Int32) (x3 : Int32) (x4 : Int32) (σ : bh_S) (X : xs_S), mo_R m rr mb σ X → mo_F mb σ0 σ → sm (mo_G m rr mb σ0) (k165 m x1 x3 x4 σ) (K165 x1 x3 x4 X)) (x1 : Int32) (x4 : Int32) (t0 : Int32) {σ : bh_S} {X : xs_S} (h : mo_R m rr mb σ X) (hF : mo_F mb σ0 σ) : sm (mo_G m rr mb σ0) (f_X10_fieldOf_b201 N k165 m x1 x4 t0 σ) (g_X10_fieldOf_b201 N K165 x1 x4 t0 X) := by
  unfold f_X10_fieldOf_b201 g_X10_fieldOf_b201
  exact q_X10_fieldOf_b202 N k165 K165 hk165 x1 x4 0 t0 h hF
def g_X10_fieldOf_b165 (N : Nat) : Nat → Int32 → Int32 → Int32 → xs_S → Option (Int32 × xs_S)
  | 0, _, _, _, _ => none
  | n + 1, x1, x3, x4, X =>
    if (X 8 0) ≤ x4 then
      some (x3, X)
    else
      (xs_ld 8 X 34 x4).bind fun v8 =>
      if v8 = 1 then
        (xs_ld 8 X 35 x4).bind fun v15 =>
        if v15 = x1 then
          g_X10_fieldOf_b202 N (g_X10_fieldOf_b165 N n) x1 x4 1 x3 X
        else
          g_X10_fieldOf_b201 N (g_X10_fieldOf_b165 N n) x1 x4 x3 X
      else
        g_X10_fieldOf_b201 N (g_X10_fieldOf_b165 N n) x1 x4 x3 X
set_option maxRecDepth 100000 in
theorem q_X10_fieldOf_b165 {m mb : Nat} {rr : Nat → Nat} {σ0 : bh_S} (N : Nat) : ∀ (n : Nat) (x1 : Int32) (x3 : Int32) (x4 : Int32) (σ : bh_S) (X : xs_S), mo_R m rr mb σ X → mo_F mb σ0 σ → sm (mo_G m rr mb σ0) (f_X10_fieldOf_b165 N n m x1 x3 x4 σ) (g_X10_fieldOf_b165 N n x1 x3 x4 X) := by
  intro n
  induction n with
  | zero => intro x1 x3 x4 σ X h hF; exact sm_none
  | succ n ih =>
    intro x1 x3 x4 σ X h hF
    unfold f_X10_fieldOf_b165 g_X10_fieldOf_b165
    refine mo_rdI h rfl ?_
    refine sm_ite (fun h1 => ?_) (fun h1 => ?_)
    · exact sm_ret ⟨rfl, h, hF⟩
    · refine mo_rdR h rfl ?_
      refine sm_nn ?_
      refine mo_ldI (k := 34) (n := 8) h rfl rfl rfl (fun v8 h9 => ?_)
      refine sm_ite (fun h2 => ?_) (fun h2 => ?_)
      · refine mo_rdR h rfl ?_
        refine sm_nn ?_
        refine mo_ldI (k := 35) (n := 8) h rfl rfl rfl (fun v15 h9 => ?_)
        refine sm_ite (fun h3 => ?_) (fun h3 => ?_)
        · exact q_X10_fieldOf_b202 N _ (g_X10_fieldOf_b165 N n) ih x1 x4 1 x3 h hF
        · exact q_X10_fieldOf_b201 N _ (g_X10_fieldOf_b165 N n) ih x1 x4 x3 h hF
      · exact q_X10_fieldOf_b201 N _ (g_X10_fieldOf_b165 N n) ih x1 x4 x3 h hF
def g_X10_fieldOf (N : Nat) (p1 : Int32) (p2 : Int32) (X : xs_S) : Option (Int32 × xs_S) :=
  xs_bnd (g_X10_isField p1 X) fun v2 X3 =>
  if v2 = 0 then
    xs_bnd (g_X10_refuse (-1) X3) fun v84 X85 =>
    some (v84, X85)
  else
    if p2 = 0 then
      (xs_ld 16 X3 19 p1).bind fun v11 =>
      some (v11, X3)
    else
      if p2 = 1 then
        (xs_ld 16 X3 22 p1).bind fun v18 =>
        some (v18, X3)
      else
        if p2 = 2 then
          (xs_ld 16 X3 23 p1).bind fun v25 =>
          some (v25, X3)
        else
          if p2 = 3 then
            (xs_ld 16 X3 29 p1).bind fun v32 =>
            if v32 = 0 then
              some (0, X3)
            else
              some (1, X3)
          else
            if p2 = 4 then
              (xs_ld 16 X3 30 p1).bind fun v40 =>
              if v40 = 0 then
                some (0, X3)
              else
                some (1, X3)
            else
              if p2 = 5 then
                (xs_ld 16 X3 24 p1).bind fun v48 =>
                some (v48, X3)
              else
                if p2 = 6 then
                  (xs_ld 16 X3 25 p1).bind fun v55 =>
                  some (v55, X3)
                else
                  if p2 = 7 then
                    (xs_ld 16 X3 26 p1).bind fun v62 =>
                    some (v62, X3)
                  else
                    if p2 = 8 then
                      (xs_ld 16 X3 27 p1).bind fun v69 =>
                      some (v69, X3)
                    else
                      if p2 = 9 then
                        (xs_ld 16 X3 18 p1).bind fun v76 =>
                        some (v76, X3)
                      else
                        if p2 = 10 then
                          g_X10_fieldOf_b165 N N p1 0 0 X3
                        else
                          xs_bnd (g_X10_refuse (-2) X3) fun v80 X81 =>
                          some (v80, X81)
set_option maxRecDepth 100000 in
theorem q_X10_fieldOf {m mb : Nat} {rr : Nat → Nat} {σ0 : bh_S} (N : Nat) (p1 : Int32) (p2 : Int32) {σ : bh_S} {X : xs_S} (h : mo_R m rr mb σ X) (hF : mo_F mb σ0 σ) : sm (mo_G m rr mb σ0) (f_X10_fieldOf N m p1 p2 σ) (g_X10_fieldOf N p1 p2 X) := by
  unfold f_X10_fieldOf g_X10_fieldOf
  refine mo_ck h ?_
  refine sm_call (q_X10_isField p1  h hF) ?_
  rintro v2 σ3 _ X3 ⟨rfl, h, hF⟩
  refine sm_ite (fun h1 => ?_) (fun h1 => ?_)
  · refine mo_ck h ?_
    refine sm_call (q_X10_refuse (-1)  h hF) ?_
    rintro v84 σ85 _ X85 ⟨rfl, h, hF⟩
    exact sm_ret ⟨rfl, h, hF⟩
  · refine sm_ite (fun h2 => ?_) (fun h2 => ?_)
    · refine mo_rdR h rfl ?_
      refine sm_nn ?_
      refine mo_ldI (k := 19) (n := 16) h rfl rfl rfl (fun v11 h9 => ?_)
      exact sm_ret ⟨rfl, h, hF⟩
    · refine sm_ite (fun h3 => ?_) (fun h3 => ?_)
      · refine mo_rdR h rfl ?_
        refine sm_nn ?_
        refine mo_ldI (k := 22) (n := 16) h rfl rfl rfl (fun v18 h9 => ?_)
        exact sm_ret ⟨rfl, h, hF⟩
      · refine sm_ite (fun h4 => ?_) (fun h4 => ?_)
        · refine mo_rdR h rfl ?_
          refine sm_nn ?_
          refine mo_ldI (k := 23) (n := 16) h rfl rfl rfl (fun v25 h9 => ?_)
          exact sm_ret ⟨rfl, h, hF⟩
        · refine sm_ite (fun h5 => ?_) (fun h5 => ?_)
          · refine mo_rdR h rfl ?_
            refine sm_nn ?_
            refine mo_ldZ (k := 29) (n := 16) h rfl rfl rfl (fun v32 h9 => ?_)
            refine sm_ite (fun h6 => ?_) (fun h6 => ?_)
            · exact sm_ret ⟨rfl, h, hF⟩
            · exact sm_ret ⟨rfl, h, hF⟩
          · refine sm_ite (fun h7 => ?_) (fun h7 => ?_)
            · refine mo_rdR h rfl ?_
              refine sm_nn ?_
              refine mo_ldZ (k := 30) (n := 16) h rfl rfl rfl (fun v40 h9 => ?_)
              refine sm_ite (fun h8 => ?_) (fun h8 => ?_)
              · exact sm_ret ⟨rfl, h, hF⟩
              · exact sm_ret ⟨rfl, h, hF⟩
            · refine sm_ite (fun h9 => ?_) (fun h9 => ?_)
              · refine mo_rdR h rfl ?_
                refine sm_nn ?_
                refine mo_ldI (k := 24) (n := 16) h rfl rfl rfl (fun v48 h9 => ?_)
                exact sm_ret ⟨rfl, h, hF⟩
              · refine sm_ite (fun h10 => ?_) (fun h10 => ?_)
                · refine mo_rdR h rfl ?_
                  refine sm_nn ?_
                  refine mo_ldI (k := 25) (n := 16) h rfl rfl rfl (fun v55 h9 => ?_)
                  exact sm_ret ⟨rfl, h, hF⟩
                · refine sm_ite (fun h11 => ?_) (fun h11 => ?_)
                  · refine mo_rdR h rfl ?_
                    refine sm_nn ?_
                    refine mo_ldI (k := 26) (n := 16) h rfl rfl rfl (fun v62 h9 => ?_)
                    exact sm_ret ⟨rfl, h, hF⟩
                  · refine sm_ite (fun h12 => ?_) (fun h12 => ?_)
                    · refine mo_rdR h rfl ?_
                      refine sm_nn ?_
                      refine mo_ldI (k := 27) (n := 16) h rfl rfl rfl (fun v69 h9 => ?_)
                      exact sm_ret ⟨rfl, h, hF⟩
                    · refine sm_ite (fun h13 => ?_) (fun h13 => ?_)
                      · refine mo_rdR h rfl ?_
                        refine sm_nn ?_
                        refine mo_ldI (k := 18) (n := 16) h rfl rfl rfl (fun v76 h9 => ?_)
                        exact sm_ret ⟨rfl, h, hF⟩
                      · refine sm_ite (fun h14 => ?_) (fun h14 => ?_)
                        · exact q_X10_fieldOf_b165 N N p1 0 0 _ _ h hF
                        · refine mo_ck h ?_
                          refine sm_call (q_X10_refuse (-2)  h hF) ?_
                          rintro v80 σ81 _ X81 ⟨rfl, h, hF⟩
                          exact sm_ret ⟨rfl, h, hF⟩
/-! BeetHouseModel.lorryOf(II)I -/
def g_X10_lorryOf_b90 (x1 : Int32) (X : xs_S) : Option (Int32 × xs_S) :=
  (xs_ld 8 X 36 x1).bind fun v5 =>
  some (v5, X)
set_option maxRecDepth 100000 in
theorem q_X10_lorryOf_b90 {m mb : Nat} {rr : Nat → Nat} {σ0 : bh_S} (x1 : Int32) {σ : bh_S} {X : xs_S} (h : mo_R m rr mb σ X) (hF : mo_F mb σ0 σ) : sm (mo_G m rr mb σ0) (f_X10_lorryOf_b90 m x1 σ) (g_X10_lorryOf_b90 x1 X) := by
  unfold f_X10_lorryOf_b90 g_X10_lorryOf_b90
  refine mo_rdR h rfl ?_
  refine sm_nn ?_
  refine mo_ldI (k := 36) (n := 8) h rfl rfl rfl (fun v5 h9 => ?_)
  exact sm_ret ⟨rfl, h, hF⟩
def g_X10_lorryOf (p1 : Int32) (p2 : Int32) (X : xs_S) : Option (Int32 × xs_S) :=
  xs_bnd (g_X10_isLorry p1 X) fun v2 X3 =>
  if v2 = 0 then
    xs_bnd (g_X10_refuse (-1) X3) fun v68 X69 =>
    some (v68, X69)
  else
    if p2 = 0 then
      (xs_ld 8 X3 34 p1).bind fun v11 =>
      some (v11, X3)
    else
      if p2 = 1 then
        (xs_ld 8 X3 35 p1).bind fun v18 =>
        some (v18, X3)
      else
        if p2 = 2 then
          (xs_ld 8 X3 34 p1).bind fun v25 =>
          if v25 = 1 then
            g_X10_lorryOf_b90 p1 X3
          else
            (xs_ld 8 X3 34 p1).bind fun v32 =>
            if v32 = 2 then
              g_X10_lorryOf_b90 p1 X3
            else
              some ((-9), X3)
        else
          if p2 = 3 then
            (xs_ld 8 X3 37 p1).bind fun v40 =>
            some (v40, X3)
          else
            if p2 = 4 then
              (xs_ld 8 X3 38 p1).bind fun v47 =>
              some (v47, X3)
            else
              if p2 = 5 then
                (xs_ld 8 X3 39 p1).bind fun v54 =>
                some (v54, X3)
              else
                if p2 = 6 then
                  (xs_ld 8 X3 40 p1).bind fun v61 =>
                  some (v61, X3)
                else
                  xs_bnd (g_X10_refuse (-2) X3) fun v64 X65 =>
                  some (v64, X65)
set_option maxRecDepth 100000 in
theorem q_X10_lorryOf {m mb : Nat} {rr : Nat → Nat} {σ0 : bh_S} (p1 : Int32) (p2 : Int32) {σ : bh_S} {X : xs_S} (h : mo_R m rr mb σ X) (hF : mo_F mb σ0 σ) : sm (mo_G m rr mb σ0) (f_X10_lorryOf m p1 p2 σ) (g_X10_lorryOf p1 p2 X) := by
  unfold f_X10_lorryOf g_X10_lorryOf
  refine mo_ck h ?_
  refine sm_call (q_X10_isLorry p1  h hF) ?_
  rintro v2 σ3 _ X3 ⟨rfl, h, hF⟩
  refine sm_ite (fun h1 => ?_) (fun h1 => ?_)
  · refine mo_ck h ?_
    refine sm_call (q_X10_refuse (-1)  h hF) ?_
    rintro v68 σ69 _ X69 ⟨rfl, h, hF⟩
    exact sm_ret ⟨rfl, h, hF⟩
  · refine sm_ite (fun h2 => ?_) (fun h2 => ?_)
    · refine mo_rdR h rfl ?_
      refine sm_nn ?_
      refine mo_ldI (k := 34) (n := 8) h rfl rfl rfl (fun v11 h9 => ?_)
      exact sm_ret ⟨rfl, h, hF⟩
    · refine sm_ite (fun h3 => ?_) (fun h3 => ?_)
      · refine mo_rdR h rfl ?_
        refine sm_nn ?_
        refine mo_ldI (k := 35) (n := 8) h rfl rfl rfl (fun v18 h9 => ?_)
        exact sm_ret ⟨rfl, h, hF⟩
      · refine sm_ite (fun h4 => ?_) (fun h4 => ?_)
        · refine mo_rdR h rfl ?_
          refine sm_nn ?_
          refine mo_ldI (k := 34) (n := 8) h rfl rfl rfl (fun v25 h9 => ?_)
          refine sm_ite (fun h5 => ?_) (fun h5 => ?_)
          · exact q_X10_lorryOf_b90  p1 h hF
          · refine mo_rdR h rfl ?_
            refine sm_nn ?_
            refine mo_ldI (k := 34) (n := 8) h rfl rfl rfl (fun v32 h9 => ?_)
            refine sm_ite (fun h6 => ?_) (fun h6 => ?_)
            · exact q_X10_lorryOf_b90  p1 h hF
            · exact sm_ret ⟨rfl, h, hF⟩
        · refine sm_ite (fun h7 => ?_) (fun h7 => ?_)
          · refine mo_rdR h rfl ?_
            refine sm_nn ?_
            refine mo_ldI (k := 37) (n := 8) h rfl rfl rfl (fun v40 h9 => ?_)
            exact sm_ret ⟨rfl, h, hF⟩
          · refine sm_ite (fun h8 => ?_) (fun h8 => ?_)
            · refine mo_rdR h rfl ?_
              refine sm_nn ?_
              refine mo_ldI (k := 38) (n := 8) h rfl rfl rfl (fun v47 h9 => ?_)
              exact sm_ret ⟨rfl, h, hF⟩
            · refine sm_ite (fun h9 => ?_) (fun h9 => ?_)
              · refine mo_rdR h rfl ?_
                refine sm_nn ?_
                refine mo_ldI (k := 39) (n := 8) h rfl rfl rfl (fun v54 h9 => ?_)
                exact sm_ret ⟨rfl, h, hF⟩
              · refine sm_ite (fun h10 => ?_) (fun h10 => ?_)
                · refine mo_rdR h rfl ?_
                  refine sm_nn ?_
                  refine mo_ldI (k := 40) (n := 8) h rfl rfl rfl (fun v61 h9 => ?_)
                  exact sm_ret ⟨rfl, h, hF⟩
                · refine mo_ck h ?_
                  refine sm_call (q_X10_refuse (-2)  h hF) ?_
                  rintro v64 σ65 _ X65 ⟨rfl, h, hF⟩
                  exact sm_ret ⟨rfl, h, hF⟩
/-! BeetHouseModel.load(II)I -/
def g_X10_load (p1 : Int32) (p2 : Int32) (X : xs_S) : Option (Int32 × xs_S) :=
  xs_bnd (g_X10_isIn p1 (X 44 0) X) fun v3 X4 =>
  if v3 = 0 then
    some ((-9), X4)
  else
    if p2 = 0 then
      (xs_ld 3100 X4 41 p1).bind fun v26 =>
      some (v26, X4)
    else
      if p2 = 1 then
        (xs_ld 3100 X4 42 p1).bind fun v20 =>
        some (v20, X4)
      else
        if p2 = 2 then
          (xs_ld 3100 X4 43 p1).bind fun v14 =>
          some (v14, X4)
        else
          some ((-9), X4)
set_option maxRecDepth 100000 in
theorem q_X10_load {m mb : Nat} {rr : Nat → Nat} {σ0 : bh_S} (p1 : Int32) (p2 : Int32) {σ : bh_S} {X : xs_S} (h : mo_R m rr mb σ X) (hF : mo_F mb σ0 σ) : sm (mo_G m rr mb σ0) (f_X10_load m p1 p2 σ) (g_X10_load p1 p2 X) := by
  unfold f_X10_load g_X10_load
  refine mo_rdI h rfl ?_
  refine sm_call (q_X10_isIn p1 (X 44 0)  h hF) ?_
  rintro v3 σ4 _ X4 ⟨rfl, h, hF⟩
  refine sm_ite (fun h1 => ?_) (fun h1 => ?_)
  · exact sm_ret ⟨rfl, h, hF⟩
  · refine sm_ite (fun h2 => ?_) (fun h2 => ?_)
    · refine mo_rdR h rfl ?_
      refine sm_nn ?_
      refine mo_ldI (k := 41) (n := 3100) h rfl rfl rfl (fun v26 h9 => ?_)
      exact sm_ret ⟨rfl, h, hF⟩
    · refine sm_ite (fun h3 => ?_) (fun h3 => ?_)
      · refine mo_rdR h rfl ?_
        refine sm_nn ?_
        refine mo_ldI (k := 42) (n := 3100) h rfl rfl rfl (fun v20 h9 => ?_)
        exact sm_ret ⟨rfl, h, hF⟩
      · refine sm_ite (fun h4 => ?_) (fun h4 => ?_)
        · refine mo_rdR h rfl ?_
          refine sm_nn ?_
          refine mo_ldI (k := 43) (n := 3100) h rfl rfl rfl (fun v14 h9 => ?_)
          exact sm_ret ⟨rfl, h, hF⟩
        · exact sm_ret ⟨rfl, h, hF⟩
/-! BeetHouseModel.coins(I)I -/
def g_X10_coins (p1 : Int32) (X : xs_S) : Option (Int32 × xs_S) :=
  xs_bnd (g_X10_isIn p1 6 X) fun v1 X2 =>
  if v1 = 0 then
    xs_bnd (g_X10_refuse (-1) X2) fun v6 X7 =>
    some (v6, X7)
  else
    (xs_ld 6 X2 2 p1).bind fun v13 =>
    some (v13, X2)
set_option maxRecDepth 100000 in
theorem q_X10_coins {m mb : Nat} {rr : Nat → Nat} {σ0 : bh_S} (p1 : Int32) {σ : bh_S} {X : xs_S} (h : mo_R m rr mb σ X) (hF : mo_F mb σ0 σ) : sm (mo_G m rr mb σ0) (f_X10_coins m p1 σ) (g_X10_coins p1 X) := by
  unfold f_X10_coins g_X10_coins
  refine sm_call (q_X10_isIn p1 6  h hF) ?_
  rintro v1 σ2 _ X2 ⟨rfl, h, hF⟩
  refine sm_ite (fun h1 => ?_) (fun h1 => ?_)
  · refine mo_ck h ?_
    refine sm_call (q_X10_refuse (-1)  h hF) ?_
    rintro v6 σ7 _ X7 ⟨rfl, h, hF⟩
    exact sm_ret ⟨rfl, h, hF⟩
  · refine mo_rdR h rfl ?_
    refine sm_nn ?_
    refine mo_ldI (k := 2) (n := 6) h rfl rfl rfl (fun v13 h9 => ?_)
    exact sm_ret ⟨rfl, h, hF⟩
/-! BeetHouseModel.count(I)I -/
def g_X10_count_b22 (N : Nat) (x1 : Int32) (X : xs_S) : Option (Int32 × xs_S) :=
  if x1 = 0 then
    some ((X 6 0), X)
  else
    if x1 = 1 then
      some ((X 7 0), X)
    else
      if x1 = 2 then
        some ((X 8 0), X)
      else
        if x1 = 3 then
          xs_bnd (g_X10_inYard N  X) fun v12 X13 =>
          some (v12, X13)
        else
          if x1 = 4 then
            some ((X 11 0), X)
          else
            if x1 = 5 then
              some ((X 12 0), X)
            else
              if x1 = 6 then
                some ((X 13 0), X)
              else
                if x1 = 7 then
                  some ((X 14 0), X)
                else
                  if x1 = 8 then
                    some ((X 15 0), X)
                  else
                    if x1 = 9 then
                      some ((X 16 0), X)
                    else
                      if x1 = 10 then
                        some ((-9), X)
                      else
                        if x1 = 11 then
                          some ((-9), X)
                        else
                          if x1 = 12 then
                            some ((-9), X)
                          else
                            if x1 = 13 then
                              some ((-9), X)
                            else
                              if x1 = 14 then
                                some ((-9), X)
                              else
                                if x1 = 15 then
                                  some ((-9), X)
                                else
                                  if x1 = 16 then
                                    some ((-9), X)
                                  else
                                    if x1 = 17 then
                                      if (X 17 0) = 0 then
                                        some (0, X)
                                      else
                                        some (1, X)
                                    else
                                      some ((-9), X)
set_option maxRecDepth 100000 in
theorem q_X10_count_b22 {m mb : Nat} {rr : Nat → Nat} {σ0 : bh_S} (N : Nat) (x1 : Int32) {σ : bh_S} {X : xs_S} (h : mo_R m rr mb σ X) (hF : mo_F mb σ0 σ) : sm (mo_G m rr mb σ0) (f_X10_count_b22 N m x1 σ) (g_X10_count_b22 N x1 X) := by
  unfold f_X10_count_b22 g_X10_count_b22
  refine sm_ite (fun h1 => ?_) (fun h1 => ?_)
  · refine mo_rdI h rfl ?_
    exact sm_ret ⟨rfl, h, hF⟩
  · refine sm_ite (fun h2 => ?_) (fun h2 => ?_)
    · refine mo_rdI h rfl ?_
      exact sm_ret ⟨rfl, h, hF⟩
    · refine sm_ite (fun h3 => ?_) (fun h3 => ?_)
      · refine mo_rdI h rfl ?_
        exact sm_ret ⟨rfl, h, hF⟩
      · refine sm_ite (fun h4 => ?_) (fun h4 => ?_)
        · refine mo_ck h ?_
          refine sm_call (q_X10_inYard N  h hF) ?_
          rintro v12 σ13 _ X13 ⟨rfl, h, hF⟩
          exact sm_ret ⟨rfl, h, hF⟩
        · refine sm_ite (fun h5 => ?_) (fun h5 => ?_)
          · refine mo_rdI h rfl ?_
            exact sm_ret ⟨rfl, h, hF⟩
          · refine sm_ite (fun h6 => ?_) (fun h6 => ?_)
            · refine mo_rdI h rfl ?_
              exact sm_ret ⟨rfl, h, hF⟩
            · refine sm_ite (fun h7 => ?_) (fun h7 => ?_)
              · refine mo_rdI h rfl ?_
                exact sm_ret ⟨rfl, h, hF⟩
              · refine sm_ite (fun h8 => ?_) (fun h8 => ?_)
                · refine mo_rdI h rfl ?_
                  exact sm_ret ⟨rfl, h, hF⟩
                · refine sm_ite (fun h9 => ?_) (fun h9 => ?_)
                  · refine mo_rdI h rfl ?_
                    exact sm_ret ⟨rfl, h, hF⟩
                  · refine sm_ite (fun h10 => ?_) (fun h10 => ?_)
                    · refine mo_rdI h rfl ?_
                      exact sm_ret ⟨rfl, h, hF⟩
                    · refine sm_ite (fun h11 => ?_) (fun h11 => ?_)
                      · exact sm_ret ⟨rfl, h, hF⟩
                      · refine sm_ite (fun h12 => ?_) (fun h12 => ?_)
                        · exact sm_ret ⟨rfl, h, hF⟩
                        · refine sm_ite (fun h13 => ?_) (fun h13 => ?_)
                          · exact sm_ret ⟨rfl, h, hF⟩
                          · refine sm_ite (fun h14 => ?_) (fun h14 => ?_)
                            · exact sm_ret ⟨rfl, h, hF⟩
                            · refine sm_ite (fun h15 => ?_) (fun h15 => ?_)
                              · exact sm_ret ⟨rfl, h, hF⟩
                              · refine sm_ite (fun h16 => ?_) (fun h16 => ?_)
                                · exact sm_ret ⟨rfl, h, hF⟩
                                · refine sm_ite (fun h17 => ?_) (fun h17 => ?_)
                                  · exact sm_ret ⟨rfl, h, hF⟩
                                  · refine sm_ite (fun h18 => ?_) (fun h18 => ?_)
                                    · refine mo_rdI h rfl ?_
                                      refine sm_ite (fun h19 => ?_) (fun h19 => ?_)
                                      · exact sm_ret ⟨rfl, h, hF⟩
                                      · exact sm_ret ⟨rfl, h, hF⟩
                                    · exact sm_ret ⟨rfl, h, hF⟩
def g_X10_count (N : Nat) (p1 : Int32) (X : xs_S) : Option (Int32 × xs_S) :=
  if p1 ≤ 10 then
    g_X10_count_b22 N p1 X
  else
    if 17 ≤ p1 then
      g_X10_count_b22 N p1 X
    else
      (xs_ld 7 X 0 (p1 - 10)).bind fun v7 =>
      some (v7, X)
set_option maxRecDepth 100000 in
theorem q_X10_count {m mb : Nat} {rr : Nat → Nat} {σ0 : bh_S} (N : Nat) (p1 : Int32) {σ : bh_S} {X : xs_S} (h : mo_R m rr mb σ X) (hF : mo_F mb σ0 σ) : sm (mo_G m rr mb σ0) (f_X10_count N m p1 σ) (g_X10_count N p1 X) := by
  unfold f_X10_count g_X10_count
  refine sm_ite (fun h1 => ?_) (fun h1 => ?_)
  · exact q_X10_count_b22 N p1 h hF
  · refine sm_ite (fun h2 => ?_) (fun h2 => ?_)
    · exact q_X10_count_b22 N p1 h hF
    · refine mo_rdR h rfl ?_
      refine sm_nn ?_
      refine mo_ldI (k := 0) (n := 7) h rfl rfl rfl (fun v7 h9 => ?_)
      exact sm_ret ⟨rfl, h, hF⟩
