def g_X9_field (p1 : Int32) (p2 : Int32) (p3 : Int32) (p4 : Int32) (p5 : Int32) (Z : xs_S) : Option (Int32 × xs_S) :=
  xs_bnd (g_X9_farmerAt p1 Z) fun v2 Z3 =>
  bh_cs v2 (
    xs_bnd (g_X9_refuse (-1) Z3) fun v8 Z9 =>
    some (v8, Z9)
  ) (fun a5 =>
    if p2 < 1 then
      g_X9_field_b35 Z3
    else
      if p3 < 50 then
        g_X9_field_b35 Z3
      else
        if 1 ≤ p4 then
          if 5000 < p2 then
            g_X9_field_b75 Z3
          else
            if 250 < p3 then
              g_X9_field_b75 Z3
            else
              if 12 < p4 then
                g_X9_field_b75 Z3
              else
                if (Z3 7 0) < 16 then
                  g_X9_field_new a5 p2 p3 p4 p5 Z3
                else
                  g_X9_field_b75 Z3
        else
          g_X9_field_b35 Z3
  )
set_option maxRecDepth 100000 in
theorem q_X9_field {w : Nat → Nat → Nat} {nf nl mb z1 n1 : Nat} {σ0 : bh_S} {lp : Nat → Nat} {np : Nat} (p1 : Int32) (p2 : Int32) (p3 : Int32) (p4 : Int32) (p5 : Int32) {σ : bh_S} {Z : xs_S} (h : cv_R w nf nl mb z1 n1 σ0 lp np σ Z) : sm (cv_Gw w mb z1 n1 σ0) (f_X9_field (w 10 0) p1 p2 p3 p4 p5 σ) (g_X9_field p1 p2 p3 p4 p5 Z) := by
  unfold f_X9_field g_X9_field
  refine cv_ck h cv_z10 ?_
  refine sm_call (q_X9_farmerAt p1 h) ?_
  rintro _ σ3 v2 Z3 ⟨rfl, hv2, h⟩
  refine sm_cs (W := w 1) hv2 ?_ (fun a5 ha5 => ?_)
  · refine cv_ck h cv_z10 ?_
    refine sm_call (q_X9_refuse (-1) h) ?_
    rintro v8 σ9 _ Z9 ⟨rfl, h⟩
    exact sm_ret ⟨rfl, _, _, _, _, _, rfl, h⟩
  · refine sm_ite (fun h1 => ?_) (fun h1 => ?_)
    · exact q_X9_field_b35  h
    · refine sm_ite (fun h2 => ?_) (fun h2 => ?_)
      · exact q_X9_field_b35  h
      · refine sm_ite (fun h3 => ?_) (fun h3 => ?_)
        · refine sm_ite (fun h4 => ?_) (fun h4 => ?_)
          · exact q_X9_field_b75  h
          · refine sm_ite (fun h5 => ?_) (fun h5 => ?_)
            · exact q_X9_field_b75  h
            · refine sm_ite (fun h6 => ?_) (fun h6 => ?_)
              · exact q_X9_field_b75  h
              · refine cv_rdC (t := 0) (j := 0) h cv_z10 rfl ?_
                refine sm_nn ?_
                refine cv_ck0 h (by decide) ?_
                refine cv_size (d := 7) h (by decide) rfl ?_
                refine sm_ite (fun h7 => ?_) (fun h7 => ?_)
                · refine cv_rdC (t := 0) (j := 0) h cv_z10 rfl ?_
                  refine sm_nn ?_
                  refine cv_ck0 h (by decide) ?_
                  refine cv_size (d := 7) h (by decide) rfl ?_
                  refine cv_rdC (t := 0) (j := 0) h cv_z10 rfl ?_
                  exact q_X9_field_new a5 p2 p3 p4 p5 ha5 h
                · exact q_X9_field_b75  h
        · exact q_X9_field_b35  h
def g_X9_lorry (p1 : Int32) (Z : xs_S) : Option (Int32 × xs_S) :=
  if 1 ≤ p1 then
    if 100 < p1 then
      g_X9_lorry_b30 Z
    else
      if (Z 8 0) < 8 then
        g_X9_lorry_new p1 Z
      else
        g_X9_lorry_b30 Z
  else
    xs_bnd (g_X9_refuse (-4) Z) fun v35 Z36 =>
    some (v35, Z36)
set_option maxRecDepth 100000 in
theorem q_X9_lorry {w : Nat → Nat → Nat} {nf nl mb z1 n1 : Nat} {σ0 : bh_S} {lp : Nat → Nat} {np : Nat} (p1 : Int32) {σ : bh_S} {Z : xs_S} (h : cv_R w nf nl mb z1 n1 σ0 lp np σ Z) : sm (cv_Gw w mb z1 n1 σ0) (f_X9_lorry (w 10 0) p1 σ) (g_X9_lorry p1 Z) := by
  unfold f_X9_lorry g_X9_lorry
  refine sm_ite (fun h1 => ?_) (fun h1 => ?_)
  · refine sm_ite (fun h2 => ?_) (fun h2 => ?_)
    · exact q_X9_lorry_b30  h
    · refine cv_rdC (t := 0) (j := 1) h cv_z10 rfl ?_
      refine sm_nn ?_
      refine cv_ck0 h (by decide) ?_
      refine cv_size (d := 8) h (by decide) rfl ?_
      refine sm_ite (fun h3 => ?_) (fun h3 => ?_)
      · refine cv_rdC (t := 0) (j := 1) h cv_z10 rfl ?_
        exact q_X9_lorry_new p1 h
      · exact q_X9_lorry_b30  h
  · refine cv_ck h cv_z10 ?_
    refine sm_call (q_X9_refuse (-4) h) ?_
    rintro v35 σ36 _ Z36 ⟨rfl, h⟩
    exact sm_ret ⟨rfl, _, _, _, _, _, rfl, h⟩
def g_X9_unloadOne (p1 : Nat) (Z : xs_S) : Option (Unit × xs_S) :=
  if (Z 37 p1) ≤ 0 then
    g_X9_unloadOne_b57 p1 Z
  else
    xs_lt (xs_rf (Z 35 p1)) fun v4 =>
    bh_cs v4 (
      g_X9_unloadOne_b57 p1 Z
    ) (fun a6 =>
      g_X9_unloadOne_new p1 Z
    )
set_option maxRecDepth 100000 in
theorem q_X9_unloadOne {w : Nat → Nat → Nat} {nf nl mb z1 n1 : Nat} {σ0 : bh_S} (p1 : Nat) (hp1 : p1 < cv_cn nf nl 4) {lp : Nat → Nat} {np : Nat} {σ : bh_S} {Z : xs_S} (h : cv_R w nf nl mb z1 n1 σ0 lp np σ Z) : sm (cv_Gx w nf nl mb z1 n1 σ0) (f_X9_unloadOne (w 10 0) (w 4 p1) σ) (g_X9_unloadOne p1 Z) := by
  unfold f_X9_unloadOne g_X9_unloadOne
  refine cv_rdI (d := 37) h hp1 rfl rfl ?_
  refine sm_ite (fun h1 => ?_) (fun h1 => ?_)
  · exact q_X9_unloadOne_b57 p1 hp1 h
  · refine cv_rdV (t := 7) (d := 35) h hp1 rfl (by decide) rfl (fun v4 hv4 => ?_)
    refine sm_cs (W := w 7) hv4 ?_ (fun a6 ha6 => ?_)
    · exact q_X9_unloadOne_b57 p1 hp1 h
    · exact q_X9_unloadOne_new p1 hp1 h
/-! BeetHouse.unloadLorries()V -/
def g_X9_unloadLorries_b84 (N : Nat) (k4 : Int32 → Int32 → xs_S → Option (Unit × xs_S)) (x1 : Int32) (x2 : Int32) (Z : xs_S) : Option (Unit × xs_S) :=
  k4 x1 (x2 + 1) Z
set_option maxRecDepth 100000 in
theorem q_X9_unloadLorries_b84 {w : Nat → Nat → Nat} {nf nl mb z1 n1 : Nat} {σ0 : bh_S} (N : Nat) (k4 : Nat → Int32 → Int32 → bh_S → Option (Unit × bh_S)) (K4 : Int32 → Int32 → xs_S → Option (Unit × xs_S)) (hk4 : ∀ (x1 : Int32) (x2 : Int32) (lp : Nat → Nat) (np : Nat) (σ : bh_S) (Z : xs_S), cv_R w nf nl mb z1 n1 σ0 lp np σ Z → sm (cv_Gx w nf nl mb z1 n1 σ0) (k4 (w 10 0) x1 x2 σ) (K4 x1 x2 Z)) (x1 : Int32) (x2 : Int32) {lp : Nat → Nat} {np : Nat} {σ : bh_S} {Z : xs_S} (h : cv_R w nf nl mb z1 n1 σ0 lp np σ Z) : sm (cv_Gx w nf nl mb z1 n1 σ0) (f_X9_unloadLorries_b84 N k4 (w 10 0) x1 x2 σ) (g_X9_unloadLorries_b84 N K4 x1 x2 Z) := by
  unfold f_X9_unloadLorries_b84 g_X9_unloadLorries_b84
  exact hk4 x1 (x2 + 1) _ _ σ Z h
def g_X9_unloadLorries_b61 (N : Nat) (k4 : Int32 → Int32 → xs_S → Option (Unit × xs_S)) (x2 : Int32) (x3 : Nat) (t0 : Int32) (Z : xs_S) : Option (Unit × xs_S) :=
  if t0 = 0 then
    xs_bnd (g_X9_unloadOne x3 Z) fun v3 Z4 =>
    g_X9_unloadLorries_b84 N k4 t0 x2 Z4
  else
    xs_lt (xs_up Z 39 x3 ((Z 39 x3) + 1)) fun Z8 =>
    g_X9_unloadLorries_b84 N k4 t0 x2 Z8
set_option maxRecDepth 100000 in
theorem q_X9_unloadLorries_b61 {w : Nat → Nat → Nat} {nf nl mb z1 n1 : Nat} {σ0 : bh_S} (N : Nat) (k4 : Nat → Int32 → Int32 → bh_S → Option (Unit × bh_S)) (K4 : Int32 → Int32 → xs_S → Option (Unit × xs_S)) (hk4 : ∀ (x1 : Int32) (x2 : Int32) (lp : Nat → Nat) (np : Nat) (σ : bh_S) (Z : xs_S), cv_R w nf nl mb z1 n1 σ0 lp np σ Z → sm (cv_Gx w nf nl mb z1 n1 σ0) (k4 (w 10 0) x1 x2 σ) (K4 x1 x2 Z)) (x2 : Int32) (x3 : Nat) (t0 : Int32) (hx3 : x3 < cv_cn nf nl 4) {lp : Nat → Nat} {np : Nat} {σ : bh_S} {Z : xs_S} (h : cv_R w nf nl mb z1 n1 σ0 lp np σ Z) : sm (cv_Gx w nf nl mb z1 n1 σ0) (f_X9_unloadLorries_b61 N k4 (w 10 0) x2 (w 4 x3) t0 σ) (g_X9_unloadLorries_b61 N K4 x2 x3 t0 Z) := by
  unfold f_X9_unloadLorries_b61 g_X9_unloadLorries_b61
  refine sm_ite (fun h1 => ?_) (fun h1 => ?_)
  · refine cv_ck h cv_z10 ?_
    refine sm_call (q_X9_unloadOne x3 hx3 h) ?_
    rintro v3 σ4 _ Z4 ⟨rfl, lp, np, h⟩
    exact q_X9_unloadLorries_b84 N k4 K4 hk4 t0 x2 h
  · refine cv_rdI (d := 39) h hx3 rfl rfl ?_
    refine cv_wrI (d := 39) h hx3 rfl rfl (fun σ8 Z8 h => ?_)
    exact q_X9_unloadLorries_b84 N k4 K4 hk4 t0 x2 h
def g_X9_unloadLorries_b56 (N : Nat) (k4 : Int32 → Int32 → xs_S → Option (Unit × xs_S)) (x2 : Int32) (x3 : Nat) (Z : xs_S) : Option (Unit × xs_S) :=
  g_X9_unloadLorries_b61 N k4 x2 x3 1 Z
set_option maxRecDepth 100000 in
theorem q_X9_unloadLorries_b56 {w : Nat → Nat → Nat} {nf nl mb z1 n1 : Nat} {σ0 : bh_S} (N : Nat) (k4 : Nat → Int32 → Int32 → bh_S → Option (Unit × bh_S)) (K4 : Int32 → Int32 → xs_S → Option (Unit × xs_S)) (hk4 : ∀ (x1 : Int32) (x2 : Int32) (lp : Nat → Nat) (np : Nat) (σ : bh_S) (Z : xs_S), cv_R w nf nl mb z1 n1 σ0 lp np σ Z → sm (cv_Gx w nf nl mb z1 n1 σ0) (k4 (w 10 0) x1 x2 σ) (K4 x1 x2 Z)) (x2 : Int32) (x3 : Nat) (hx3 : x3 < cv_cn nf nl 4) {lp : Nat → Nat} {np : Nat} {σ : bh_S} {Z : xs_S} (h : cv_R w nf nl mb z1 n1 σ0 lp np σ Z) : sm (cv_Gx w nf nl mb z1 n1 σ0) (f_X9_unloadLorries_b56 N k4 (w 10 0) x2 (w 4 x3) σ) (g_X9_unloadLorries_b56 N K4 x2 x3 Z) := by
  unfold f_X9_unloadLorries_b56 g_X9_unloadLorries_b56
  exact q_X9_unloadLorries_b61 N k4 K4 hk4 x2 x3 1 hx3 h
def g_X9_unloadLorries_b4 (N : Nat) : Nat → Int32 → Int32 → xs_S → Option (Unit × xs_S)
  | 0, _, _, _ => none
  | n + 1, x1, x2, Z =>
    if (Z 8 0) ≤ x2 then
      some ((), Z)
    else
      (xs_gt Z 8 x2).bind fun v15 =>
      if (Z 34 v15) = 3 then
        if x1 = 0 then
          xs_bnd (g_X8_hasRoomFor (Z 37 v15) Z) fun v31 Z32 =>
          if v31 = 0 then
            g_X9_unloadLorries_b56 N (g_X9_unloadLorries_b4 N n) x2 v15 Z32
          else
            g_X9_unloadLorries_b61 N (g_X9_unloadLorries_b4 N n) x2 v15 0 Z32
        else
          g_X9_unloadLorries_b56 N (g_X9_unloadLorries_b4 N n) x2 v15 Z
      else
        g_X9_unloadLorries_b84 N (g_X9_unloadLorries_b4 N n) x1 x2 Z
set_option maxRecDepth 100000 in
theorem q_X9_unloadLorries_b4 {w : Nat → Nat → Nat} {nf nl mb z1 n1 : Nat} {σ0 : bh_S} (N : Nat) : ∀ (n : Nat) (x1 : Int32) (x2 : Int32) (lp : Nat → Nat) (np : Nat) (σ : bh_S) (Z : xs_S), cv_R w nf nl mb z1 n1 σ0 lp np σ Z → sm (cv_Gx w nf nl mb z1 n1 σ0) (f_X9_unloadLorries_b4 N n (w 10 0) x1 x2 σ) (g_X9_unloadLorries_b4 N n x1 x2 Z) := by
  intro n
  induction n with
  | zero => intro x1 x2  lp np σ Z h; exact sm_none
  | succ n ih =>
    intro x1 x2  lp np σ Z h
    unfold f_X9_unloadLorries_b4 g_X9_unloadLorries_b4
    refine cv_rdC (t := 0) (j := 1) h cv_z10 rfl ?_
    refine sm_nn ?_
    refine cv_ck0 h (by decide) ?_
    refine cv_size (d := 8) h (by decide) rfl ?_
    refine sm_ite (fun h1 => ?_) (fun h1 => ?_)
    · exact sm_ret ⟨rfl, _, _, h⟩
    · refine cv_rdC (t := 0) (j := 1) h cv_z10 rfl ?_
      refine sm_nn ?_
      refine cv_ck0 h (by decide) ?_
      refine cv_get1 h (fun v15 hv15 => ?_)
      refine cv_cst h hv15 ?_
      refine sm_nn ?_
      refine cv_rdI (d := 34) h hv15 rfl rfl ?_
      refine sm_ite (fun h2 => ?_) (fun h2 => ?_)
      · refine sm_ite (fun h3 => ?_) (fun h3 => ?_)
        · refine cv_rdC (t := 9) (j := 0) h cv_z10 rfl ?_
          refine cv_rdI (d := 37) h hv15 rfl rfl ?_
          refine sm_nn ?_
          refine cv_ck h cv_z9 ?_
          refine sm_call (q_X8_hasRoomFor (Z 37 v15) h) ?_
          rintro v31 σ32 _ Z32 ⟨rfl, h⟩
          refine sm_ite (fun h4 => ?_) (fun h4 => ?_)
          · exact q_X9_unloadLorries_b56 N _ (g_X9_unloadLorries_b4 N n) ih x2 v15 hv15 h
          · exact q_X9_unloadLorries_b61 N _ (g_X9_unloadLorries_b4 N n) ih x2 v15 0 hv15 h
        · exact q_X9_unloadLorries_b56 N _ (g_X9_unloadLorries_b4 N n) ih x2 v15 hv15 h
      · exact q_X9_unloadLorries_b84 N _ (g_X9_unloadLorries_b4 N n) ih x1 x2 h
def g_X9_unloadLorries (N : Nat)  (Z : xs_S) : Option (Unit × xs_S) :=
  g_X9_unloadLorries_b4 N N 0 0 Z
set_option maxRecDepth 100000 in
theorem q_X9_unloadLorries {w : Nat → Nat → Nat} {nf nl mb z1 n1 : Nat} {σ0 : bh_S} (N : Nat)  {lp : Nat → Nat} {np : Nat} {σ : bh_S} {Z : xs_S} (h : cv_R w nf nl mb z1 n1 σ0 lp np σ Z) : sm (cv_Gx w nf nl mb z1 n1 σ0) (f_X9_unloadLorries N (w 10 0) σ) (g_X9_unloadLorries N  Z) := by
  unfold f_X9_unloadLorries g_X9_unloadLorries
  exact q_X9_unloadLorries_b4 N N 0 0 _ _ _ _ h
/-! BeetHouse.passHour()V -/
def g_X9_passHour_b89 (N : Nat) : Nat → Int32 → xs_S → Option (Unit × xs_S)
  | 0, _, _ => none
  | n + 1, x1, Z =>
    if (Z 7 0) ≤ x1 then
      some ((), Z)
    else
      (xs_gt Z 7 x1).bind fun v15 =>
      xs_bnd (g_X6_spoil v15 (Z 6 0) Z) fun v23 Z24 =>
      g_X9_passHour_b89 N n (x1 + 1) Z24
set_option maxRecDepth 100000 in
theorem q_X9_passHour_b89 {w : Nat → Nat → Nat} {nf nl mb z1 n1 : Nat} {σ0 : bh_S} (N : Nat) : ∀ (n : Nat) (x1 : Int32) (lp : Nat → Nat) (np : Nat) (σ : bh_S) (Z : xs_S), cv_R w nf nl mb z1 n1 σ0 lp np σ Z → sm (cv_Gx w nf nl mb z1 n1 σ0) (f_X9_passHour_b89 N n (w 10 0) x1 σ) (g_X9_passHour_b89 N n x1 Z) := by
  intro n
  induction n with
  | zero => intro x1  lp np σ Z h; exact sm_none
  | succ n ih =>
    intro x1  lp np σ Z h
    unfold f_X9_passHour_b89 g_X9_passHour_b89
    refine cv_rdC (t := 0) (j := 0) h cv_z10 rfl ?_
    refine sm_nn ?_
    refine cv_ck0 h (by decide) ?_
    refine cv_size (d := 7) h (by decide) rfl ?_
    refine sm_ite (fun h1 => ?_) (fun h1 => ?_)
    · exact sm_ret ⟨rfl, _, _, h⟩
    · refine cv_rdC (t := 0) (j := 0) h cv_z10 rfl ?_
      refine sm_nn ?_
      refine cv_ck0 h (by decide) ?_
      refine cv_get0 h (fun v15 hv15 => ?_)
      refine cv_cst h hv15 ?_
      refine cv_rdI (d := 6) h cv_z10 rfl rfl ?_
      refine sm_nn ?_
      refine cv_ck h hv15 ?_
      refine sm_call (q_X6_spoil v15 (Z 6 0) hv15 h) ?_
      rintro v23 σ24 _ Z24 ⟨rfl, h⟩
      exact ih (x1 + 1) _ _ σ24 Z24 h
def g_X9_passHour_b87 (N : Nat)  (Z : xs_S) : Option (Unit × xs_S) :=
  g_X9_passHour_b89 N N 0 Z
set_option maxRecDepth 100000 in
theorem q_X9_passHour_b87 {w : Nat → Nat → Nat} {nf nl mb z1 n1 : Nat} {σ0 : bh_S} (N : Nat)  {lp : Nat → Nat} {np : Nat} {σ : bh_S} {Z : xs_S} (h : cv_R w nf nl mb z1 n1 σ0 lp np σ Z) : sm (cv_Gx w nf nl mb z1 n1 σ0) (f_X9_passHour_b87 N (w 10 0) σ) (g_X9_passHour_b87 N  Z) := by
  unfold f_X9_passHour_b87 g_X9_passHour_b87
  exact q_X9_passHour_b89 N N 0 _ _ _ _ h
def g_X9_passHour_b23 (N : Nat) : Nat → Int32 → xs_S → Option (Unit × xs_S)
  | 0, _, _ => none
  | n + 1, x1, Z =>
    if (Z 8 0) ≤ x1 then
      xs_bnd (g_X9_unloadLorries N Z) fun v11 Z12 =>
      xs_bnd (g_X4_grind N Z12) fun v23 Z24 =>
      if ((Z24 6 0) - (Z24 6 0) / 24 * 24) = 0 then
        xs_bnd (g_X9_wasteHeaps N Z24) fun v30 Z31 =>
        g_X9_passHour_b87 N Z31
      else
        g_X9_passHour_b87 N Z24
    else
      (xs_gt Z 8 x1).bind fun v38 =>
      xs_bnd (g_X3_arrive v38 (Z 6 0) Z) fun v46 Z47 =>
      g_X9_passHour_b23 N n (x1 + 1) Z47
set_option maxRecDepth 100000 in
theorem q_X9_passHour_b23 {w : Nat → Nat → Nat} {nf nl mb z1 n1 : Nat} {σ0 : bh_S} (N : Nat) : ∀ (n : Nat) (x1 : Int32) (lp : Nat → Nat) (np : Nat) (σ : bh_S) (Z : xs_S), cv_R w nf nl mb z1 n1 σ0 lp np σ Z → sm (cv_Gx w nf nl mb z1 n1 σ0) (f_X9_passHour_b23 N n (w 10 0) x1 σ) (g_X9_passHour_b23 N n x1 Z) := by
  intro n
  induction n with
  | zero => intro x1  lp np σ Z h; exact sm_none
  | succ n ih =>
    intro x1  lp np σ Z h
    unfold f_X9_passHour_b23 g_X9_passHour_b23
    refine cv_rdC (t := 0) (j := 1) h cv_z10 rfl ?_
    refine sm_nn ?_
    refine cv_ck0 h (by decide) ?_
    refine cv_size (d := 8) h (by decide) rfl ?_
    refine sm_ite (fun h1 => ?_) (fun h1 => ?_)
    · refine cv_ck h cv_z10 ?_
      refine sm_call (q_X9_unloadLorries N h) ?_
      rintro v11 σ12 _ Z12 ⟨rfl, lp, np, h⟩
      refine cv_rdC (t := 5) (j := 0) h cv_z10 rfl ?_
      refine cv_rdC (t := 9) (j := 0) h cv_z10 rfl ?_
      refine sm_nn ?_
      refine sm_nn ?_
      refine cv_ck h cv_z5 ?_
      refine sm_call (q_X4_grind N h) ?_
      rintro v23 σ24 _ Z24 ⟨rfl, lp, np, h⟩
      refine cv_rdI (d := 6) h cv_z10 rfl rfl ?_
      refine sm_ite (fun h2 => ?_) (fun h2 => ?_)
      · refine cv_ck h cv_z10 ?_
        refine sm_call (q_X9_wasteHeaps N h) ?_
        rintro v30 σ31 _ Z31 ⟨rfl, h⟩
        exact q_X9_passHour_b87 N h
      · exact q_X9_passHour_b87 N h
    · refine cv_rdC (t := 0) (j := 1) h cv_z10 rfl ?_
      refine sm_nn ?_
      refine cv_ck0 h (by decide) ?_
      refine cv_get1 h (fun v38 hv38 => ?_)
      refine cv_cst h hv38 ?_
      refine cv_rdI (d := 6) h cv_z10 rfl rfl ?_
      refine sm_nn ?_
      refine cv_ck h hv38 ?_
      refine sm_call (q_X3_arrive v38 (Z 6 0) hv38 h) ?_
      rintro v46 σ47 _ Z47 ⟨rfl, h⟩
      exact ih (x1 + 1) _ _ σ47 Z47 h
def g_X9_passHour_b21 (N : Nat)  (Z : xs_S) : Option (Unit × xs_S) :=
  g_X9_passHour_b23 N N 0 Z
set_option maxRecDepth 100000 in
theorem q_X9_passHour_b21 {w : Nat → Nat → Nat} {nf nl mb z1 n1 : Nat} {σ0 : bh_S} (N : Nat)  {lp : Nat → Nat} {np : Nat} {σ : bh_S} {Z : xs_S} (h : cv_R w nf nl mb z1 n1 σ0 lp np σ Z) : sm (cv_Gx w nf nl mb z1 n1 σ0) (f_X9_passHour_b21 N (w 10 0) σ) (g_X9_passHour_b21 N  Z) := by
  unfold f_X9_passHour_b21 g_X9_passHour_b21
  exact q_X9_passHour_b23 N N 0 _ _ _ _ h
def g_X9_passHour (N : Nat)  (Z : xs_S) : Option (Unit × xs_S) :=
  xs_lt (xs_up Z 6 0 ((Z 6 0) + 1)) fun Z3 =>
  if (Z3 17 0) = 0 then
    xs_bnd (g_X9_liftRoots N Z3) fun v9 Z10 =>
    g_X9_passHour_b21 N Z10
  else
    g_X9_passHour_b21 N Z3
set_option maxRecDepth 100000 in
theorem q_X9_passHour {w : Nat → Nat → Nat} {nf nl mb z1 n1 : Nat} {σ0 : bh_S} (N : Nat)  {lp : Nat → Nat} {np : Nat} {σ : bh_S} {Z : xs_S} (h : cv_R w nf nl mb z1 n1 σ0 lp np σ Z) : sm (cv_Gx w nf nl mb z1 n1 σ0) (f_X9_passHour N (w 10 0) σ) (g_X9_passHour N  Z) := by
  unfold f_X9_passHour g_X9_passHour
  refine cv_rdI (d := 6) h cv_z10 rfl rfl ?_
  refine cv_wrI (d := 6) h cv_z10 rfl rfl (fun σ3 Z3 h => ?_)
  refine cv_rdI (d := 17) h cv_z10 rfl rfl ?_
  refine sm_ite (fun h1 => ?_) (fun h1 => ?_)
  · refine cv_ck h cv_z10 ?_
    refine sm_call (q_X9_liftRoots N h) ?_
    rintro v9 σ10 _ Z10 ⟨rfl, h⟩
    exact q_X9_passHour_b21 N h
  · exact q_X9_passHour_b21 N h
/-! BeetHouse.hours(I)I -/
def g_X9_hours_b41 (N : Nat) : Nat → Int32 → Int32 → Int32 → xs_S → Option (Int32 × xs_S)
  | 0, _, _, _, _ => none
  | n + 1, x1, x2, x3, Z =>
    if x1 ≤ x3 then
      some ((Z 11 0) - x2, Z)
    else
      xs_bnd (g_X9_passHour N Z) fun v9 Z10 =>
      g_X9_hours_b41 N n x1 x2 (x3 + 1) Z10
set_option maxRecDepth 100000 in
theorem q_X9_hours_b41 {w : Nat → Nat → Nat} {nf nl mb z1 n1 : Nat} {σ0 : bh_S} (N : Nat) : ∀ (n : Nat) (x1 : Int32) (x2 : Int32) (x3 : Int32) (lp : Nat → Nat) (np : Nat) (σ : bh_S) (Z : xs_S), cv_R w nf nl mb z1 n1 σ0 lp np σ Z → sm (cv_Gx w nf nl mb z1 n1 σ0) (f_X9_hours_b41 N n (w 10 0) x1 x2 x3 σ) (g_X9_hours_b41 N n x1 x2 x3 Z) := by
  intro n
  induction n with
  | zero => intro x1 x2 x3  lp np σ Z h; exact sm_none
  | succ n ih =>
    intro x1 x2 x3  lp np σ Z h
    unfold f_X9_hours_b41 g_X9_hours_b41
    refine sm_ite (fun h1 => ?_) (fun h1 => ?_)
    · refine cv_rdC (t := 5) (j := 0) h cv_z10 rfl ?_
      refine sm_nn ?_
      refine cv_rdI (d := 11) h cv_z5 rfl rfl ?_
      exact sm_ret ⟨rfl, _, _, h⟩
    · refine cv_ck h cv_z10 ?_
      refine sm_call (q_X9_passHour N h) ?_
      rintro v9 σ10 _ Z10 ⟨rfl, lp, np, h⟩
      exact ih x1 x2 (x3 + 1) _ _ σ10 Z10 h
def g_X9_hours (N : Nat) (p1 : Int32) (Z : xs_S) : Option (Int32 × xs_S) :=
  if 1 ≤ p1 then
    if p1 ≤ (2400 - (Z 6 0)) then
      g_X9_hours_b41 N N p1 (Z 11 0) 0 Z
    else
      xs_bnd (g_X9_refuse (-6) Z) fun v12 Z13 =>
      some (v12, Z13)
  else
    xs_bnd (g_X9_refuse (-4) Z) fun v16 Z17 =>
    some (v16, Z17)
set_option maxRecDepth 100000 in
theorem q_X9_hours {w : Nat → Nat → Nat} {nf nl mb z1 n1 : Nat} {σ0 : bh_S} (N : Nat) (p1 : Int32) {lp : Nat → Nat} {np : Nat} {σ : bh_S} {Z : xs_S} (h : cv_R w nf nl mb z1 n1 σ0 lp np σ Z) : sm (cv_Gx w nf nl mb z1 n1 σ0) (f_X9_hours N (w 10 0) p1 σ) (g_X9_hours N p1 Z) := by
  unfold f_X9_hours g_X9_hours
  refine sm_ite (fun h1 => ?_) (fun h1 => ?_)
  · refine cv_rdI (d := 6) h cv_z10 rfl rfl ?_
    refine sm_ite (fun h2 => ?_) (fun h2 => ?_)
    · refine cv_rdC (t := 5) (j := 0) h cv_z10 rfl ?_
      refine sm_nn ?_
      refine cv_rdI (d := 11) h cv_z5 rfl rfl ?_
      exact q_X9_hours_b41 N N p1 (Z 11 0) 0 _ _ _ _ h
    · refine cv_ck h cv_z10 ?_
      refine sm_call (q_X9_refuse (-6) h) ?_
      rintro v12 σ13 _ Z13 ⟨rfl, h⟩
      exact sm_ret ⟨rfl, _, _, h⟩
  · refine cv_ck h cv_z10 ?_
    refine sm_call (q_X9_refuse (-4) h) ?_
    rintro v16 σ17 _ Z17 ⟨rfl, h⟩
    exact sm_ret ⟨rfl, _, _, h⟩
