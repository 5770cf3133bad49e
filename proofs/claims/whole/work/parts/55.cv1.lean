def cv_G (w : Nat → Nat → Nat) (nf nl mb z1 n1 : Nat) (σ0 : bh_S) (lp : Nat → Nat) (np : Nat) {α : Type} : α → bh_S → α → xs_S → Prop := fun a σ' b Z' => a = b ∧ cv_R w nf nl mb z1 n1 σ0 lp np σ' Z'
def cv_Gx (w : Nat → Nat → Nat) (nf nl mb z1 n1 : Nat) (σ0 : bh_S) {α : Type} : α → bh_S → α → xs_S → Prop := fun a σ' b Z' => a = b ∧ ∃ lp np, cv_R w nf nl mb z1 n1 σ0 lp np σ' Z'
def cv_Go (w : Nat → Nat → Nat) (nf nl mb z1 n1 : Nat) (σ0 : bh_S) (lp : Nat → Nat) (np c : Nat) : Option Nat → bh_S → Option Nat → xs_S → Prop := fun a σ' b Z' => a = b.map (w c) ∧ (∀ j, b = some j → j < cv_cn nf nl c) ∧ cv_R w nf nl mb z1 n1 σ0 lp np σ' Z'
theorem cv_z5 {nf nl : Nat} : 0 < cv_cn nf nl 5 := Nat.zero_lt_one
theorem cv_z6 {nf nl : Nat} : 0 < cv_cn nf nl 6 := Nat.zero_lt_one
theorem cv_z8 {nf nl : Nat} : 0 < cv_cn nf nl 8 := Nat.zero_lt_one
theorem cv_z9 {nf nl : Nat} : 0 < cv_cn nf nl 9 := Nat.zero_lt_one
theorem cv_z10 {nf nl : Nat} : 0 < cv_cn nf nl 10 := Nat.zero_lt_one
def cv_Gw (w : Nat → Nat → Nat) (mb z1 n1 : Nat) (σ0 : bh_S) {α : Type} : α → bh_S → α → xs_S → Prop := fun a σ' b Z' => a = b ∧ ∃ w' nf' nl' lp' np', w' 10 0 = w 10 0 ∧ cv_R w' nf' nl' mb z1 n1 σ0 lp' np' σ' Z'
/-! BeetHouse$Farmer.claim(I)I -/
def g_X0_claim (i0 : Nat) (p1 : Int32) (Z : xs_S) : Option (Int32 × xs_S) :=
  some (((Z 1 i0) * p1) - (1000 * (Z 62 i0)), Z)
set_option maxRecDepth 100000 in
theorem q_X0_claim {w : Nat → Nat → Nat} {nf nl mb z1 n1 : Nat} {σ0 : bh_S} {lp : Nat → Nat} {np : Nat} (i0 : Nat) (p1 : Int32) (hi0 : i0 < cv_cn nf nl 1) {σ : bh_S} {Z : xs_S} (h : cv_R w nf nl mb z1 n1 σ0 lp np σ Z) : sm (cv_G w nf nl mb z1 n1 σ0 lp np) (f_X0_claim (w 1 i0) p1 σ) (g_X0_claim i0 p1 Z) := by
  unfold f_X0_claim g_X0_claim
  refine cv_rdI (d := 1) h hi0 rfl rfl ?_
  refine cv_rdI (d := 62) h hi0 rfl rfl ?_
  exact sm_ret ⟨rfl, h⟩
/-! BeetHouse$Farmer.comesBefore(LBeetHouse$Farmer;I)Z -/
def g_X0_comesBefore (i0 : Nat) (p1 : Nat) (p2 : Int32) (Z : xs_S) : Option (Int32 × xs_S) :=
  xs_bnd (g_X0_claim i0 p2 Z) fun v2 Z3 =>
  xs_bnd (g_X0_claim p1 p2 Z3) fun v6 Z7 =>
  if v6 < v2 then
    xs_retZ Z7 1
  else
    if v2 = v6 then
      if (Z7 100 p1) ≤ (Z7 100 i0) then
        xs_retZ Z7 0
      else
        xs_retZ Z7 1
    else
      xs_retZ Z7 0
set_option maxRecDepth 100000 in
theorem q_X0_comesBefore {w : Nat → Nat → Nat} {nf nl mb z1 n1 : Nat} {σ0 : bh_S} {lp : Nat → Nat} {np : Nat} (i0 : Nat) (p1 : Nat) (p2 : Int32) (hi0 : i0 < cv_cn nf nl 1) (hp1 : p1 < cv_cn nf nl 1) {σ : bh_S} {Z : xs_S} (h : cv_R w nf nl mb z1 n1 σ0 lp np σ Z) : sm (cv_G w nf nl mb z1 n1 σ0 lp np) (f_X0_comesBefore (w 1 i0) (w 1 p1) p2 σ) (g_X0_comesBefore i0 p1 p2 Z) := by
  unfold f_X0_comesBefore g_X0_comesBefore
  refine cv_ck h hi0 ?_
  refine sm_call (q_X0_claim i0 p2 hi0 h) ?_
  rintro v2 σ3 _ Z3 ⟨rfl, h⟩
  refine cv_ck h hp1 ?_
  refine sm_call (q_X0_claim p1 p2 hp1 h) ?_
  rintro v6 σ7 _ Z7 ⟨rfl, h⟩
  refine sm_ite (fun h1 => ?_) (fun h1 => ?_)
  · exact sm_retZ ⟨rfl, h⟩
  · refine sm_ite (fun h2 => ?_) (fun h2 => ?_)
    · refine cv_rdI (d := 100) h hi0 rfl rfl ?_
      refine cv_rdI (d := 100) h hp1 rfl rfl ?_
      refine sm_ite (fun h3 => ?_) (fun h3 => ?_)
      · exact sm_retZ ⟨rfl, h⟩
      · exact sm_retZ ⟨rfl, h⟩
    · exact sm_retZ ⟨rfl, h⟩
/-! BeetHouse$Lorry.isOutTo(LBeetHouse$Plot;)Z -/
def g_X3_isOutTo (i0 : Nat) (p1 : Nat) (Z : xs_S) : Option (Int32 × xs_S) :=
  if (Z 34 i0) = 1 then
    xs_lt (xs_rf (Z 35 i0)) fun v4 =>
    if v4 = some p1 then
      xs_retZ Z 1
    else
      xs_retZ Z 0
  else
    xs_retZ Z 0
set_option maxRecDepth 100000 in
theorem q_X3_isOutTo {w : Nat → Nat → Nat} {nf nl mb z1 n1 : Nat} {σ0 : bh_S} {lp : Nat → Nat} {np : Nat} (i0 : Nat) (p1 : Nat) (hi0 : i0 < cv_cn nf nl 4) (hp1 : p1 < cv_cn nf nl 7) {σ : bh_S} {Z : xs_S} (h : cv_R w nf nl mb z1 n1 σ0 lp np σ Z) : sm (cv_G w nf nl mb z1 n1 σ0 lp np) (f_X3_isOutTo (w 4 i0) (w 7 p1) σ) (g_X3_isOutTo i0 p1 Z) := by
  unfold f_X3_isOutTo g_X3_isOutTo
  refine cv_rdI (d := 34) h hi0 rfl rfl ?_
  refine sm_ite (fun h1 => ?_) (fun h1 => ?_)
  · refine cv_rdV (t := 7) (d := 35) h hi0 rfl (by decide) rfl (fun v4 hv4 => ?_)
    refine sm_ite2 (cv_same1 (c := 7) h hv4 hp1) (fun h2 => ?_) (fun h2 => ?_)
    · exact sm_retZ ⟨rfl, h⟩
    · exact sm_retZ ⟨rfl, h⟩
  · exact sm_retZ ⟨rfl, h⟩
/-! BeetHouse$Lorry.setOut(LBeetHouse$Plot;I)V -/
def g_X3_setOut (i0 : Nat) (p1 : Nat) (p2 : Int32) (Z : xs_S) : Option (Unit × xs_S) :=
  xs_lt (xs_up Z 34 i0 1) fun Z1 =>
  xs_lt (xs_up Z1 35 i0 (xs_fr (-9) (some p1))) fun Z3 =>
  xs_lt (xs_up Z3 36 i0 (p2 + (Z3 21 p1))) fun Z7 =>
  some ((), Z7)
set_option maxRecDepth 100000 in
theorem q_X3_setOut {w : Nat → Nat → Nat} {nf nl mb z1 n1 : Nat} {σ0 : bh_S} {lp : Nat → Nat} {np : Nat} (i0 : Nat) (p1 : Nat) (p2 : Int32) (hi0 : i0 < cv_cn nf nl 4) (hp1 : p1 < cv_cn nf nl 7) {σ : bh_S} {Z : xs_S} (h : cv_R w nf nl mb z1 n1 σ0 lp np σ Z) : sm (cv_G w nf nl mb z1 n1 σ0 lp np) (f_X3_setOut (w 4 i0) (w 7 p1) p2 σ) (g_X3_setOut i0 p1 p2 Z) := by
  unfold f_X3_setOut g_X3_setOut
  refine cv_wrI (d := 34) h hi0 rfl rfl (fun σ1 Z1 h => ?_)
  refine cv_wrV1 (dn := (-9)) (t := 7) (d := 35) h hi0 rfl (by decide) rfl (by decide) hp1 (fun σ3 Z3 h => ?_)
  refine cv_rdI (d := 21) h hp1 rfl rfl ?_
  refine cv_wrI (d := 36) h hi0 rfl rfl (fun σ7 Z7 h => ?_)
  exact sm_ret ⟨rfl, h⟩
/-! BeetHouse$Plot.lose(II)V -/
def g_X6_lose (i0 : Nat) (p1 : Int32) (p2 : Int32) (Z : xs_S) : Option (Unit × xs_S) :=
  xs_lt (xs_up Z 22 i0 ((Z 22 i0) - p1)) fun Z3 =>
  xs_lt (xs_up Z3 23 i0 ((Z3 23 i0) - p2)) fun Z7 =>
  if (Z7 22 i0) = 0 then
    xs_lt (xs_up Z7 24 i0 (-9)) fun Z12 =>
    some ((), Z12)
  else
    some ((), Z7)
set_option maxRecDepth 100000 in
theorem q_X6_lose {w : Nat → Nat → Nat} {nf nl mb z1 n1 : Nat} {σ0 : bh_S} {lp : Nat → Nat} {np : Nat} (i0 : Nat) (p1 : Int32) (p2 : Int32) (hi0 : i0 < cv_cn nf nl 7) {σ : bh_S} {Z : xs_S} (h : cv_R w nf nl mb z1 n1 σ0 lp np σ Z) : sm (cv_G w nf nl mb z1 n1 σ0 lp np) (f_X6_lose (w 7 i0) p1 p2 σ) (g_X6_lose i0 p1 p2 Z) := by
  unfold f_X6_lose g_X6_lose
  refine cv_rdI (d := 22) h hi0 rfl rfl ?_
  refine cv_wrI (d := 22) h hi0 rfl rfl (fun σ3 Z3 h => ?_)
  refine cv_rdI (d := 23) h hi0 rfl rfl ?_
  refine cv_wrI (d := 23) h hi0 rfl rfl (fun σ7 Z7 h => ?_)
  refine cv_rdI (d := 22) h hi0 rfl rfl ?_
  refine sm_ite (fun h1 => ?_) (fun h1 => ?_)
  · refine cv_wrI (d := 24) h hi0 rfl rfl (fun σ12 Z12 h => ?_)
    exact sm_ret ⟨rfl, h⟩
  · exact sm_ret ⟨rfl, h⟩
/-! BeetHouse$Plot.sugarIn(I)I -/
def g_X6_sugarIn (i0 : Nat) (p1 : Int32) (Z : xs_S) : Option (Int32 × xs_S) :=
  if (Z 22 i0) ≤ 0 then
    some (0, Z)
  else
    (bh_nzL ((Z 22 i0).toInt64)).bind fun _ =>
    some ((((Z 23 i0).toInt64 * p1.toInt64) / (Z 22 i0).toInt64).toInt32, Z)
set_option maxRecDepth 100000 in
theorem q_X6_sugarIn {w : Nat → Nat → Nat} {nf nl mb z1 n1 : Nat} {σ0 : bh_S} {lp : Nat → Nat} {np : Nat} (i0 : Nat) (p1 : Int32) (hi0 : i0 < cv_cn nf nl 7) {σ : bh_S} {Z : xs_S} (h : cv_R w nf nl mb z1 n1 σ0 lp np σ Z) : sm (cv_G w nf nl mb z1 n1 σ0 lp np) (f_X6_sugarIn (w 7 i0) p1 σ) (g_X6_sugarIn i0 p1 Z) := by
  unfold f_X6_sugarIn g_X6_sugarIn
  refine cv_rdI (d := 22) h hi0 rfl rfl ?_
  refine sm_ite (fun h1 => ?_) (fun h1 => ?_)
  · exact sm_ret ⟨rfl, h⟩
  · refine cv_rdI (d := 23) h hi0 rfl rfl ?_
    refine cv_rdI (d := 22) h hi0 rfl rfl ?_
    refine sm_op (fun _ h9 => ?_)
    exact sm_ret ⟨rfl, h⟩
/-! BeetHouse$Lorry.fill(LBeetHouse$Plot;)V -/
def g_X3_fill (i0 : Nat) (p1 : Nat) (Z : xs_S) : Option (Unit × xs_S) :=
  xs_lt (xs_up Z 37 i0 (bh_min (Z 33 i0) (Z 22 p1))) fun Z5 =>
  xs_bnd (g_X6_sugarIn p1 (bh_min (Z 33 i0) (Z 22 p1)) Z5) fun v8 Z9 =>
  xs_lt (xs_up Z9 38 i0 v8) fun Z11 =>
  xs_bnd (g_X6_lose p1 (Z11 37 i0) (Z11 38 i0) Z11) fun v18 Z19 =>
  some ((), Z19)
set_option maxRecDepth 100000 in
theorem q_X3_fill {w : Nat → Nat → Nat} {nf nl mb z1 n1 : Nat} {σ0 : bh_S} {lp : Nat → Nat} {np : Nat} (i0 : Nat) (p1 : Nat) (hi0 : i0 < cv_cn nf nl 4) (hp1 : p1 < cv_cn nf nl 7) {σ : bh_S} {Z : xs_S} (h : cv_R w nf nl mb z1 n1 σ0 lp np σ Z) : sm (cv_G w nf nl mb z1 n1 σ0 lp np) (f_X3_fill (w 4 i0) (w 7 p1) σ) (g_X3_fill i0 p1 Z) := by
  unfold f_X3_fill g_X3_fill
  refine cv_rdI (d := 33) h hi0 rfl rfl ?_
  refine cv_rdI (d := 22) h hp1 rfl rfl ?_
  refine cv_wrI (d := 37) h hi0 rfl rfl (fun σ5 Z5 h => ?_)
  refine cv_ck h hp1 ?_
  refine sm_call (q_X6_sugarIn p1 (bh_min (Z 33 i0) (Z 22 p1)) hp1 h) ?_
  rintro v8 σ9 _ Z9 ⟨rfl, h⟩
  refine cv_wrI (d := 38) h hi0 rfl rfl (fun σ11 Z11 h => ?_)
  refine cv_rdI (d := 37) h hi0 rfl rfl ?_
  refine cv_rdI (d := 38) h hi0 rfl rfl ?_
  refine cv_ck h hp1 ?_
  refine sm_call (q_X6_lose p1 (Z11 37 i0) (Z11 38 i0) hp1 h) ?_
  rintro v18 σ19 _ Z19 ⟨rfl, h⟩
  exact sm_ret ⟨rfl, h⟩
/-! BeetHouse$Plot.wayBack()I -/
def g_X6_wayBack (i0 : Nat) (Z : xs_S) : Option (Int32 × xs_S) :=
  if (Z 28 i0) = 0 then
    some ((Z 21 i0), Z)
  else
    some ((Z 21 i0) + 1, Z)
set_option maxRecDepth 100000 in
theorem q_X6_wayBack {w : Nat → Nat → Nat} {nf nl mb z1 n1 : Nat} {σ0 : bh_S} {lp : Nat → Nat} {np : Nat} (i0 : Nat) (hi0 : i0 < cv_cn nf nl 7) {σ : bh_S} {Z : xs_S} (h : cv_R w nf nl mb z1 n1 σ0 lp np σ Z) : sm (cv_G w nf nl mb z1 n1 σ0 lp np) (f_X6_wayBack (w 7 i0) σ) (g_X6_wayBack i0 Z) := by
  unfold f_X6_wayBack g_X6_wayBack
  refine cv_rdI (d := 28) h hi0 rfl rfl ?_
  refine sm_ite (fun h1 => ?_) (fun h1 => ?_)
  · refine cv_rdI (d := 21) h hi0 rfl rfl ?_
    exact sm_ret ⟨rfl, h⟩
  · refine cv_rdI (d := 21) h hi0 rfl rfl ?_
    exact sm_ret ⟨rfl, h⟩
/-! BeetHouse$Lorry.arrive(I)V -/
def g_X3_arrive (i0 : Nat) (p1 : Int32) (Z : xs_S) : Option (Unit × xs_S) :=
  if (Z 36 i0) = p1 then
    xs_lt (xs_rf (Z 35 i0)) fun v4 =>
    bh_cs v4 (
      some ((), Z)
    ) (fun a6 =>
      if (Z 34 i0) = 1 then
        xs_lt (xs_rf (Z 35 i0)) fun v18 =>
        (v18).bind fun a20 =>
        xs_bnd (g_X3_fill i0 a20 Z) fun v23 Z24 =>
        xs_lt (xs_up Z24 34 i0 2) fun Z26 =>
        xs_lt (xs_rf (Z26 35 i0)) fun v28 =>
        (v28).bind fun a30 =>
        xs_bnd (g_X6_wayBack a30 Z26) fun v33 Z34 =>
        xs_lt (xs_up Z34 36 i0 (p1 + v33)) fun Z36 =>
        some ((), Z36)
      else
        if (Z 34 i0) = 2 then
          xs_lt (xs_up Z 34 i0 3) fun Z14 =>
          xs_lt (xs_up Z14 36 i0 (-9)) fun Z16 =>
          some ((), Z16)
        else
          some ((), Z)
    )
  else
    some ((), Z)
set_option maxRecDepth 100000 in
theorem q_X3_arrive {w : Nat → Nat → Nat} {nf nl mb z1 n1 : Nat} {σ0 : bh_S} {lp : Nat → Nat} {np : Nat} (i0 : Nat) (p1 : Int32) (hi0 : i0 < cv_cn nf nl 4) {σ : bh_S} {Z : xs_S} (h : cv_R w nf nl mb z1 n1 σ0 lp np σ Z) : sm (cv_G w nf nl mb z1 n1 σ0 lp np) (f_X3_arrive (w 4 i0) p1 σ) (g_X3_arrive i0 p1 Z) := by
  unfold f_X3_arrive g_X3_arrive
  refine cv_rdI (d := 36) h hi0 rfl rfl ?_
  refine sm_ite (fun h1 => ?_) (fun h1 => ?_)
  · refine cv_rdV (t := 7) (d := 35) h hi0 rfl (by decide) rfl (fun v4 hv4 => ?_)
    refine sm_cs (W := w 7) hv4 ?_ (fun a6 ha6 => ?_)
    · exact sm_ret ⟨rfl, h⟩
    · refine cv_rdI (d := 34) h hi0 rfl rfl ?_
      refine sm_ite (fun h2 => ?_) (fun h2 => ?_)
      · refine cv_rdV (t := 7) (d := 35) h hi0 rfl (by decide) rfl (fun v18 hv18 => ?_)
        refine sm_bv (W := w 7) hv18 (fun a20 ha20 => ?_)
        refine cv_ck h hi0 ?_
        refine sm_call (q_X3_fill i0 a20 hi0 ha20 h) ?_
        rintro v23 σ24 _ Z24 ⟨rfl, h⟩
        refine cv_wrI (d := 34) h hi0 rfl rfl (fun σ26 Z26 h => ?_)
        refine cv_rdV (t := 7) (d := 35) h hi0 rfl (by decide) rfl (fun v28 hv28 => ?_)
        refine sm_bv (W := w 7) hv28 (fun a30 ha30 => ?_)
        refine cv_ck h ha30 ?_
        refine sm_call (q_X6_wayBack a30 ha30 h) ?_
        rintro v33 σ34 _ Z34 ⟨rfl, h⟩
        refine cv_wrI (d := 36) h hi0 rfl rfl (fun σ36 Z36 h => ?_)
        exact sm_ret ⟨rfl, h⟩
      · refine cv_rdI (d := 34) h hi0 rfl rfl ?_
        refine sm_ite (fun h3 => ?_) (fun h3 => ?_)
        · refine cv_wrI (d := 34) h hi0 rfl rfl (fun σ14 Z14 h => ?_)
          refine cv_wrI (d := 36) h hi0 rfl rfl (fun σ16 Z16 h => ?_)
          exact sm_ret ⟨rfl, h⟩
        · exact sm_ret ⟨rfl, h⟩
  · exact sm_ret ⟨rfl, h⟩
/-! BeetHouse$Lorry.comeHome()V -/
def g_X3_comeHome (i0 : Nat) (Z : xs_S) : Option (Unit × xs_S) :=
  xs_lt (xs_up Z 34 i0 0) fun Z1 =>
  xs_lt (xs_up Z1 35 i0 (xs_fr (-9) none)) fun Z3 =>
  xs_lt (xs_up Z3 37 i0 0) fun Z5 =>
  xs_lt (xs_up Z5 38 i0 0) fun Z7 =>
  some ((), Z7)
set_option maxRecDepth 100000 in
theorem q_X3_comeHome {w : Nat → Nat → Nat} {nf nl mb z1 n1 : Nat} {σ0 : bh_S} {lp : Nat → Nat} {np : Nat} (i0 : Nat) (hi0 : i0 < cv_cn nf nl 4) {σ : bh_S} {Z : xs_S} (h : cv_R w nf nl mb z1 n1 σ0 lp np σ Z) : sm (cv_G w nf nl mb z1 n1 σ0 lp np) (f_X3_comeHome (w 4 i0) σ) (g_X3_comeHome i0 Z) := by
  unfold f_X3_comeHome g_X3_comeHome
  refine cv_wrI (d := 34) h hi0 rfl rfl (fun σ1 Z1 h => ?_)
  refine cv_wrV0 (dn := (-9)) (t := 7) (d := 35) h hi0 rfl (by decide) rfl (by decide) (fun σ3 Z3 h => ?_)
  refine cv_wrI (d := 37) h hi0 rfl rfl (fun σ5 Z5 h => ?_)
  refine cv_wrI (d := 38) h hi0 rfl rfl (fun σ7 Z7 h => ?_)
  exact sm_ret ⟨rfl, h⟩
/-! BeetHouse$Plot.rootsFor(I)I -/
def g_X6_rootsFor (i0 : Nat) (p1 : Int32) (Z : xs_S) : Option (Int32 × xs_S) :=
  if (Z 28 i0) = 0 then
    some (p1, Z)
  else
    some (p1 / 2, Z)
set_option maxRecDepth 100000 in
theorem q_X6_rootsFor {w : Nat → Nat → Nat} {nf nl mb z1 n1 : Nat} {σ0 : bh_S} {lp : Nat → Nat} {np : Nat} (i0 : Nat) (p1 : Int32) (hi0 : i0 < cv_cn nf nl 7) {σ : bh_S} {Z : xs_S} (h : cv_R w nf nl mb z1 n1 σ0 lp np σ Z) : sm (cv_G w nf nl mb z1 n1 σ0 lp np) (f_X6_rootsFor (w 7 i0) p1 σ) (g_X6_rootsFor i0 p1 Z) := by
  unfold f_X6_rootsFor g_X6_rootsFor
  refine cv_rdI (d := 28) h hi0 rfl rfl ?_
  refine sm_ite (fun h1 => ?_) (fun h1 => ?_)
  · exact sm_ret ⟨rfl, h⟩
  · exact sm_ret ⟨rfl, h⟩
/-! BeetHouse$Plot.unitsFor(I)I -/
def g_X6_unitsFor (i0 : Nat) (p1 : Int32) (Z : xs_S) : Option (Int32 × xs_S) :=
  if (Z 28 i0) = 0 then
    some (p1, Z)
  else
    some (2 * p1, Z)
set_option maxRecDepth 100000 in
theorem q_X6_unitsFor {w : Nat → Nat → Nat} {nf nl mb z1 n1 : Nat} {σ0 : bh_S} {lp : Nat → Nat} {np : Nat} (i0 : Nat) (p1 : Int32) (hi0 : i0 < cv_cn nf nl 7) {σ : bh_S} {Z : xs_S} (h : cv_R w nf nl mb z1 n1 σ0 lp np σ Z) : sm (cv_G w nf nl mb z1 n1 σ0 lp np) (f_X6_unitsFor (w 7 i0) p1 σ) (g_X6_unitsFor i0 p1 Z) := by
  unfold f_X6_unitsFor g_X6_unitsFor
  refine cv_rdI (d := 28) h hi0 rfl rfl ?_
  refine sm_ite (fun h1 => ?_) (fun h1 => ?_)
  · exact sm_ret ⟨rfl, h⟩
  · exact sm_ret ⟨rfl, h⟩
/-! BeetHouse$Mill.grind(LBeetHouse$Yard;)V -/
def g_X4_grind_b144 (N : Nat) (x2 : Int32) (Z : xs_S) : Option (Unit × xs_S) :=
  if (Z 60 0) = 0 then
    if x2 ≤ 0 then
      some ((), Z)
    else
      xs_lt (xs_up Z 14 0 ((Z 14 0) + x2)) fun Z7 =>
      xs_lt (xs_up Z7 13 0 ((Z7 13 0) + 1)) fun Z11 =>
      some ((), Z11)
  else
    some ((), Z)
set_option maxRecDepth 100000 in
theorem q_X4_grind_b144 {w : Nat → Nat → Nat} {nf nl mb z1 n1 : Nat} {σ0 : bh_S} (N : Nat) (x2 : Int32) {lp : Nat → Nat} {np : Nat} {σ : bh_S} {Z : xs_S} (h : cv_R w nf nl mb z1 n1 σ0 lp np σ Z) : sm (cv_Gx w nf nl mb z1 n1 σ0) (f_X4_grind_b144 N (w 5 0) (w 9 0) x2 σ) (g_X4_grind_b144 N x2 Z) := by
  unfold f_X4_grind_b144 g_X4_grind_b144
  refine cv_rdI (d := 60) h cv_z9 rfl rfl ?_
  refine sm_ite (fun h1 => ?_) (fun h1 => ?_)
  · refine sm_ite (fun h2 => ?_) (fun h2 => ?_)
    · exact sm_ret ⟨rfl, _, _, h⟩
    · refine cv_rdI (d := 14) h cv_z5 rfl rfl ?_
      refine cv_wrI (d := 14) h cv_z5 rfl rfl (fun σ7 Z7 h => ?_)
      refine cv_rdI (d := 13) h cv_z5 rfl rfl ?_
      refine cv_wrI (d := 13) h cv_z5 rfl rfl (fun σ11 Z11 h => ?_)
      exact sm_ret ⟨rfl, _, _, h⟩
  · exact sm_ret ⟨rfl, _, _, h⟩
def g_X4_grind_b7 (N : Nat) : Nat → Int32 → Int32 → xs_S → Option (Unit × xs_S)
  | 0, _, _, _ => none
  | n + 1, x2, x3, Z =>
    if (Z 10 0) ≤ x3 then
      g_X4_grind_b144 N x2 Z
    else
      if (if Z 44 0 = 0 then (1 : Int32) else 0) = 0 then
        (xs_gt Z 44 0).bind fun v18 =>
        xs_lt (xs_rf (Z 41 v18)) fun v25 =>
        (v25).bind fun a27 =>
        xs_bnd (g_X6_rootsFor a27 x2 Z) fun v30 Z31 =>
        xs_lt (xs_rf (Z31 41 v18)) fun v33 =>
        (v33).bind fun a35 =>
        xs_bnd (g_X6_unitsFor a35 (bh_min (Z 42 v18) v30) Z31) fun v38 Z39 =>
        xs_lt (xs_up Z39 42 v18 ((Z39 42 v18) - (bh_min (Z 42 v18) v30))) fun Z43 =>
        xs_lt (xs_up Z43 60 0 ((Z43 60 0) - (bh_min (Z 42 v18) v30))) fun Z47 =>
        xs_lt (xs_up Z47 11 0 ((Z47 11 0) + (bh_min (Z 42 v18) v30))) fun Z51 =>
        if (Z51 42 v18) ≤ 0 then
          xs_lt (xs_up Z51 12 0 ((Z51 12 0) + (Z51 43 v18))) fun Z60 =>
          (xs_rm Z60).bind fun Z68 =>
          g_X4_grind_b7 N n (x2 - v38) (x3 + 1) Z68
        else
          g_X4_grind_b144 N (x2 - v38) Z51
      else
        g_X4_grind_b144 N x2 Z
set_option maxRecDepth 100000 in
theorem q_X4_grind_b7 {w : Nat → Nat → Nat} {nf nl mb z1 n1 : Nat} {σ0 : bh_S} (N : Nat) : ∀ (n : Nat) (x2 : Int32) (x3 : Int32) (lp : Nat → Nat) (np : Nat) (σ : bh_S) (Z : xs_S), cv_R w nf nl mb z1 n1 σ0 lp np σ Z → sm (cv_Gx w nf nl mb z1 n1 σ0) (f_X4_grind_b7 N n (w 5 0) (w 9 0) x2 x3 σ) (g_X4_grind_b7 N n x2 x3 Z) := by
  intro n
  induction n with
  | zero => intro x2 x3  lp np σ Z h; exact sm_none
  | succ n ih =>
    intro x2 x3  lp np σ Z h
    unfold f_X4_grind_b7 g_X4_grind_b7
    refine cv_rdI (d := 10) h cv_z5 rfl rfl ?_
    refine sm_ite (fun h1 => ?_) (fun h1 => ?_)
    · exact q_X4_grind_b144 N x2 h
    · refine cv_rdC (t := 0) (j := 2) h cv_z9 rfl ?_
      refine sm_nn ?_
      refine cv_ck0 h (by decide) ?_
      refine cv_empty (d := 44) h (by decide) rfl ?_
      refine sm_ite (fun h2 => ?_) (fun h2 => ?_)
      · refine cv_rdC (t := 0) (j := 2) h cv_z9 rfl ?_
        refine sm_nn ?_
        refine cv_ck0 h (by decide) ?_
        refine cv_get2 h (fun v18 hv18 => ?_)
        refine cv_cst3 h hv18 ?_
        refine sm_nn ?_
        refine cv_rdI3 (d := 42) h hv18 (Or.inl rfl) rfl ?_
        refine cv_rdV3 h hv18 (fun v25 hv25 => ?_)
        refine sm_bv (W := w 7) hv25 (fun a27 ha27 => ?_)
        refine cv_ck h ha27 ?_
        refine sm_call (q_X6_rootsFor a27 x2 ha27 h) ?_
        rintro v30 σ31 _ Z31 ⟨rfl, h⟩
        refine cv_rdV3 h hv18 (fun v33 hv33 => ?_)
        refine sm_bv (W := w 7) hv33 (fun a35 ha35 => ?_)
        refine cv_ck h ha35 ?_
        refine sm_call (q_X6_unitsFor a35 (bh_min (Z 42 v18) v30) ha35 h) ?_
        rintro v38 σ39 _ Z39 ⟨rfl, h⟩
        refine cv_rdI3 (d := 42) h hv18 (Or.inl rfl) rfl ?_
        refine cv_wrI3 (d := 42) h hv18 (Or.inl rfl) rfl (fun σ43 Z43 h => ?_)
        refine cv_rdI (d := 60) h cv_z9 rfl rfl ?_
        refine cv_wrI (d := 60) h cv_z9 rfl rfl (fun σ47 Z47 h => ?_)
        refine cv_rdI (d := 11) h cv_z5 rfl rfl ?_
        refine cv_wrI (d := 11) h cv_z5 rfl rfl (fun σ51 Z51 h => ?_)
        refine cv_rdI3 (d := 42) h hv18 (Or.inl rfl) rfl ?_
        refine sm_ite (fun h3 => ?_) (fun h3 => ?_)
        · refine cv_rdI (d := 12) h cv_z5 rfl rfl ?_
          refine cv_rdI3 (d := 43) h hv18 (Or.inr rfl) rfl ?_
          refine cv_wrI (d := 12) h cv_z5 rfl rfl (fun σ60 Z60 h => ?_)
          refine cv_rdC (t := 0) (j := 2) h cv_z9 rfl ?_
          refine sm_nn ?_
          refine cv_ck0 h (by decide) ?_
          refine cv_rm h (fun v67 lp np σ68 Z68 h => ?_)
          exact ih (x2 - v38) (x3 + 1) _ _ σ68 Z68 h
        · exact q_X4_grind_b144 N (x2 - v38) h
      · exact q_X4_grind_b144 N x2 h
def g_X4_grind (N : Nat)  (Z : xs_S) : Option (Unit × xs_S) :=
  g_X4_grind_b7 N N (Z 10 0) 0 Z
set_option maxRecDepth 100000 in
theorem q_X4_grind {w : Nat → Nat → Nat} {nf nl mb z1 n1 : Nat} {σ0 : bh_S} (N : Nat)  {lp : Nat → Nat} {np : Nat} {σ : bh_S} {Z : xs_S} (h : cv_R w nf nl mb z1 n1 σ0 lp np σ Z) : sm (cv_Gx w nf nl mb z1 n1 σ0) (f_X4_grind N (w 5 0) (w 9 0) σ) (g_X4_grind N  Z) := by
  unfold f_X4_grind g_X4_grind
  refine cv_rdI (d := 10) h cv_z5 rfl rfl ?_
  exact q_X4_grind_b7 N N (Z 10 0) 0 _ _ _ _ h
/-! BeetHouse$Orders.clear(I)V -/
def g_X5_clear (p1 : Int32) (Z : xs_S) : Option (Unit × xs_S) :=
  xs_lt (xs_up Z 67 0 0) fun Z1 =>
  xs_lt (xs_up Z1 68 0 p1) fun Z3 =>
  (xs_st 256 Z3 64 0 p1).bind fun Z9 =>
  some ((), Z9)
set_option maxRecDepth 100000 in
theorem q_X5_clear {w : Nat → Nat → Nat} {nf nl mb z1 n1 : Nat} {σ0 : bh_S} {lp : Nat → Nat} {np : Nat} (p1 : Int32) {σ : bh_S} {Z : xs_S} (h : cv_R w nf nl mb z1 n1 σ0 lp np σ Z) : sm (cv_G w nf nl mb z1 n1 σ0 lp np) (f_X5_clear (w 6 0) p1 σ) (g_X5_clear p1 Z) := by
  unfold f_X5_clear g_X5_clear
  refine cv_wrI (d := 67) h cv_z6 rfl rfl (fun σ1 Z1 h => ?_)
  refine cv_wrI (d := 68) h cv_z6 rfl rfl (fun σ3 Z3 h => ?_)
  refine cv_rdC (t := 12) (j := 5) h cv_z6 rfl ?_
  refine sm_nn ?_
  refine cv_stA h (by decide) rfl rfl (fun σ9 Z9 h => ?_)
  exact sm_ret ⟨rfl, h⟩
/-! BeetHouse$Plot.wasteOf(II)I -/
def g_X6_wasteOf_b47 (i0 : Nat) (x1 : Int32) (x3 : Int32) (Z : xs_S) : Option (Int32 × xs_S) :=
  some (((x1.toInt64 * x3.toInt64) / 1000).toInt32, Z)
set_option maxRecDepth 100000 in
theorem q_X6_wasteOf_b47 {w : Nat → Nat → Nat} {nf nl mb z1 n1 : Nat} {σ0 : bh_S} {lp : Nat → Nat} {np : Nat} (i0 : Nat) (x1 : Int32) (x3 : Int32) (hi0 : i0 < cv_cn nf nl 7) {σ : bh_S} {Z : xs_S} (h : cv_R w nf nl mb z1 n1 σ0 lp np σ Z) : sm (cv_G w nf nl mb z1 n1 σ0 lp np) (f_X6_wasteOf_b47 (w 7 i0) x1 x3 σ) (g_X6_wasteOf_b47 i0 x1 x3 Z) := by
  unfold f_X6_wasteOf_b47 g_X6_wasteOf_b47
  exact sm_ret ⟨rfl, h⟩
def g_X6_wasteOf (i0 : Nat) (p1 : Int32) (p2 : Int32) (Z : xs_S) : Option (Int32 × xs_S) :=
  if (Z 30 i0) = 0 then
    if (Z 24 i0) = (-9) then
      if (Z 29 i0) = 0 then
        g_X6_wasteOf_b47 i0 p1 p2 Z
      else
        g_X6_wasteOf_b47 i0 p1 (p2 / 2) Z
    else
      g_X6_wasteOf_b47 i0 p1 (bh_min (3 * p2) 1000) Z
  else
    g_X6_wasteOf_b47 i0 p1 0 Z
set_option maxRecDepth 100000 in
theorem q_X6_wasteOf {w : Nat → Nat → Nat} {nf nl mb z1 n1 : Nat} {σ0 : bh_S} {lp : Nat → Nat} {np : Nat} (i0 : Nat) (p1 : Int32) (p2 : Int32) (hi0 : i0 < cv_cn nf nl 7) {σ : bh_S} {Z : xs_S} (h : cv_R w nf nl mb z1 n1 σ0 lp np σ Z) : sm (cv_G w nf nl mb z1 n1 σ0 lp np) (f_X6_wasteOf (w 7 i0) p1 p2 σ) (g_X6_wasteOf i0 p1 p2 Z) := by
  unfold f_X6_wasteOf g_X6_wasteOf
  refine cv_rdI (d := 30) h hi0 rfl rfl ?_
  refine sm_ite (fun h1 => ?_) (fun h1 => ?_)
  · refine cv_rdI (d := 24) h hi0 rfl rfl ?_
    refine sm_ite (fun h2 => ?_) (fun h2 => ?_)
    · refine cv_rdI (d := 29) h hi0 rfl rfl ?_
      refine sm_ite (fun h3 => ?_) (fun h3 => ?_)
      · exact q_X6_wasteOf_b47 i0 p1 p2 hi0 h
      · exact q_X6_wasteOf_b47 i0 p1 (p2 / 2) hi0 h
    · exact q_X6_wasteOf_b47 i0 p1 (bh_min (3 * p2) 1000) hi0 h
  · exact q_X6_wasteOf_b47 i0 p1 0 hi0 h
/-! BeetHouse$Weather.numberOf(I)I -/
def g_X7_numberOf (p1 : Int32) (Z : xs_S) : Option (Int32 × xs_S) :=
  if p1 < 0 then
    some (0, Z)
  else
    if p1 < 100 then
      (xs_ld 100 Z 3 p1).bind fun v7 =>
      if v7 < 0 then
        some (0, Z)
      else
        if 10 ≤ v7 then
          some (0, Z)
        else
          (xs_ld 10 Z 4 v7).bind fun v15 =>
          some (v15, Z)
    else
      some (0, Z)
set_option maxRecDepth 100000 in
theorem q_X7_numberOf {w : Nat → Nat → Nat} {nf nl mb z1 n1 : Nat} {σ0 : bh_S} {lp : Nat → Nat} {np : Nat} (p1 : Int32) {σ : bh_S} {Z : xs_S} (h : cv_R w nf nl mb z1 n1 σ0 lp np σ Z) : sm (cv_G w nf nl mb z1 n1 σ0 lp np) (f_X7_numberOf (w 8 0) p1 σ) (g_X7_numberOf p1 Z) := by
  unfold f_X7_numberOf g_X7_numberOf
  refine sm_ite (fun h1 => ?_) (fun h1 => ?_)
  · exact sm_ret ⟨rfl, h⟩
  · refine sm_ite (fun h2 => ?_) (fun h2 => ?_)
    · refine cv_rdC (t := 12) (j := 2) h cv_z8 rfl ?_
      refine sm_nn ?_
      refine cv_ldA h (by decide) rfl rfl (fun v7 => ?_)
      refine sm_ite (fun h3 => ?_) (fun h3 => ?_)
      · exact sm_ret ⟨rfl, h⟩
      · refine sm_ite (fun h4 => ?_) (fun h4 => ?_)
        · exact sm_ret ⟨rfl, h⟩
        · refine cv_rdC (t := 12) (j := 3) h cv_z8 rfl ?_
          refine sm_nn ?_
          refine cv_ldA h (by decide) rfl rfl (fun v15 => ?_)
          exact sm_ret ⟨rfl, h⟩
    · exact sm_ret ⟨rfl, h⟩
/-! BeetHouse$Orders.foresee([ILBeetHouse$Plot;LBeetHouse$Weather;)V -/
def g_X5_foresee_b19 (N : Nat) : Nat → Nat → Nat → Int32 → Int32 → Int32 → xs_S → Option (Unit × xs_S)
  | 0, _, _, _, _, _, _ => none
  | n + 1, x1, x2, x4, x5, x6, Z =>
    if 100 < (x4 + x6) then
      some ((), Z)
    else
      if (Int32.ofNat (cv_al x1)) ≤ x6 then
        some ((), Z)
      else
        xs_bnd (g_X7_numberOf ((x4 + x6) - 1) Z) fun v8 Z9 =>
        xs_bnd (g_X6_wasteOf x2 ((Z 23 x2) - x5) v8 Z9) fun v12 Z13 =>
        (xs_st (cv_al x1) Z13 (cv_ac x1) x6 (x5 + v12)).bind fun Z15 =>
        g_X5_foresee_b19 N n x1 x2 x4 (x5 + v12) (x6 + 1) Z15
set_option maxRecDepth 100000 in
theorem q_X5_foresee_b19 {w : Nat → Nat → Nat} {nf nl mb z1 n1 : Nat} {σ0 : bh_S} {lp : Nat → Nat} {np : Nat} (N : Nat) : ∀ (n : Nat) (x1 : Nat) (x2 : Nat) (x4 : Int32) (x5 : Int32) (x6 : Int32) (hx1 : x1 < 16) (hx2 : x2 < cv_cn nf nl 7) (σ : bh_S) (Z : xs_S), cv_R w nf nl mb z1 n1 σ0 lp np σ Z → sm (cv_G w nf nl mb z1 n1 σ0 lp np) (f_X5_foresee_b19 N n (w 6 0) (w 12 x1) (w 7 x2) (w 8 0) x4 x5 x6 σ) (g_X5_foresee_b19 N n x1 x2 x4 x5 x6 Z) := by
  intro n
  induction n with
  | zero => intro x1 x2 x4 x5 x6 hx1 hx2 σ Z h; exact sm_none
  | succ n ih =>
    intro x1 x2 x4 x5 x6 hx1 hx2 σ Z h
    unfold f_X5_foresee_b19 g_X5_foresee_b19
    refine sm_ite (fun h1 => ?_) (fun h1 => ?_)
    · exact sm_ret ⟨rfl, h⟩
    · refine cv_len h hx1 ?_
      refine sm_ite (fun h2 => ?_) (fun h2 => ?_)
      · exact sm_ret ⟨rfl, h⟩
      · refine cv_rdI (d := 23) h hx2 rfl rfl ?_
        refine cv_ck h cv_z8 ?_
        refine sm_call (q_X7_numberOf ((x4 + x6) - 1) h) ?_
        rintro v8 σ9 _ Z9 ⟨rfl, h⟩
        refine cv_ck h hx2 ?_
        refine sm_call (q_X6_wasteOf x2 ((Z 23 x2) - x5) v8 hx2 h) ?_
        rintro v12 σ13 _ Z13 ⟨rfl, h⟩
        refine cv_stA h hx1 rfl rfl (fun σ15 Z15 h => ?_)
        exact ih x1 x2 x4 (x5 + v12) (x6 + 1) hx1 hx2 σ15 Z15 h
def g_X5_foresee (N : Nat) (p1 : Nat) (p2 : Nat) (Z : xs_S) : Option (Unit × xs_S) :=
  (xs_st (cv_al p1) Z (cv_ac p1) 0 0).bind fun Z3 =>
  g_X5_foresee_b19 N N p1 p2 ((Z 68 0) / 24) 0 1 Z3
set_option maxRecDepth 100000 in
theorem q_X5_foresee {w : Nat → Nat → Nat} {nf nl mb z1 n1 : Nat} {σ0 : bh_S} {lp : Nat → Nat} {np : Nat} (N : Nat) (p1 : Nat) (p2 : Nat) (hp1 : p1 < 16) (hp2 : p2 < cv_cn nf nl 7) {σ : bh_S} {Z : xs_S} (h : cv_R w nf nl mb z1 n1 σ0 lp np σ Z) : sm (cv_G w nf nl mb z1 n1 σ0 lp np) (f_X5_foresee N (w 6 0) (w 12 p1) (w 7 p2) (w 8 0) σ) (g_X5_foresee N p1 p2 Z) := by
  unfold f_X5_foresee g_X5_foresee
  refine cv_rdI (d := 68) h cv_z6 rfl rfl ?_
  refine cv_stA h hp1 rfl rfl (fun σ3 Z3 h => ?_)
  exact q_X5_foresee_b19 N N p1 p2 ((Z 68 0) / 24) 0 1 hp1 hp2 _ _ h
/-! BeetHouse$Orders.add(LBeetHouse$Plot;ILBeetHouse$Weather;)Z -/
def g_X5_add_b71 (N : Nat) : Nat → Int32 → Int32 → Int32 → xs_S → Option (Int32 × xs_S)
  | 0, _, _, _, _ => none
  | n + 1, x4, x5, x6, Z =>
    if x5 ≤ x6 then
      xs_lt (xs_up Z 67 0 ((Z 67 0) + 1)) fun Z4 =>
      xs_retZ Z4 1
    else
      (xs_ld 256 Z 64 x6).bind fun v12 =>
      (xs_st 256 Z 64 (x6 + x5) (v12 + x4)).bind fun Z16 =>
      g_X5_add_b71 N n x4 x5 (x6 + 1) Z16
set_option maxRecDepth 100000 in
theorem q_X5_add_b71 {w : Nat → Nat → Nat} {nf nl mb z1 n1 : Nat} {σ0 : bh_S} {lp : Nat → Nat} {np : Nat} (N : Nat) : ∀ (n : Nat) (x4 : Int32) (x5 : Int32) (x6 : Int32) (σ : bh_S) (Z : xs_S), cv_R w nf nl mb z1 n1 σ0 lp np σ Z → sm (cv_G w nf nl mb z1 n1 σ0 lp np) (f_X5_add_b71 N n (w 6 0) x4 x5 x6 σ) (g_X5_add_b71 N n x4 x5 x6 Z) := by
  intro n
  induction n with
  | zero => intro x4 x5 x6  σ Z h; exact sm_none
  | succ n ih =>
    intro x4 x5 x6  σ Z h
    unfold f_X5_add_b71 g_X5_add_b71
    refine sm_ite (fun h1 => ?_) (fun h1 => ?_)
    · refine cv_rdI (d := 67) h cv_z6 rfl rfl ?_
      refine cv_wrI (d := 67) h cv_z6 rfl rfl (fun σ4 Z4 h => ?_)
      exact sm_retZ ⟨rfl, h⟩
    · refine cv_rdC (t := 12) (j := 5) h cv_z6 rfl ?_
      refine cv_rdC (t := 12) (j := 5) h cv_z6 rfl ?_
      refine sm_nn ?_
      refine cv_ldA h (by decide) rfl rfl (fun v12 => ?_)
      refine sm_nn ?_
      refine cv_stA h (by decide) rfl rfl (fun σ16 Z16 h => ?_)
      exact ih x4 x5 (x6 + 1) σ16 Z16 h
def g_X5_add (N : Nat) (p1 : Nat) (p2 : Int32) (Z : xs_S) : Option (Int32 × xs_S) :=
  if 8 ≤ (Z 67 0) then
    xs_retZ Z 0
  else
    if 1 ≤ p2 then
      (xs_st 8 Z 63 (Z 67 0) (Z 101 p1)).bind fun Z13 =>
      (xs_ix 8 (Z13 67 0)).bind fun v21 =>
      xs_bnd (g_X5_foresee N (v21 + 8) p1 Z13) fun v26 Z27 =>
      xs_bnd (g_X6_unitsFor p1 (Z27 22 p1) Z27) fun v32 Z33 =>
      (bh_nz p2).bind fun _ =>
      g_X5_add_b71 N N (((v32 + p2) - 1) / p2) (1 <<< ((Z33 67 0) &&& 31)) 0 Z33
    else
      xs_retZ Z 0
set_option maxRecDepth 100000 in
theorem q_X5_add {w : Nat → Nat → Nat} {nf nl mb z1 n1 : Nat} {σ0 : bh_S} {lp : Nat → Nat} {np : Nat} (N : Nat) (p1 : Nat) (p2 : Int32) (hp1 : p1 < cv_cn nf nl 7) {σ : bh_S} {Z : xs_S} (h : cv_R w nf nl mb z1 n1 σ0 lp np σ Z) : sm (cv_G w nf nl mb z1 n1 σ0 lp np) (f_X5_add N (w 6 0) (w 7 p1) p2 (w 8 0) σ) (g_X5_add N p1 p2 Z) := by
  unfold f_X5_add g_X5_add
  refine cv_rdI (d := 67) h cv_z6 rfl rfl ?_
  refine sm_ite (fun h1 => ?_) (fun h1 => ?_)
  · exact sm_retZ ⟨rfl, h⟩
  · refine sm_ite (fun h2 => ?_) (fun h2 => ?_)
    · refine cv_rdC (t := 12) (j := 4) h cv_z6 rfl ?_
      refine cv_rdI (d := 67) h cv_z6 rfl rfl ?_
      refine cv_rdI (d := 101) h hp1 rfl rfl ?_
      refine sm_nn ?_
      refine cv_stA h (by decide) rfl rfl (fun σ13 Z13 h => ?_)
      refine cv_rdC (t := 17) (j := 0) h cv_z6 rfl ?_
      refine cv_rdI (d := 67) h cv_z6 rfl rfl ?_
      refine sm_nn ?_
      refine cv_ldW h (fun v21 hv21 => ?_)
      refine sm_nn ?_
      refine cv_ck h cv_z6 ?_
      refine sm_call (q_X5_foresee N (v21 + 8) p1 hv21 hp1 h) ?_
      rintro v26 σ27 _ Z27 ⟨rfl, h⟩
      refine cv_rdI (d := 22) h hp1 rfl rfl ?_
      refine cv_ck h hp1 ?_
      refine sm_call (q_X6_unitsFor p1 (Z27 22 p1) hp1 h) ?_
      rintro v32 σ33 _ Z33 ⟨rfl, h⟩
      refine sm_op (fun _ h9 => ?_)
      refine cv_rdI (d := 67) h cv_z6 rfl rfl ?_
      exact q_X5_add_b71 N N (((v32 + p2) - 1) / p2) (1 <<< ((Z33 67 0) &&& 31)) 0 _ _ h
    · exact sm_retZ ⟨rfl, h⟩
/-! BeetHouse$Orders.wasteOfWaiting(II)I -/
def g_X5_wasteOfWaiting (p1 : Int32) (p2 : Int32) (Z : xs_S) : Option (Int32 × xs_S) :=
  (xs_ld 256 Z 64 p2).bind fun v5 =>
  (xs_ix 8 p1).bind fun v13 =>
  if (((bh_min v5 2400) / 24) - ((Z 68 0) / 24)) < 0 then
    some (0, Z)
  else
    if (Int32.ofNat (cv_al (v13 + 8))) ≤ (((bh_min v5 2400) / 24) - ((Z 68 0) / 24)) then
      some (0, Z)
    else
      (xs_ld 101 Z (70 + v13) (((bh_min v5 2400) / 24) - ((Z 68 0) / 24))).bind fun v21 =>
      some (v21, Z)
set_option maxRecDepth 100000 in
theorem q_X5_wasteOfWaiting {w : Nat → Nat → Nat} {nf nl mb z1 n1 : Nat} {σ0 : bh_S} {lp : Nat → Nat} {np : Nat} (p1 : Int32) (p2 : Int32) {σ : bh_S} {Z : xs_S} (h : cv_R w nf nl mb z1 n1 σ0 lp np σ Z) : sm (cv_G w nf nl mb z1 n1 σ0 lp np) (f_X5_wasteOfWaiting (w 6 0) p1 p2 σ) (g_X5_wasteOfWaiting p1 p2 Z) := by
  unfold f_X5_wasteOfWaiting g_X5_wasteOfWaiting
  refine cv_rdC (t := 12) (j := 5) h cv_z6 rfl ?_
  refine sm_nn ?_
  refine cv_ldA h (by decide) rfl rfl (fun v5 => ?_)
  refine cv_rdI (d := 68) h cv_z6 rfl rfl ?_
  refine cv_rdC (t := 17) (j := 0) h cv_z6 rfl ?_
  refine sm_nn ?_
  refine cv_ldW h (fun v13 hv13 => ?_)
  refine sm_ite (fun h1 => ?_) (fun h1 => ?_)
  · exact sm_ret ⟨rfl, h⟩
  · refine sm_nn ?_
    refine cv_len h hv13 ?_
    refine sm_ite (fun h2 => ?_) (fun h2 => ?_)
    · exact sm_ret ⟨rfl, h⟩
    · refine cv_ldA h hv13 rfl rfl (fun v21 => ?_)
      exact sm_ret ⟨rfl, h⟩
/-! BeetHouse$Orders.choose(I)V -/
def g_X5_choose_b64 (N : Nat) (k8 : Int32 → Int32 → Int32 → Int32 → xs_S → Option (Unit × xs_S)) (x1 : Int32) (x2 : Int32) (x3 : Int32) (x4 : Int32) (Z : xs_S) : Option (Unit × xs_S) :=
  k8 x1 x2 x3 (x4 + 1) Z
set_option maxRecDepth 100000 in
theorem q_X5_choose_b64 {w : Nat → Nat → Nat} {nf nl mb z1 n1 : Nat} {σ0 : bh_S} {lp : Nat → Nat} {np : Nat} (N : Nat) (k8 : Nat → Int32 → Int32 → Int32 → Int32 → bh_S → Option (Unit × bh_S)) (K8 : Int32 → Int32 → Int32 → Int32 → xs_S → Option (Unit × xs_S)) (hk8 : ∀ (x1 : Int32) (x2 : Int32) (x3 : Int32) (x4 : Int32) (σ : bh_S) (Z : xs_S), cv_R w nf nl mb z1 n1 σ0 lp np σ Z → sm (cv_G w nf nl mb z1 n1 σ0 lp np) (k8 (w 6 0) x1 x2 x3 x4 σ) (K8 x1 x2 x3 x4 Z)) (x1 : Int32) (x2 : Int32) (x3 : Int32) (x4 : Int32) {σ : bh_S} {Z : xs_S} (h : cv_R w nf nl mb z1 n1 σ0 lp np σ Z) : sm (cv_G w nf nl mb z1 n1 σ0 lp np) (f_X5_choose_b64 N k8 (w 6 0) x1 x2 x3 x4 σ) (g_X5_choose_b64 N K8 x1 x2 x3 x4 Z) := by
  unfold f_X5_choose_b64 g_X5_choose_b64
  exact hk8 x1 x2 x3 (x4 + 1) σ Z h
def g_X5_choose_b8 (N : Nat) : Nat → Int32 → Int32 → Int32 → Int32 → xs_S → Option (Unit × xs_S)
  | 0, _, _, _, _, _ => none
  | n + 1, x1, x2, x3, x4, Z =>
    if (Z 67 0) ≤ x4 then
      (xs_st 256 Z 66 x1 x2).bind fun Z8 =>
      (xs_st 256 Z8 65 x1 x3).bind fun Z14 =>
      some ((), Z14)
    else
      if (x1 &&& (1 <<< (x4 &&& 31))) = 0 then
        xs_bnd (g_X5_wasteOfWaiting x4 x1 Z) fun v18 Z19 =>
        (xs_ld 256 Z19 65 (x1 + (1 <<< (x4 &&& 31)))).bind fun v25 =>
        if x3 ≤ (v18 + v25) then
          g_X5_choose_b64 N (g_X5_choose_b8 N n) x1 x2 x3 x4 Z19
        else
          g_X5_choose_b64 N (g_X5_choose_b8 N n) x1 x4 (v18 + v25) x4 Z19
      else
        g_X5_choose_b64 N (g_X5_choose_b8 N n) x1 x2 x3 x4 Z
set_option maxRecDepth 100000 in
theorem q_X5_choose_b8 {w : Nat → Nat → Nat} {nf nl mb z1 n1 : Nat} {σ0 : bh_S} {lp : Nat → Nat} {np : Nat} (N : Nat) : ∀ (n : Nat) (x1 : Int32) (x2 : Int32) (x3 : Int32) (x4 : Int32) (σ : bh_S) (Z : xs_S), cv_R w nf nl mb z1 n1 σ0 lp np σ Z → sm (cv_G w nf nl mb z1 n1 σ0 lp np) (f_X5_choose_b8 N n (w 6 0) x1 x2 x3 x4 σ) (g_X5_choose_b8 N n x1 x2 x3 x4 Z) := by
  intro n
  induction n with
  | zero => intro x1 x2 x3 x4  σ Z h; exact sm_none
  | succ n ih =>
    intro x1 x2 x3 x4  σ Z h
    unfold f_X5_choose_b8 g_X5_choose_b8
    refine cv_rdI (d := 67) h cv_z6 rfl rfl ?_
    refine sm_ite (fun h1 => ?_) (fun h1 => ?_)
    · refine cv_rdC (t := 12) (j := 7) h cv_z6 rfl ?_
      refine sm_nn ?_
      refine cv_stA h (by decide) rfl rfl (fun σ8 Z8 h => ?_)
      refine cv_rdC (t := 12) (j := 6) h cv_z6 rfl ?_
      refine sm_nn ?_
      refine cv_stA h (by decide) rfl rfl (fun σ14 Z14 h => ?_)
      exact sm_ret ⟨rfl, h⟩
    · refine sm_ite (fun h2 => ?_) (fun h2 => ?_)
      · refine cv_ck h cv_z6 ?_
        refine sm_call (q_X5_wasteOfWaiting x4 x1 h) ?_
        rintro v18 σ19 _ Z19 ⟨rfl, h⟩
        refine cv_rdC (t := 12) (j := 6) h cv_z6 rfl ?_
        refine sm_nn ?_
        refine cv_ldA h (by decide) rfl rfl (fun v25 => ?_)
        refine sm_ite (fun h3 => ?_) (fun h3 => ?_)
        · exact q_X5_choose_b64 N _ (g_X5_choose_b8 N n) ih x1 x2 x3 x4 h
        · exact q_X5_choose_b64 N _ (g_X5_choose_b8 N n) ih x1 x4 (v18 + v25) x4 h
      · exact q_X5_choose_b64 N _ (g_X5_choose_b8 N n) ih x1 x2 x3 x4 h
def g_X5_choose (N : Nat) (p1 : Int32) (Z : xs_S) : Option (Unit × xs_S) :=
  g_X5_choose_b8 N N p1 0 2147483647 0 Z
set_option maxRecDepth 100000 in
theorem q_X5_choose {w : Nat → Nat → Nat} {nf nl mb z1 n1 : Nat} {σ0 : bh_S} {lp : Nat → Nat} {np : Nat} (N : Nat) (p1 : Int32) {σ : bh_S} {Z : xs_S} (h : cv_R w nf nl mb z1 n1 σ0 lp np σ Z) : sm (cv_G w nf nl mb z1 n1 σ0 lp np) (f_X5_choose N (w 6 0) p1 σ) (g_X5_choose N p1 Z) := by
  unfold f_X5_choose g_X5_choose
  exact q_X5_choose_b8 N N p1 0 2147483647 0 _ _ h
/-! BeetHouse$Orders.search()V -/
def g_X5_search_b20 (N : Nat) : Nat → Int32 → xs_S → Option (Unit × xs_S)
  | 0, _, _ => none
  | n + 1, x2, Z =>
    if x2 < 0 then
      some ((), Z)
    else
      xs_bnd (g_X5_choose N x2 Z) fun v3 Z4 =>
      g_X5_search_b20 N n (x2 + (-1)) Z4
set_option maxRecDepth 100000 in
theorem q_X5_search_b20 {w : Nat → Nat → Nat} {nf nl mb z1 n1 : Nat} {σ0 : bh_S} {lp : Nat → Nat} {np : Nat} (N : Nat) : ∀ (n : Nat) (x2 : Int32) (σ : bh_S) (Z : xs_S), cv_R w nf nl mb z1 n1 σ0 lp np σ Z → sm (cv_G w nf nl mb z1 n1 σ0 lp np) (f_X5_search_b20 N n (w 6 0) x2 σ) (g_X5_search_b20 N n x2 Z) := by
  intro n
  induction n with
  | zero => intro x2  σ Z h; exact sm_none
  | succ n ih =>
    intro x2  σ Z h
    unfold f_X5_search_b20 g_X5_search_b20
    refine sm_ite (fun h1 => ?_) (fun h1 => ?_)
    · exact sm_ret ⟨rfl, h⟩
    · refine cv_ck h cv_z6 ?_
      refine sm_call (q_X5_choose N x2 h) ?_
      rintro v3 σ4 _ Z4 ⟨rfl, h⟩
      exact ih (x2 + (-1)) σ4 Z4 h
def g_X5_search (N : Nat)  (Z : xs_S) : Option (Unit × xs_S) :=
  (xs_st 256 Z 65 ((1 <<< ((Z 67 0) &&& 31)) - 1) 0).bind fun Z7 =>
  g_X5_search_b20 N N (((1 <<< ((Z 67 0) &&& 31)) - 1) - 1) Z7
set_option maxRecDepth 100000 in
theorem q_X5_search {w : Nat → Nat → Nat} {nf nl mb z1 n1 : Nat} {σ0 : bh_S} {lp : Nat → Nat} {np : Nat} (N : Nat)  {σ : bh_S} {Z : xs_S} (h : cv_R w nf nl mb z1 n1 σ0 lp np σ Z) : sm (cv_G w nf nl mb z1 n1 σ0 lp np) (f_X5_search N (w 6 0) σ) (g_X5_search N  Z) := by
  unfold f_X5_search g_X5_search
  refine cv_rdI (d := 67) h cv_z6 rfl rfl ?_
  refine cv_rdC (t := 12) (j := 6) h cv_z6 rfl ?_
  refine sm_nn ?_
  refine cv_stA h (by decide) rfl rfl (fun σ7 Z7 h => ?_)
  exact q_X5_search_b20 N N (((1 <<< ((Z 67 0) &&& 31)) - 1) - 1) _ _ h
/-! BeetHouse$Orders.leastWaste()I -/
def g_X5_leastWaste  (Z : xs_S) : Option (Int32 × xs_S) :=
  (xs_ld 256 Z 65 0).bind fun v5 =>
  some (v5, Z)
set_option maxRecDepth 100000 in
theorem q_X5_leastWaste {w : Nat → Nat → Nat} {nf nl mb z1 n1 : Nat} {σ0 : bh_S} {lp : Nat → Nat} {np : Nat}  {σ : bh_S} {Z : xs_S} (h : cv_R w nf nl mb z1 n1 σ0 lp np σ Z) : sm (cv_G w nf nl mb z1 n1 σ0 lp np) (f_X5_leastWaste (w 6 0) σ) (g_X5_leastWaste  Z) := by
  unfold f_X5_leastWaste g_X5_leastWaste
  refine cv_rdC (t := 12) (j := 6) h cv_z6 rfl ?_
  refine sm_nn ?_
  refine cv_ldA h (by decide) rfl rfl (fun v5 => ?_)
  exact sm_ret ⟨rfl, h⟩
/-! BeetHouse$Orders.plotAtPlace(I)I -/
def g_X5_plotAtPlace_b60 (N : Nat) (k27 : Int32 → Int32 → Int32 → Int32 → xs_S → Option (Int32 × xs_S)) (x1 : Int32) (x2 : Int32) (x4 : Int32) (t0 : Int32) (Z : xs_S) : Option (Int32 × xs_S) :=
  k27 x1 x2 t0 (x4 + 1) Z
set_option maxRecDepth 100000 in
theorem q_X5_plotAtPlace_b60 {w : Nat → Nat → Nat} {nf nl mb z1 n1 : Nat} {σ0 : bh_S} {lp : Nat → Nat} {np : Nat} (N : Nat) (k27 : Nat → Int32 → Int32 → Int32 → Int32 → bh_S → Option (Int32 × bh_S)) (K27 : Int32 → Int32 → Int32 → Int32 → xs_S → Option (Int32 × xs_S)) (hk27 : ∀ (x1 : Int32) (x2 : Int32) (x3 : Int32) (x4 : Int32) (σ : bh_S) (Z : xs_S), cv_R w nf nl mb z1 n1 σ0 lp np σ Z → sm (cv_G w nf nl mb z1 n1 σ0 lp np) (k27 (w 6 0) x1 x2 x3 x4 σ) (K27 x1 x2 x3 x4 Z)) (x1 : Int32) (x2 : Int32) (x4 : Int32) (t0 : Int32) {σ : bh_S} {Z : xs_S} (h : cv_R w nf nl mb z1 n1 σ0 lp np σ Z) : sm (cv_G w nf nl mb z1 n1 σ0 lp np) (f_X5_plotAtPlace_b60 N k27 (w 6 0) x1 x2 x4 t0 σ) (g_X5_plotAtPlace_b60 N K27 x1 x2 x4 t0 Z) := by
  unfold f_X5_plotAtPlace_b60 g_X5_plotAtPlace_b60
  exact hk27 x1 x2 t0 (x4 + 1) σ Z h
def g_X5_plotAtPlace_b59 (N : Nat) (k27 : Int32 → Int32 → Int32 → Int32 → xs_S → Option (Int32 × xs_S)) (x1 : Int32) (x2 : Int32) (x4 : Int32) (Z : xs_S) : Option (Int32 × xs_S) :=
  g_X5_plotAtPlace_b60 N k27 x1 x2 x4 0 Z
set_option maxRecDepth 100000 in
theorem q_X5_plotAtPlace_b59 {w : Nat → Nat → Nat} {nf nl mb z1 n1 : Nat} {σ0 : bh_S} {lp : Nat → Nat} {np : Nat} (N : Nat) (k27 : Nat → Int32 → Int32 → Int32 → Int32 → bh_S → Option (Int32 × bh_S)) (K27 : Int32 → Int32 → Int32 → Int32 → xs_S → Option (Int32 × xs_S)) (hk27 : ∀ (x1 : Int32) (x2 : Int32) (x3 : Int32) (x4 : Int32) (σ : bh_S) (Z : xs_S), cv_R w nf nl mb z1 n1 σ0 lp np σ Z → sm (cv_G w nf nl mb z1 n1 σ0 lp np) (k27 (w 6 0) x1 x2 x3 x4 σ) (K27 x1 x2 x3 x4 Z)) (x1 : Int32) (x2 : Int32) (x4 : Int32) {σ : bh_S} {Z : xs_S} (h : cv_R w nf nl mb z1 n1 σ0 lp np σ Z) : sm (cv_G w nf nl mb z1 n1 σ0 lp np) (f_X5_plotAtPlace_b59 N k27 (w 6 0) x1 x2 x4 σ) (g_X5_plotAtPlace_b59 N K27 x1 x2 x4 Z) := by
  unfold f_X5_plotAtPlace_b59 g_X5_plotAtPlace_b59
  exact q_X5_plotAtPlace_b60 N k27 K27 hk27 x1 x2 x4 0 h
def g_X5_plotAtPlace_b27 (N : Nat) : Nat → Int32 → Int32 → Int32 → Int32 → xs_S → Option (Int32 × xs_S)
  | 0, _, _, _, _, _ => none
  | n + 1, x1, x2, x3, x4, Z =>
    if x1 ≤ x4 then
      if x3 < 0 then
        some ((-9), Z)
      else
        if (Z 67 0) ≤ x3 then
          some ((-9), Z)
        else
          (xs_ld 8 Z 63 x3).bind fun v10 =>
          some (v10, Z)
    else
      if (x2 ||| (1 <<< (x3 &&& 31))) < 0 then
        g_X5_plotAtPlace_b59 N (g_X5_plotAtPlace_b27 N n) x1 (x2 ||| (1 <<< (x3 &&& 31))) x4 Z
      else
        if (256 : Int32) ≤ (x2 ||| (1 <<< (x3 &&& 31))) then
          g_X5_plotAtPlace_b59 N (g_X5_plotAtPlace_b27 N n) x1 (x2 ||| (1 <<< (x3 &&& 31))) x4 Z
        else
          (xs_ld 256 Z 66 (x2 ||| (1 <<< (x3 &&& 31)))).bind fun v18 =>
          g_X5_plotAtPlace_b60 N (g_X5_plotAtPlace_b27 N n) x1 (x2 ||| (1 <<< (x3 &&& 31))) x4 v18 Z
set_option maxRecDepth 100000 in
theorem q_X5_plotAtPlace_b27 {w : Nat → Nat → Nat} {nf nl mb z1 n1 : Nat} {σ0 : bh_S} {lp : Nat → Nat} {np : Nat} (N : Nat) : ∀ (n : Nat) (x1 : Int32) (x2 : Int32) (x3 : Int32) (x4 : Int32) (σ : bh_S) (Z : xs_S), cv_R w nf nl mb z1 n1 σ0 lp np σ Z → sm (cv_G w nf nl mb z1 n1 σ0 lp np) (f_X5_plotAtPlace_b27 N n (w 6 0) x1 x2 x3 x4 σ) (g_X5_plotAtPlace_b27 N n x1 x2 x3 x4 Z) := by
  intro n
  induction n with
  | zero => intro x1 x2 x3 x4  σ Z h; exact sm_none
  | succ n ih =>
    intro x1 x2 x3 x4  σ Z h
    unfold f_X5_plotAtPlace_b27 g_X5_plotAtPlace_b27
    refine sm_ite (fun h1 => ?_) (fun h1 => ?_)
    · refine sm_ite (fun h2 => ?_) (fun h2 => ?_)
      · exact sm_ret ⟨rfl, h⟩
      · refine cv_rdI (d := 67) h cv_z6 rfl rfl ?_
        refine sm_ite (fun h3 => ?_) (fun h3 => ?_)
        · exact sm_ret ⟨rfl, h⟩
        · refine cv_rdC (t := 12) (j := 4) h cv_z6 rfl ?_
          refine sm_nn ?_
          refine cv_ldA h (by decide) rfl rfl (fun v10 => ?_)
          exact sm_ret ⟨rfl, h⟩
    · refine sm_ite (fun h4 => ?_) (fun h4 => ?_)
      · exact q_X5_plotAtPlace_b59 N _ (g_X5_plotAtPlace_b27 N n) ih x1 (x2 ||| (1 <<< (x3 &&& 31))) x4 h
      · refine sm_ite (fun h5 => ?_) (fun h5 => ?_)
        · exact q_X5_plotAtPlace_b59 N _ (g_X5_plotAtPlace_b27 N n) ih x1 (x2 ||| (1 <<< (x3 &&& 31))) x4 h
        · refine cv_rdC (t := 12) (j := 7) h cv_z6 rfl ?_
          refine sm_nn ?_
          refine cv_ldA h (by decide) rfl rfl (fun v18 => ?_)
          exact q_X5_plotAtPlace_b60 N _ (g_X5_plotAtPlace_b27 N n) ih x1 (x2 ||| (1 <<< (x3 &&& 31))) x4 v18 h
def g_X5_plotAtPlace (N : Nat) (p1 : Int32) (Z : xs_S) : Option (Int32 × xs_S) :=
  if p1 < 0 then
    some ((-9), Z)
  else
    if p1 < (Z 67 0) then
      (xs_ld 256 Z 66 0).bind fun v9 =>
      g_X5_plotAtPlace_b27 N N p1 0 v9 0 Z
    else
      some ((-9), Z)
set_option maxRecDepth 100000 in
theorem q_X5_plotAtPlace {w : Nat → Nat → Nat} {nf nl mb z1 n1 : Nat} {σ0 : bh_S} {lp : Nat → Nat} {np : Nat} (N : Nat) (p1 : Int32) {σ : bh_S} {Z : xs_S} (h : cv_R w nf nl mb z1 n1 σ0 lp np σ Z) : sm (cv_G w nf nl mb z1 n1 σ0 lp np) (f_X5_plotAtPlace N (w 6 0) p1 σ) (g_X5_plotAtPlace N p1 Z) := by
  unfold f_X5_plotAtPlace g_X5_plotAtPlace
  refine sm_ite (fun h1 => ?_) (fun h1 => ?_)
  · exact sm_ret ⟨rfl, h⟩
  · refine cv_rdI (d := 67) h cv_z6 rfl rfl ?_
    refine sm_ite (fun h2 => ?_) (fun h2 => ?_)
    · refine cv_rdC (t := 12) (j := 7) h cv_z6 rfl ?_
      refine sm_nn ?_
      refine cv_ldA h (by decide) rfl rfl (fun v9 => ?_)
      exact q_X5_plotAtPlace_b27 N N p1 0 v9 0 _ _ h
    · exact sm_ret ⟨rfl, h⟩
/-! BeetHouse$Plot.lift(I)V -/
def g_X6_lift (i0 : Nat) (p1 : Int32) (Z : xs_S) : Option (Unit × xs_S) :=
  xs_lt (xs_up Z 19 i0 ((Z 19 i0) - (bh_min p1 (Z 19 i0)))) fun Z5 =>
  xs_lt (xs_up Z5 22 i0 ((Z5 22 i0) + (bh_min p1 (Z 19 i0)))) fun Z9 =>
  xs_lt (xs_up Z9 23 i0 ((Z9 23 i0) + ((bh_min p1 (Z 19 i0)) * (Z9 20 i0)))) fun Z15 =>
  some ((), Z15)
set_option maxRecDepth 100000 in
theorem q_X6_lift {w : Nat → Nat → Nat} {nf nl mb z1 n1 : Nat} {σ0 : bh_S} {lp : Nat → Nat} {np : Nat} (i0 : Nat) (p1 : Int32) (hi0 : i0 < cv_cn nf nl 7) {σ : bh_S} {Z : xs_S} (h : cv_R w nf nl mb z1 n1 σ0 lp np σ Z) : sm (cv_G w nf nl mb z1 n1 σ0 lp np) (f_X6_lift (w 7 i0) p1 σ) (g_X6_lift i0 p1 Z) := by
  unfold f_X6_lift g_X6_lift
  refine cv_rdI (d := 19) h hi0 rfl rfl ?_
  refine cv_rdI (d := 19) h hi0 rfl rfl ?_
  refine cv_wrI (d := 19) h hi0 rfl rfl (fun σ5 Z5 h => ?_)
  refine cv_rdI (d := 22) h hi0 rfl rfl ?_
  refine cv_wrI (d := 22) h hi0 rfl rfl (fun σ9 Z9 h => ?_)
  refine cv_rdI (d := 23) h hi0 rfl rfl ?_
  refine cv_rdI (d := 20) h hi0 rfl rfl ?_
  refine cv_wrI (d := 23) h hi0 rfl rfl (fun σ15 Z15 h => ?_)
  exact sm_ret ⟨rfl, h⟩
/-! BeetHouse$Plot.freeze()Z -/
def g_X6_freeze (i0 : Nat) (Z : xs_S) : Option (Int32 × xs_S) :=
  if (Z 22 i0) = 0 then
    xs_retZ Z 0
  else
    if (Z 29 i0) = 0 then
      (xs_wZ Z 30 i0 1).bind fun Z7 =>
      xs_lt (xs_up Z7 24 i0 (-9)) fun Z9 =>
      xs_retZ Z9 1
    else
      xs_retZ Z 0
set_option maxRecDepth 100000 in
theorem q_X6_freeze {w : Nat → Nat → Nat} {nf nl mb z1 n1 : Nat} {σ0 : bh_S} {lp : Nat → Nat} {np : Nat} (i0 : Nat) (hi0 : i0 < cv_cn nf nl 7) {σ : bh_S} {Z : xs_S} (h : cv_R w nf nl mb z1 n1 σ0 lp np σ Z) : sm (cv_G w nf nl mb z1 n1 σ0 lp np) (f_X6_freeze (w 7 i0) σ) (g_X6_freeze i0 Z) := by
  unfold f_X6_freeze g_X6_freeze
  refine cv_rdI (d := 22) h hi0 rfl rfl ?_
  refine sm_ite (fun h1 => ?_) (fun h1 => ?_)
  · exact sm_retZ ⟨rfl, h⟩
  · refine cv_rdI (d := 29) h hi0 rfl rfl ?_
    refine sm_ite (fun h2 => ?_) (fun h2 => ?_)
    · refine cv_wrZ (d := 30) h hi0 rfl rfl (fun σ7 Z7 h => ?_)
      refine cv_wrI (d := 24) h hi0 rfl rfl (fun σ9 Z9 h => ?_)
      exact sm_retZ ⟨rfl, h⟩
    · exact sm_retZ ⟨rfl, h⟩
/-! BeetHouse$Plot.thaw(I)Z -/
def g_X6_thaw_b19 (i0 : Nat) (x1 : Int32) (t0 : Int32) (Z : xs_S) : Option (Int32 × xs_S) :=
  (xs_wZ Z 30 i0 0).bind fun Z1 =>
  if t0 = 0 then
    xs_retZ Z1 t0
  else
    xs_lt (xs_up Z1 24 i0 x1) fun Z4 =>
    xs_retZ Z4 t0
set_option maxRecDepth 100000 in
theorem q_X6_thaw_b19 {w : Nat → Nat → Nat} {nf nl mb z1 n1 : Nat} {σ0 : bh_S} {lp : Nat → Nat} {np : Nat} (i0 : Nat) (x1 : Int32) (t0 : Int32) (hi0 : i0 < cv_cn nf nl 7) {σ : bh_S} {Z : xs_S} (h : cv_R w nf nl mb z1 n1 σ0 lp np σ Z) : sm (cv_G w nf nl mb z1 n1 σ0 lp np) (f_X6_thaw_b19 (w 7 i0) x1 t0 σ) (g_X6_thaw_b19 i0 x1 t0 Z) := by
  unfold f_X6_thaw_b19 g_X6_thaw_b19
  refine cv_wrZ (d := 30) h hi0 rfl rfl (fun σ1 Z1 h => ?_)
  refine sm_ite (fun h1 => ?_) (fun h1 => ?_)
  · exact sm_retZ ⟨rfl, h⟩
  · refine cv_wrI (d := 24) h hi0 rfl rfl (fun σ4 Z4 h => ?_)
    exact sm_retZ ⟨rfl, h⟩
def g_X6_thaw_b18 (i0 : Nat) (x1 : Int32) (Z : xs_S) : Option (Int32 × xs_S) :=
  g_X6_thaw_b19 i0 x1 0 Z
set_option maxRecDepth 100000 in
theorem q_X6_thaw_b18 {w : Nat → Nat → Nat} {nf nl mb z1 n1 : Nat} {σ0 : bh_S} {lp : Nat → Nat} {np : Nat} (i0 : Nat) (x1 : Int32) (hi0 : i0 < cv_cn nf nl 7) {σ : bh_S} {Z : xs_S} (h : cv_R w nf nl mb z1 n1 σ0 lp np σ Z) : sm (cv_G w nf nl mb z1 n1 σ0 lp np) (f_X6_thaw_b18 (w 7 i0) x1 σ) (g_X6_thaw_b18 i0 x1 Z) := by
  unfold f_X6_thaw_b18 g_X6_thaw_b18
  exact q_X6_thaw_b19 i0 x1 0 hi0 h
def g_X6_thaw (i0 : Nat) (p1 : Int32) (Z : xs_S) : Option (Int32 × xs_S) :=
  if (Z 30 i0) = 0 then
    g_X6_thaw_b18 i0 p1 Z
  else
    if (Z 22 i0) ≤ 0 then
      g_X6_thaw_b18 i0 p1 Z
    else
      g_X6_thaw_b19 i0 p1 1 Z
set_option maxRecDepth 100000 in
theorem q_X6_thaw {w : Nat → Nat → Nat} {nf nl mb z1 n1 : Nat} {σ0 : bh_S} {lp : Nat → Nat} {np : Nat} (i0 : Nat) (p1 : Int32) (hi0 : i0 < cv_cn nf nl 7) {σ : bh_S} {Z : xs_S} (h : cv_R w nf nl mb z1 n1 σ0 lp np σ Z) : sm (cv_G w nf nl mb z1 n1 σ0 lp np) (f_X6_thaw (w 7 i0) p1 σ) (g_X6_thaw i0 p1 Z) := by
  unfold f_X6_thaw g_X6_thaw
  refine cv_rdI (d := 30) h hi0 rfl rfl ?_
  refine sm_ite (fun h1 => ?_) (fun h1 => ?_)
  · exact q_X6_thaw_b18 i0 p1 hi0 h
  · refine cv_rdI (d := 22) h hi0 rfl rfl ?_
    refine sm_ite (fun h2 => ?_) (fun h2 => ?_)
    · exact q_X6_thaw_b18 i0 p1 hi0 h
    · exact q_X6_thaw_b19 i0 p1 1 hi0 h
/-! BeetHouse$Plot.waste(I)V -/
def g_X6_waste (i0 : Nat) (p1 : Int32) (Z : xs_S) : Option (Unit × xs_S) :=
  xs_bnd (g_X6_wasteOf i0 (Z 23 i0) p1 Z) fun v4 Z5 =>
  xs_lt (xs_up Z5 23 i0 ((Z5 23 i0) - v4)) fun Z9 =>
  xs_lt (xs_up Z9 25 i0 ((Z9 25 i0) + v4)) fun Z13 =>
  some ((), Z13)
set_option maxRecDepth 100000 in
theorem q_X6_waste {w : Nat → Nat → Nat} {nf nl mb z1 n1 : Nat} {σ0 : bh_S} {lp : Nat → Nat} {np : Nat} (i0 : Nat) (p1 : Int32) (hi0 : i0 < cv_cn nf nl 7) {σ : bh_S} {Z : xs_S} (h : cv_R w nf nl mb z1 n1 σ0 lp np σ Z) : sm (cv_G w nf nl mb z1 n1 σ0 lp np) (f_X6_waste (w 7 i0) p1 σ) (g_X6_waste i0 p1 Z) := by
  unfold f_X6_waste g_X6_waste
  refine cv_rdI (d := 23) h hi0 rfl rfl ?_
  refine cv_ck h hi0 ?_
  refine sm_call (q_X6_wasteOf i0 (Z 23 i0) p1 hi0 h) ?_
  rintro v4 σ5 _ Z5 ⟨rfl, h⟩
  refine cv_rdI (d := 23) h hi0 rfl rfl ?_
  refine cv_wrI (d := 23) h hi0 rfl rfl (fun σ9 Z9 h => ?_)
  refine cv_rdI (d := 25) h hi0 rfl rfl ?_
  refine cv_wrI (d := 25) h hi0 rfl rfl (fun σ13 Z13 h => ?_)
  exact sm_ret ⟨rfl, h⟩
/-! BeetHouse$Plot.spoil(I)V -/
def g_X6_spoil (i0 : Nat) (p1 : Int32) (Z : xs_S) : Option (Unit × xs_S) :=
  if (Z 24 i0) = (-9) then
    some ((), Z)
  else
    if 72 ≤ (p1 - (Z 24 i0)) then
      xs_lt (xs_up Z 26 i0 ((Z 26 i0) + (Z 22 i0))) fun Z11 =>
      xs_bnd (g_X6_lose i0 (Z11 22 i0) (Z11 23 i0) Z11) fun v18 Z19 =>
      (xs_wZ Z19 29 i0 0).bind fun Z21 =>
      some ((), Z21)
    else
      some ((), Z)
set_option maxRecDepth 100000 in
theorem q_X6_spoil {w : Nat → Nat → Nat} {nf nl mb z1 n1 : Nat} {σ0 : bh_S} {lp : Nat → Nat} {np : Nat} (i0 : Nat) (p1 : Int32) (hi0 : i0 < cv_cn nf nl 7) {σ : bh_S} {Z : xs_S} (h : cv_R w nf nl mb z1 n1 σ0 lp np σ Z) : sm (cv_G w nf nl mb z1 n1 σ0 lp np) (f_X6_spoil (w 7 i0) p1 σ) (g_X6_spoil i0 p1 Z) := by
  unfold f_X6_spoil g_X6_spoil
  refine cv_rdI (d := 24) h hi0 rfl rfl ?_
  refine sm_ite (fun h1 => ?_) (fun h1 => ?_)
  · exact sm_ret ⟨rfl, h⟩
  · refine cv_rdI (d := 24) h hi0 rfl rfl ?_
    refine sm_ite (fun h2 => ?_) (fun h2 => ?_)
    · refine cv_rdI (d := 26) h hi0 rfl rfl ?_
      refine cv_rdI (d := 22) h hi0 rfl rfl ?_
      refine cv_wrI (d := 26) h hi0 rfl rfl (fun σ11 Z11 h => ?_)
      refine cv_rdI (d := 22) h hi0 rfl rfl ?_
      refine cv_rdI (d := 23) h hi0 rfl rfl ?_
      refine cv_ck h hi0 ?_
      refine sm_call (q_X6_lose i0 (Z11 22 i0) (Z11 23 i0) hi0 h) ?_
      rintro v18 σ19 _ Z19 ⟨rfl, h⟩
      refine cv_wrZ (d := 29) h hi0 rfl rfl (fun σ21 Z21 h => ?_)
      exact sm_ret ⟨rfl, h⟩
    · exact sm_ret ⟨rfl, h⟩
/-! BeetHouse$Yard.hasRoomFor(I)Z -/
def g_X8_hasRoomFor (p1 : Int32) (Z : xs_S) : Option (Int32 × xs_S) :=
  if p1 = 0 then
    xs_retZ Z 1
  else
    if (Z 9 0) < ((Z 60 0) + p1) then
      xs_retZ Z 0
    else
      xs_retZ Z 1
set_option maxRecDepth 100000 in
theorem q_X8_hasRoomFor {w : Nat → Nat → Nat} {nf nl mb z1 n1 : Nat} {σ0 : bh_S} {lp : Nat → Nat} {np : Nat} (p1 : Int32) {σ : bh_S} {Z : xs_S} (h : cv_R w nf nl mb z1 n1 σ0 lp np σ Z) : sm (cv_G w nf nl mb z1 n1 σ0 lp np) (f_X8_hasRoomFor (w 9 0) p1 σ) (g_X8_hasRoomFor p1 Z) := by
  unfold f_X8_hasRoomFor g_X8_hasRoomFor
  refine sm_ite (fun h1 => ?_) (fun h1 => ?_)
  · exact sm_retZ ⟨rfl, h⟩
  · refine cv_rdI (d := 60) h cv_z9 rfl rfl ?_
    refine cv_rdI (d := 9) h cv_z9 rfl rfl ?_
    refine sm_ite (fun h2 => ?_) (fun h2 => ?_)
    · exact sm_retZ ⟨rfl, h⟩
    · exact sm_retZ ⟨rfl, h⟩
/-! BeetHouse.farmerAt(I)LBeetHouse$Farmer; -/
def g_X9_farmerAt (p1 : Int32) (Z : xs_S) : Option (Option Nat × xs_S) :=
  if p1 < 0 then
    some (none, Z)
  else
    if 6 ≤ p1 then
      some (none, Z)
    else
      (xs_ix 6 p1).bind fun v7 =>
      some (some v7, Z)
set_option maxRecDepth 100000 in
theorem q_X9_farmerAt {w : Nat → Nat → Nat} {nf nl mb z1 n1 : Nat} {σ0 : bh_S} {lp : Nat → Nat} {np : Nat} (p1 : Int32) {σ : bh_S} {Z : xs_S} (h : cv_R w nf nl mb z1 n1 σ0 lp np σ Z) : sm (cv_Go w nf nl mb z1 n1 σ0 lp np 1) (f_X9_farmerAt (w 10 0) p1 σ) (g_X9_farmerAt p1 Z) := by
  unfold f_X9_farmerAt g_X9_farmerAt
  refine sm_ite (fun h1 => ?_) (fun h1 => ?_)
  · exact sm_ret ⟨rfl, (fun j hj => by cases hj), h⟩
  · refine sm_ite (fun h2 => ?_) (fun h2 => ?_)
    · exact sm_ret ⟨rfl, (fun j hj => by cases hj), h⟩
    · refine cv_rdC (t := 14) (j := 0) h cv_z10 rfl ?_
      refine sm_nn ?_
      refine cv_ldF h (fun v7 hv7 => ?_)
      exact sm_ret ⟨rfl, (fun j hj => by cases hj; exact hv7), h⟩
/-! BeetHouse.outside(III)I -/
def g_X9_outside (p0 : Int32) (p1 : Int32) (p2 : Int32) (Z : xs_S) : Option (Int32 × xs_S) :=
  if p1 ≤ p0 then
    if p0 ≤ p2 then
      some (0, Z)
    else
      some ((-6), Z)
  else
    some ((-4), Z)
set_option maxRecDepth 100000 in
theorem q_X9_outside {w : Nat → Nat → Nat} {nf nl mb z1 n1 : Nat} {σ0 : bh_S} {lp : Nat → Nat} {np : Nat} (p0 : Int32) (p1 : Int32) (p2 : Int32) {σ : bh_S} {Z : xs_S} (h : cv_R w nf nl mb z1 n1 σ0 lp np σ Z) : sm (cv_G w nf nl mb z1 n1 σ0 lp np) (f_X9_outside p0 p1 p2 σ) (g_X9_outside p0 p1 p2 Z) := by
  unfold f_X9_outside g_X9_outside
  refine sm_ite (fun h1 => ?_) (fun h1 => ?_)
  · refine sm_ite (fun h2 => ?_) (fun h2 => ?_)
    · exact sm_ret ⟨rfl, h⟩
    · exact sm_ret ⟨rfl, h⟩
  · exact sm_ret ⟨rfl, h⟩
/-! BeetHouse.refuse(I)I -/
def g_X9_refuse (p1 : Int32) (Z : xs_S) : Option (Int32 × xs_S) :=
  if (-1) < p1 then
    some (p1, Z)
  else
    if p1 < (-6) then
      some (p1, Z)
    else
      (xs_ld 7 Z 0 (-p1)).bind fun v7 =>
      (xs_st 7 Z 0 (-p1) (v7 + 1)).bind fun Z9 =>
      some (p1, Z9)
set_option maxRecDepth 100000 in
theorem q_X9_refuse {w : Nat → Nat → Nat} {nf nl mb z1 n1 : Nat} {σ0 : bh_S} {lp : Nat → Nat} {np : Nat} (p1 : Int32) {σ : bh_S} {Z : xs_S} (h : cv_R w nf nl mb z1 n1 σ0 lp np σ Z) : sm (cv_G w nf nl mb z1 n1 σ0 lp np) (f_X9_refuse (w 10 0) p1 σ) (g_X9_refuse p1 Z) := by
  unfold f_X9_refuse g_X9_refuse
  refine sm_ite (fun h1 => ?_) (fun h1 => ?_)
  · exact sm_ret ⟨rfl, h⟩
  · refine sm_ite (fun h2 => ?_) (fun h2 => ?_)
    · exact sm_ret ⟨rfl, h⟩
    · refine cv_rdC (t := 12) (j := 1) h cv_z10 rfl ?_
      refine sm_nn ?_
      refine cv_ldA h (by decide) rfl rfl (fun v7 => ?_)
      refine cv_stA h (by decide) rfl rfl (fun σ9 Z9 h => ?_)
      exact sm_ret ⟨rfl, h⟩
/-! BeetHouse.share(II)I -/
def g_X9_share (p1 : Int32) (p2 : Int32) (Z : xs_S) : Option (Int32 × xs_S) :=
  xs_bnd (g_X9_farmerAt p1 Z) fun v2 Z3 =>
  bh_cs v2 (
    xs_bnd (g_X9_refuse (-1) Z3) fun v8 Z9 =>
    some (v8, Z9)
  ) (fun a5 =>
    xs_bnd (g_X9_outside p2 0 1000 Z3) fun v11 Z12 =>
    if v11 = 0 then
      xs_lt (xs_up Z12 1 a5 p2) fun Z17 =>
      some ((Z12 1 a5), Z17)
    else
      xs_bnd (g_X9_refuse v11 Z12) fun v20 Z21 =>
      some (v20, Z21)
  )
set_option maxRecDepth 100000 in
theorem q_X9_share {w : Nat → Nat → Nat} {nf nl mb z1 n1 : Nat} {σ0 : bh_S} {lp : Nat → Nat} {np : Nat} (p1 : Int32) (p2 : Int32) {σ : bh_S} {Z : xs_S} (h : cv_R w nf nl mb z1 n1 σ0 lp np σ Z) : sm (cv_G w nf nl mb z1 n1 σ0 lp np) (f_X9_share (w 10 0) p1 p2 σ) (g_X9_share p1 p2 Z) := by
  unfold f_X9_share g_X9_share
  refine cv_ck h cv_z10 ?_
  refine sm_call (q_X9_farmerAt p1 h) ?_
  rintro _ σ3 v2 Z3 ⟨rfl, hv2, h⟩
  refine sm_cs (W := w 1) hv2 ?_ (fun a5 ha5 => ?_)
  · refine cv_ck h cv_z10 ?_
    refine sm_call (q_X9_refuse (-1) h) ?_
    rintro v8 σ9 _ Z9 ⟨rfl, h⟩
    exact sm_ret ⟨rfl, h⟩
  · refine sm_call (q_X9_outside p2 0 1000 h) ?_
    rintro v11 σ12 _ Z12 ⟨rfl, h⟩
    refine sm_ite (fun h1 => ?_) (fun h1 => ?_)
    · refine cv_rdI (d := 1) h ha5 rfl rfl ?_
      refine cv_wrI (d := 1) h ha5 rfl rfl (fun σ17 Z17 h => ?_)
      exact sm_ret ⟨rfl, h⟩
    · refine cv_ck h cv_z10 ?_
      refine sm_call (q_X9_refuse v11 h) ?_
      rintro v20 σ21 _ Z21 ⟨rfl, h⟩
      exact sm_ret ⟨rfl, h⟩
/-! BeetHouse.plotAt(I)LBeetHouse$Plot; -/
def g_X9_plotAt (p1 : Int32) (Z : xs_S) : Option (Option Nat × xs_S) :=
  if p1 < 0 then
    some (none, Z)
  else
    if (Z 7 0) ≤ p1 then
      some (none, Z)
    else
      (xs_gt Z 7 p1).bind fun v16 =>
      some (some v16, Z)
set_option maxRecDepth 100000 in
theorem q_X9_plotAt {w : Nat → Nat → Nat} {nf nl mb z1 n1 : Nat} {σ0 : bh_S} {lp : Nat → Nat} {np : Nat} (p1 : Int32) {σ : bh_S} {Z : xs_S} (h : cv_R w nf nl mb z1 n1 σ0 lp np σ Z) : sm (cv_Go w nf nl mb z1 n1 σ0 lp np 7) (f_X9_plotAt (w 10 0) p1 σ) (g_X9_plotAt p1 Z) := by
  unfold f_X9_plotAt g_X9_plotAt
  refine sm_ite (fun h1 => ?_) (fun h1 => ?_)
  · exact sm_ret ⟨rfl, (fun j hj => by cases hj), h⟩
  · refine cv_rdC (t := 0) (j := 0) h cv_z10 rfl ?_
    refine sm_nn ?_
    refine cv_ck0 h (by decide) ?_
    refine cv_size (d := 7) h (by decide) rfl ?_
    refine sm_ite (fun h2 => ?_) (fun h2 => ?_)
    · exact sm_ret ⟨rfl, (fun j hj => by cases hj), h⟩
    · refine cv_rdC (t := 0) (j := 0) h cv_z10 rfl ?_
      refine sm_nn ?_
      refine cv_ck0 h (by decide) ?_
      refine cv_get0 h (fun v16 hv16 => ?_)
      refine cv_cst h hv16 ?_
      exact sm_ret ⟨rfl, (fun j hj => by cases hj; exact hv16), h⟩
/-! BeetHouse.gang(III)I -/
def g_X9_gang_b26  (Z : xs_S) : Option (Int32 × xs_S) :=
  xs_bnd (g_X9_refuse (-1) Z) fun v2 Z3 =>
  some (v2, Z3)
set_option maxRecDepth 100000 in
theorem q_X9_gang_b26 {w : Nat → Nat → Nat} {nf nl mb z1 n1 : Nat} {σ0 : bh_S} {lp : Nat → Nat} {np : Nat}  {σ : bh_S} {Z : xs_S} (h : cv_R w nf nl mb z1 n1 σ0 lp np σ Z) : sm (cv_G w nf nl mb z1 n1 σ0 lp np) (f_X9_gang_b26 (w 10 0) σ) (g_X9_gang_b26  Z) := by
  unfold f_X9_gang_b26 g_X9_gang_b26
  refine cv_ck h cv_z10 ?_
  refine sm_call (q_X9_refuse (-1) h) ?_
  rintro v2 σ3 _ Z3 ⟨rfl, h⟩
  exact sm_ret ⟨rfl, h⟩
def g_X9_gang_b32 (x1 : Int32) (x2 : Int32) (x4 : Option Nat) (Z : xs_S) : Option (Int32 × xs_S) :=
  xs_bnd (g_X9_outside x2 0 100 Z) fun v1 Z2 =>
  if v1 = 0 then
    (xs_ix 4 x1).bind fun v9 =>
    xs_lt (xs_up Z2 31 v9 x2) fun Z13 =>
    (xs_ix 4 x1).bind fun v19 =>
    xs_lt (xs_up Z13 32 v19 (xs_fr (-1) x4)) fun Z23 =>
    some (1, Z23)
  else
    xs_bnd (g_X9_refuse v1 Z2) fun v26 Z27 =>
    some (v26, Z27)
set_option maxRecDepth 100000 in
theorem q_X9_gang_b32 {w : Nat → Nat → Nat} {nf nl mb z1 n1 : Nat} {σ0 : bh_S} {lp : Nat → Nat} {np : Nat} (x1 : Int32) (x2 : Int32) (x4 : Option Nat) (hx4 : ∀ j, x4 = some j → j < cv_cn nf nl 7) {σ : bh_S} {Z : xs_S} (h : cv_R w nf nl mb z1 n1 σ0 lp np σ Z) : sm (cv_G w nf nl mb z1 n1 σ0 lp np) (f_X9_gang_b32 (w 10 0) x1 x2 (x4.map (w 7)) σ) (g_X9_gang_b32 x1 x2 x4 Z) := by
  unfold f_X9_gang_b32 g_X9_gang_b32
  refine sm_call (q_X9_outside x2 0 100 h) ?_
  rintro v1 σ2 _ Z2 ⟨rfl, h⟩
  refine sm_ite (fun h1 => ?_) (fun h1 => ?_)
  · refine cv_rdC (t := 15) (j := 0) h cv_z10 rfl ?_
    refine sm_nn ?_
    refine cv_ldG h (fun v9 hv9 => ?_)
    refine sm_nn ?_
    refine cv_wrI (d := 31) h hv9 rfl rfl (fun σ13 Z13 h => ?_)
    refine cv_rdC (t := 15) (j := 0) h cv_z10 rfl ?_
    refine sm_nn ?_
    refine cv_ldG h (fun v19 hv19 => ?_)
    refine sm_nn ?_
    refine cv_wrV (dn := (-1)) (t := 7) (d := 32) h hv19 rfl (by decide) rfl (by decide) hx4 (fun σ23 Z23 h => ?_)
    exact sm_ret ⟨rfl, h⟩
  · refine cv_ck h cv_z10 ?_
    refine sm_call (q_X9_refuse v1 h) ?_
    rintro v26 σ27 _ Z27 ⟨rfl, h⟩
    exact sm_ret ⟨rfl, h⟩
def g_X9_gang (p1 : Int32) (p2 : Int32) (p3 : Int32) (Z : xs_S) : Option (Int32 × xs_S) :=
  xs_bnd (g_X9_plotAt p3 Z) fun v2 Z3 =>
  if p1 < 0 then
    g_X9_gang_b26 Z3
  else
    if 4 ≤ p1 then
      g_X9_gang_b26 Z3
    else
      bh_cs v2 (
        if p3 = (-1) then
          g_X9_gang_b32 p1 p2 none Z3
        else
          g_X9_gang_b26 Z3
      ) (fun a7 =>
        g_X9_gang_b32 p1 p2 (some a7) Z3
      )
set_option maxRecDepth 100000 in
theorem q_X9_gang {w : Nat → Nat → Nat} {nf nl mb z1 n1 : Nat} {σ0 : bh_S} {lp : Nat → Nat} {np : Nat} (p1 : Int32) (p2 : Int32) (p3 : Int32) {σ : bh_S} {Z : xs_S} (h : cv_R w nf nl mb z1 n1 σ0 lp np σ Z) : sm (cv_G w nf nl mb z1 n1 σ0 lp np) (f_X9_gang (w 10 0) p1 p2 p3 σ) (g_X9_gang p1 p2 p3 Z) := by
  unfold f_X9_gang g_X9_gang
  refine cv_ck h cv_z10 ?_
  refine sm_call (q_X9_plotAt p3 h) ?_
  rintro _ σ3 v2 Z3 ⟨rfl, hv2, h⟩
  refine sm_ite (fun h1 => ?_) (fun h1 => ?_)
  · exact q_X9_gang_b26  h
  · refine sm_ite (fun h2 => ?_) (fun h2 => ?_)
    · exact q_X9_gang_b26  h
    · refine sm_cs (W := w 7) hv2 ?_ (fun a7 ha7 => ?_)
      · refine sm_ite (fun h3 => ?_) (fun h3 => ?_)
        · exact q_X9_gang_b32 p1 p2 none (fun j hj => by cases hj) h
        · exact q_X9_gang_b26  h
      · exact q_X9_gang_b32 p1 p2 (some a7) (fun j hj => by cases hj; exact ha7) h
/-! BeetHouse.lorryAt(I)LBeetHouse$Lorry; -/
def g_X9_lorryAt (p1 : Int32) (Z : xs_S) : Option (Option Nat × xs_S) :=
  if p1 < 0 then
    some (none, Z)
  else
    if (Z 8 0) ≤ p1 then
      some (none, Z)
    else
      (xs_gt Z 8 p1).bind fun v16 =>
      some (some v16, Z)
set_option maxRecDepth 100000 in
theorem q_X9_lorryAt {w : Nat → Nat → Nat} {nf nl mb z1 n1 : Nat} {σ0 : bh_S} {lp : Nat → Nat} {np : Nat} (p1 : Int32) {σ : bh_S} {Z : xs_S} (h : cv_R w nf nl mb z1 n1 σ0 lp np σ Z) : sm (cv_Go w nf nl mb z1 n1 σ0 lp np 4) (f_X9_lorryAt (w 10 0) p1 σ) (g_X9_lorryAt p1 Z) := by
  unfold f_X9_lorryAt g_X9_lorryAt
  refine sm_ite (fun h1 => ?_) (fun h1 => ?_)
  · exact sm_ret ⟨rfl, (fun j hj => by cases hj), h⟩
  · refine cv_rdC (t := 0) (j := 1) h cv_z10 rfl ?_
    refine sm_nn ?_
    refine cv_ck0 h (by decide) ?_
    refine cv_size (d := 8) h (by decide) rfl ?_
    refine sm_ite (fun h2 => ?_) (fun h2 => ?_)
    · exact sm_ret ⟨rfl, (fun j hj => by cases hj), h⟩
    · refine cv_rdC (t := 0) (j := 1) h cv_z10 rfl ?_
      refine sm_nn ?_
      refine cv_ck0 h (by decide) ?_
      refine cv_get1 h (fun v16 hv16 => ?_)
      refine cv_cst h hv16 ?_
      exact sm_ret ⟨rfl, (fun j hj => by cases hj; exact hv16), h⟩
/-! BeetHouse.send(II)I -/
def g_X9_send_b22  (Z : xs_S) : Option (Int32 × xs_S) :=
  xs_bnd (g_X9_refuse (-1) Z) fun v2 Z3 =>
  some (v2, Z3)
set_option maxRecDepth 100000 in
theorem q_X9_send_b22 {w : Nat → Nat → Nat} {nf nl mb z1 n1 : Nat} {σ0 : bh_S} {lp : Nat → Nat} {np : Nat}  {σ : bh_S} {Z : xs_S} (h : cv_R w nf nl mb z1 n1 σ0 lp np σ Z) : sm (cv_G w nf nl mb z1 n1 σ0 lp np) (f_X9_send_b22 (w 10 0) σ) (g_X9_send_b22  Z) := by
  unfold f_X9_send_b22 g_X9_send_b22
  refine cv_ck h cv_z10 ?_
  refine sm_call (q_X9_refuse (-1) h) ?_
  rintro v2 σ3 _ Z3 ⟨rfl, h⟩
  exact sm_ret ⟨rfl, h⟩
def g_X9_send (p1 : Int32) (p2 : Int32) (Z : xs_S) : Option (Int32 × xs_S) :=
  xs_bnd (g_X9_lorryAt p1 Z) fun v2 Z3 =>
  xs_bnd (g_X9_plotAt p2 Z3) fun v6 Z7 =>
  bh_cs v2 (
    g_X9_send_b22 Z7
  ) (fun a9 =>
    bh_cs v6 (
      g_X9_send_b22 Z7
    ) (fun a11 =>
      if (Z7 34 a9) = 0 then
        xs_bnd (g_X3_setOut a9 a11 (Z7 6 0) Z7) fun v19 Z20 =>
        some ((Z20 36 a9), Z20)
      else
        xs_bnd (g_X9_refuse (-3) Z7) fun v25 Z26 =>
        some (v25, Z26)
    )
  )
set_option maxRecDepth 100000 in
theorem q_X9_send {w : Nat → Nat → Nat} {nf nl mb z1 n1 : Nat} {σ0 : bh_S} {lp : Nat → Nat} {np : Nat} (p1 : Int32) (p2 : Int32) {σ : bh_S} {Z : xs_S} (h : cv_R w nf nl mb z1 n1 σ0 lp np σ Z) : sm (cv_G w nf nl mb z1 n1 σ0 lp np) (f_X9_send (w 10 0) p1 p2 σ) (g_X9_send p1 p2 Z) := by
  unfold f_X9_send g_X9_send
  refine cv_ck h cv_z10 ?_
  refine sm_call (q_X9_lorryAt p1 h) ?_
  rintro _ σ3 v2 Z3 ⟨rfl, hv2, h⟩
  refine cv_ck h cv_z10 ?_
  refine sm_call (q_X9_plotAt p2 h) ?_
  rintro _ σ7 v6 Z7 ⟨rfl, hv6, h⟩
  refine sm_cs (W := w 4) hv2 ?_ (fun a9 ha9 => ?_)
  · exact q_X9_send_b22  h
  · refine sm_cs (W := w 7) hv6 ?_ (fun a11 ha11 => ?_)
    · exact q_X9_send_b22  h
    · refine cv_rdI (d := 34) h ha9 rfl rfl ?_
      refine sm_ite (fun h1 => ?_) (fun h1 => ?_)
      · refine cv_rdI (d := 6) h cv_z10 rfl rfl ?_
        refine cv_ck h ha9 ?_
        refine sm_call (q_X3_setOut a9 a11 (Z7 6 0) ha9 ha11 h) ?_
        rintro v19 σ20 _ Z20 ⟨rfl, h⟩
        refine cv_rdI (d := 36) h ha9 rfl rfl ?_
        exact sm_ret ⟨rfl, h⟩
      · refine cv_ck h cv_z10 ?_
        refine sm_call (q_X9_refuse (-3) h) ?_
        rintro v25 σ26 _ Z26 ⟨rfl, h⟩
        exact sm_ret ⟨rfl, h⟩
/-! BeetHouse.firstHome()LBeetHouse$Lorry; -/
def g_X9_firstHome_b2 (N : Nat) : Nat → Int32 → xs_S → Option (Option Nat × xs_S)
  | 0, _, _ => none
  | n + 1, x1, Z =>
    if (Z 8 0) ≤ x1 then
      some (none, Z)
    else
      (xs_gt Z 8 x1).bind fun v15 =>
      if (Z 34 v15) = 0 then
        (xs_gt Z 8 x1).bind fun v28 =>
        some (some v28, Z)
      else
        g_X9_firstHome_b2 N n (x1 + 1) Z
set_option maxRecDepth 100000 in
theorem q_X9_firstHome_b2 {w : Nat → Nat → Nat} {nf nl mb z1 n1 : Nat} {σ0 : bh_S} {lp : Nat → Nat} {np : Nat} (N : Nat) : ∀ (n : Nat) (x1 : Int32) (σ : bh_S) (Z : xs_S), cv_R w nf nl mb z1 n1 σ0 lp np σ Z → sm (cv_Go w nf nl mb z1 n1 σ0 lp np 4) (f_X9_firstHome_b2 N n (w 10 0) x1 σ) (g_X9_firstHome_b2 N n x1 Z) := by
  intro n
  induction n with
  | zero => intro x1  σ Z h; exact sm_none
  | succ n ih =>
    intro x1  σ Z h
    unfold f_X9_firstHome_b2 g_X9_firstHome_b2
    refine cv_rdC (t := 0) (j := 1) h cv_z10 rfl ?_
    refine sm_nn ?_
    refine cv_ck0 h (by decide) ?_
    refine cv_size (d := 8) h (by decide) rfl ?_
    refine sm_ite (fun h1 => ?_) (fun h1 => ?_)
    · exact sm_ret ⟨rfl, (fun j hj => by cases hj), h⟩
    · refine cv_rdC (t := 0) (j := 1) h cv_z10 rfl ?_
      refine sm_nn ?_
      refine cv_ck0 h (by decide) ?_
      refine cv_get1 h (fun v15 hv15 => ?_)
      refine cv_cst h hv15 ?_
      refine sm_nn ?_
      refine cv_rdI (d := 34) h hv15 rfl rfl ?_
      refine sm_ite (fun h2 => ?_) (fun h2 => ?_)
      · refine cv_rdC (t := 0) (j := 1) h cv_z10 rfl ?_
        refine sm_nn ?_
        refine cv_ck0 h (by decide) ?_
        refine cv_get1 h (fun v28 hv28 => ?_)
        refine cv_cst h hv28 ?_
        exact sm_ret ⟨rfl, (fun j hj => by cases hj; exact hv28), h⟩
      · exact ih (x1 + 1) σ Z h
def g_X9_firstHome (N : Nat)  (Z : xs_S) : Option (Option Nat × xs_S) :=
  g_X9_firstHome_b2 N N 0 Z
set_option maxRecDepth 100000 in
theorem q_X9_firstHome {w : Nat → Nat → Nat} {nf nl mb z1 n1 : Nat} {σ0 : bh_S} {lp : Nat → Nat} {np : Nat} (N : Nat)  {σ : bh_S} {Z : xs_S} (h : cv_R w nf nl mb z1 n1 σ0 lp np σ Z) : sm (cv_Go w nf nl mb z1 n1 σ0 lp np 4) (f_X9_firstHome N (w 10 0) σ) (g_X9_firstHome N  Z) := by
  unfold f_X9_firstHome g_X9_firstHome
  exact q_X9_firstHome_b2 N N 0 _ _ h
/-! BeetHouse.hasRootsToSpare(LBeetHouse$Plot;)Z -/
def g_X9_hasRootsToSpare_b45 (N : Nat) (k4 : Nat → Int32 → Int32 → xs_S → Option (Int32 × xs_S)) (x1 : Nat) (x2 : Int32) (x3 : Int32) (Z : xs_S) : Option (Int32 × xs_S) :=
  k4 x1 x2 (x3 + 1) Z
set_option maxRecDepth 100000 in
theorem q_X9_hasRootsToSpare_b45 {w : Nat → Nat → Nat} {nf nl mb z1 n1 : Nat} {σ0 : bh_S} {lp : Nat → Nat} {np : Nat} (N : Nat) (k4 : Nat → Nat → Int32 → Int32 → bh_S → Option (Int32 × bh_S)) (K4 : Nat → Int32 → Int32 → xs_S → Option (Int32 × xs_S)) (hk4 : ∀ (x1 : Nat) (x2 : Int32) (x3 : Int32) (hx1 : x1 < cv_cn nf nl 7) (σ : bh_S) (Z : xs_S), cv_R w nf nl mb z1 n1 σ0 lp np σ Z → sm (cv_G w nf nl mb z1 n1 σ0 lp np) (k4 (w 10 0) (w 7 x1) x2 x3 σ) (K4 x1 x2 x3 Z)) (x1 : Nat) (x2 : Int32) (x3 : Int32) (hx1 : x1 < cv_cn nf nl 7) {σ : bh_S} {Z : xs_S} (h : cv_R w nf nl mb z1 n1 σ0 lp np σ Z) : sm (cv_G w nf nl mb z1 n1 σ0 lp np) (f_X9_hasRootsToSpare_b45 N k4 (w 10 0) (w 7 x1) x2 x3 σ) (g_X9_hasRootsToSpare_b45 N K4 x1 x2 x3 Z) := by
  unfold f_X9_hasRootsToSpare_b45 g_X9_hasRootsToSpare_b45
  exact hk4 x1 x2 (x3 + 1) hx1 σ Z h
def g_X9_hasRootsToSpare_b4 (N : Nat) : Nat → Nat → Int32 → Int32 → xs_S → Option (Int32 × xs_S)
  | 0, _, _, _, _ => none
  | n + 1, x1, x2, x3, Z =>
    if (Z 8 0) ≤ x3 then
      if (Z 22 x1) ≤ x2 then
        xs_retZ Z 0
      else
        xs_retZ Z 1
    else
      (xs_gt Z 8 x3).bind fun v18 =>
      xs_bnd (g_X3_isOutTo v18 x1 Z) fun v24 Z25 =>
      if v24 = 0 then
        g_X9_hasRootsToSpare_b45 N (g_X9_hasRootsToSpare_b4 N n) x1 x2 x3 Z25
      else
        g_X9_hasRootsToSpare_b45 N (g_X9_hasRootsToSpare_b4 N n) x1 (x2 + (Z25 33 v18)) x3 Z25
set_option maxRecDepth 100000 in
theorem q_X9_hasRootsToSpare_b4 {w : Nat → Nat → Nat} {nf nl mb z1 n1 : Nat} {σ0 : bh_S} {lp : Nat → Nat} {np : Nat} (N : Nat) : ∀ (n : Nat) (x1 : Nat) (x2 : Int32) (x3 : Int32) (hx1 : x1 < cv_cn nf nl 7) (σ : bh_S) (Z : xs_S), cv_R w nf nl mb z1 n1 σ0 lp np σ Z → sm (cv_G w nf nl mb z1 n1 σ0 lp np) (f_X9_hasRootsToSpare_b4 N n (w 10 0) (w 7 x1) x2 x3 σ) (g_X9_hasRootsToSpare_b4 N n x1 x2 x3 Z) := by
  intro n
  induction n with
  | zero => intro x1 x2 x3 hx1 σ Z h; exact sm_none
  | succ n ih =>
    intro x1 x2 x3 hx1 σ Z h
    unfold f_X9_hasRootsToSpare_b4 g_X9_hasRootsToSpare_b4
    refine cv_rdC (t := 0) (j := 1) h cv_z10 rfl ?_
    refine sm_nn ?_
    refine cv_ck0 h (by decide) ?_
    refine cv_size (d := 8) h (by decide) rfl ?_
    refine sm_ite (fun h1 => ?_) (fun h1 => ?_)
    · refine cv_rdI (d := 22) h hx1 rfl rfl ?_
      refine sm_ite (fun h2 => ?_) (fun h2 => ?_)
      · exact sm_retZ ⟨rfl, h⟩
      · exact sm_retZ ⟨rfl, h⟩
    · refine cv_rdC (t := 0) (j := 1) h cv_z10 rfl ?_
      refine sm_nn ?_
      refine cv_ck0 h (by decide) ?_
      refine cv_get1 h (fun v18 hv18 => ?_)
      refine cv_cst h hv18 ?_
      refine sm_nn ?_
      refine cv_ck h hv18 ?_
      refine sm_call (q_X3_isOutTo v18 x1 hv18 hx1 h) ?_
      rintro v24 σ25 _ Z25 ⟨rfl, h⟩
      refine sm_ite (fun h3 => ?_) (fun h3 => ?_)
      · exact q_X9_hasRootsToSpare_b45 N _ (g_X9_hasRootsToSpare_b4 N n) ih x1 x2 x3 hx1 h
      · refine cv_rdI (d := 33) h hv18 rfl rfl ?_
        exact q_X9_hasRootsToSpare_b45 N _ (g_X9_hasRootsToSpare_b4 N n) ih x1 (x2 + (Z25 33 v18)) x3 hx1 h
def g_X9_hasRootsToSpare (N : Nat) (p1 : Nat) (Z : xs_S) : Option (Int32 × xs_S) :=
  g_X9_hasRootsToSpare_b4 N N p1 0 0 Z
set_option maxRecDepth 100000 in
theorem q_X9_hasRootsToSpare {w : Nat → Nat → Nat} {nf nl mb z1 n1 : Nat} {σ0 : bh_S} {lp : Nat → Nat} {np : Nat} (N : Nat) (p1 : Nat) (hp1 : p1 < cv_cn nf nl 7) {σ : bh_S} {Z : xs_S} (h : cv_R w nf nl mb z1 n1 σ0 lp np σ Z) : sm (cv_G w nf nl mb z1 n1 σ0 lp np) (f_X9_hasRootsToSpare N (w 10 0) (w 7 p1) σ) (g_X9_hasRootsToSpare N p1 Z) := by
  unfold f_X9_hasRootsToSpare g_X9_hasRootsToSpare
  exact q_X9_hasRootsToSpare_b4 N N p1 0 0 hp1 _ _ h
/-! BeetHouse.mostOwed()LBeetHouse$Farmer; -/
def g_X9_mostOwed_b62 (N : Nat) (k4 : Option Nat → Int32 → xs_S → Option (Option Nat × xs_S)) (x1 : Option Nat) (x2 : Int32) (Z : xs_S) : Option (Option Nat × xs_S) :=
  k4 x1 (x2 + 1) Z
set_option maxRecDepth 100000 in
theorem q_X9_mostOwed_b62 {w : Nat → Nat → Nat} {nf nl mb z1 n1 : Nat} {σ0 : bh_S} {lp : Nat → Nat} {np : Nat} (N : Nat) (k4 : Nat → Option Nat → Int32 → bh_S → Option (Option Nat × bh_S)) (K4 : Option Nat → Int32 → xs_S → Option (Option Nat × xs_S)) (hk4 : ∀ (x1 : Option Nat) (x2 : Int32) (hx1 : ∀ j, x1 = some j → j < cv_cn nf nl 1) (σ : bh_S) (Z : xs_S), cv_R w nf nl mb z1 n1 σ0 lp np σ Z → sm (cv_Go w nf nl mb z1 n1 σ0 lp np 1) (k4 (w 10 0) (x1.map (w 1)) x2 σ) (K4 x1 x2 Z)) (x1 : Option Nat) (x2 : Int32) (hx1 : ∀ j, x1 = some j → j < cv_cn nf nl 1) {σ : bh_S} {Z : xs_S} (h : cv_R w nf nl mb z1 n1 σ0 lp np σ Z) : sm (cv_Go w nf nl mb z1 n1 σ0 lp np 1) (f_X9_mostOwed_b62 N k4 (w 10 0) (x1.map (w 1)) x2 σ) (g_X9_mostOwed_b62 N K4 x1 x2 Z) := by
  unfold f_X9_mostOwed_b62 g_X9_mostOwed_b62
  exact hk4 x1 (x2 + 1) hx1 σ Z h
def g_X9_mostOwed_b57 (N : Nat) (k4 : Option Nat → Int32 → xs_S → Option (Option Nat × xs_S)) (x2 : Int32) (x3 : Nat) (Z : xs_S) : Option (Option Nat × xs_S) :=
  xs_lt (xs_rf (Z 18 x3)) fun v1 =>
  g_X9_mostOwed_b62 N k4 v1 x2 Z
set_option maxRecDepth 100000 in
theorem q_X9_mostOwed_b57 {w : Nat → Nat → Nat} {nf nl mb z1 n1 : Nat} {σ0 : bh_S} {lp : Nat → Nat} {np : Nat} (N : Nat) (k4 : Nat → Option Nat → Int32 → bh_S → Option (Option Nat × bh_S)) (K4 : Option Nat → Int32 → xs_S → Option (Option Nat × xs_S)) (hk4 : ∀ (x1 : Option Nat) (x2 : Int32) (hx1 : ∀ j, x1 = some j → j < cv_cn nf nl 1) (σ : bh_S) (Z : xs_S), cv_R w nf nl mb z1 n1 σ0 lp np σ Z → sm (cv_Go w nf nl mb z1 n1 σ0 lp np 1) (k4 (w 10 0) (x1.map (w 1)) x2 σ) (K4 x1 x2 Z)) (x2 : Int32) (x3 : Nat) (hx3 : x3 < cv_cn nf nl 7) {σ : bh_S} {Z : xs_S} (h : cv_R w nf nl mb z1 n1 σ0 lp np σ Z) : sm (cv_Go w nf nl mb z1 n1 σ0 lp np 1) (f_X9_mostOwed_b57 N k4 (w 10 0) x2 (w 7 x3) σ) (g_X9_mostOwed_b57 N K4 x2 x3 Z) := by
  unfold f_X9_mostOwed_b57 g_X9_mostOwed_b57
  refine cv_rdV (t := 1) (d := 18) h hx3 rfl (by decide) rfl (fun v1 hv1 => ?_)
  exact q_X9_mostOwed_b62 N k4 K4 hk4 v1 x2 hv1 h
def g_X9_mostOwed_b4 (N : Nat) : Nat → Option Nat → Int32 → xs_S → Option (Option Nat × xs_S)
  | 0, _, _, _ => none
  | n + 1, x1, x2, Z =>
    if (Z 7 0) ≤ x2 then
      some (x1, Z)
    else
      (xs_gt Z 7 x2).bind fun v15 =>
      xs_bnd (g_X9_hasRootsToSpare N v15 Z) fun v21 Z22 =>
      if v21 = 0 then
        g_X9_mostOwed_b62 N (g_X9_mostOwed_b4 N n) x1 x2 Z22
      else
        bh_cs x1 (
          g_X9_mostOwed_b57 N (g_X9_mostOwed_b4 N n) x2 v15 Z22
        ) (fun a25 =>
          xs_lt (xs_rf (Z22 18 v15)) fun v27 =>
          (v27).bind fun a35 =>
          xs_bnd (g_X0_comesBefore a35 a25 (Z22 61 0) Z22) fun v38 Z39 =>
          if v38 = 0 then
            g_X9_mostOwed_b62 N (g_X9_mostOwed_b4 N n) (some a25) x2 Z39
          else
            g_X9_mostOwed_b57 N (g_X9_mostOwed_b4 N n) x2 v15 Z39
        )
set_option maxRecDepth 100000 in
theorem q_X9_mostOwed_b4 {w : Nat → Nat → Nat} {nf nl mb z1 n1 : Nat} {σ0 : bh_S} {lp : Nat → Nat} {np : Nat} (N : Nat) : ∀ (n : Nat) (x1 : Option Nat) (x2 : Int32) (hx1 : ∀ j, x1 = some j → j < cv_cn nf nl 1) (σ : bh_S) (Z : xs_S), cv_R w nf nl mb z1 n1 σ0 lp np σ Z → sm (cv_Go w nf nl mb z1 n1 σ0 lp np 1) (f_X9_mostOwed_b4 N n (w 10 0) (x1.map (w 1)) x2 σ) (g_X9_mostOwed_b4 N n x1 x2 Z) := by
  intro n
  induction n with
  | zero => intro x1 x2 hx1 σ Z h; exact sm_none
  | succ n ih =>
    intro x1 x2 hx1 σ Z h
    unfold f_X9_mostOwed_b4 g_X9_mostOwed_b4
    refine cv_rdC (t := 0) (j := 0) h cv_z10 rfl ?_
    refine sm_nn ?_
    refine cv_ck0 h (by decide) ?_
    refine cv_size (d := 7) h (by decide) rfl ?_
    refine sm_ite (fun h1 => ?_) (fun h1 => ?_)
    · exact sm_ret ⟨rfl, hx1, h⟩
    · refine cv_rdC (t := 0) (j := 0) h cv_z10 rfl ?_
      refine sm_nn ?_
      refine cv_ck0 h (by decide) ?_
      refine cv_get0 h (fun v15 hv15 => ?_)
      refine cv_cst h hv15 ?_
      refine sm_nn ?_
      refine cv_ck h cv_z10 ?_
      refine sm_call (q_X9_hasRootsToSpare N v15 hv15 h) ?_
      rintro v21 σ22 _ Z22 ⟨rfl, h⟩
      refine sm_ite (fun h2 => ?_) (fun h2 => ?_)
      · exact q_X9_mostOwed_b62 N _ (g_X9_mostOwed_b4 N n) ih x1 x2 hx1 h
      · refine sm_cs (W := w 1) hx1 ?_ (fun a25 ha25 => ?_)
        · exact q_X9_mostOwed_b57 N _ (g_X9_mostOwed_b4 N n) ih x2 v15 hv15 h
        · refine cv_rdV (t := 1) (d := 18) h hv15 rfl (by decide) rfl (fun v27 hv27 => ?_)
          refine cv_rdC (t := 9) (j := 0) h cv_z10 rfl ?_
          refine sm_nn ?_
          refine cv_rdI (d := 61) h cv_z9 rfl rfl ?_
          refine sm_bv (W := w 1) hv27 (fun a35 ha35 => ?_)
          refine cv_ck h ha35 ?_
          refine sm_call (q_X0_comesBefore a35 a25 (Z22 61 0) ha35 ha25 h) ?_
          rintro v38 σ39 _ Z39 ⟨rfl, h⟩
          refine sm_ite (fun h3 => ?_) (fun h3 => ?_)
          · exact q_X9_mostOwed_b62 N _ (g_X9_mostOwed_b4 N n) ih (some a25) x2 (fun j hj => by cases hj; exact ha25) h
          · exact q_X9_mostOwed_b57 N _ (g_X9_mostOwed_b4 N n) ih x2 v15 hv15 h
def g_X9_mostOwed (N : Nat)  (Z : xs_S) : Option (Option Nat × xs_S) :=
  g_X9_mostOwed_b4 N N none 0 Z
set_option maxRecDepth 100000 in
theorem q_X9_mostOwed {w : Nat → Nat → Nat} {nf nl mb z1 n1 : Nat} {σ0 : bh_S} {lp : Nat → Nat} {np : Nat} (N : Nat)  {σ : bh_S} {Z : xs_S} (h : cv_R w nf nl mb z1 n1 σ0 lp np σ Z) : sm (cv_Go w nf nl mb z1 n1 σ0 lp np 1) (f_X9_mostOwed N (w 10 0) σ) (g_X9_mostOwed N  Z) := by
  unfold f_X9_mostOwed g_X9_mostOwed
  exact q_X9_mostOwed_b4 N N none 0 (fun j hj => by cases hj) _ _ h
/-! BeetHouse.sweetestOf(LBeetHouse$Farmer;)LBeetHouse$Plot; -/
def g_X9_sweetestOf_b65 (N : Nat) (k4 : Option Nat → Option Nat → Int32 → xs_S → Option (Option Nat × xs_S)) (x1 : Option Nat) (x2 : Option Nat) (x3 : Int32) (Z : xs_S) : Option (Option Nat × xs_S) :=
  k4 x1 x2 (x3 + 1) Z
set_option maxRecDepth 100000 in
theorem q_X9_sweetestOf_b65 {w : Nat → Nat → Nat} {nf nl mb z1 n1 : Nat} {σ0 : bh_S} {lp : Nat → Nat} {np : Nat} (N : Nat) (k4 : Nat → Option Nat → Option Nat → Int32 → bh_S → Option (Option Nat × bh_S)) (K4 : Option Nat → Option Nat → Int32 → xs_S → Option (Option Nat × xs_S)) (hk4 : ∀ (x1 : Option Nat) (x2 : Option Nat) (x3 : Int32) (hx1 : ∀ j, x1 = some j → j < cv_cn nf nl 1) (hx2 : ∀ j, x2 = some j → j < cv_cn nf nl 7) (σ : bh_S) (Z : xs_S), cv_R w nf nl mb z1 n1 σ0 lp np σ Z → sm (cv_Go w nf nl mb z1 n1 σ0 lp np 7) (k4 (w 10 0) (x1.map (w 1)) (x2.map (w 7)) x3 σ) (K4 x1 x2 x3 Z)) (x1 : Option Nat) (x2 : Option Nat) (x3 : Int32) (hx1 : ∀ j, x1 = some j → j < cv_cn nf nl 1) (hx2 : ∀ j, x2 = some j → j < cv_cn nf nl 7) {σ : bh_S} {Z : xs_S} (h : cv_R w nf nl mb z1 n1 σ0 lp np σ Z) : sm (cv_Go w nf nl mb z1 n1 σ0 lp np 7) (f_X9_sweetestOf_b65 N k4 (w 10 0) (x1.map (w 1)) (x2.map (w 7)) x3 σ) (g_X9_sweetestOf_b65 N K4 x1 x2 x3 Z) := by
  unfold f_X9_sweetestOf_b65 g_X9_sweetestOf_b65
  exact hk4 x1 x2 (x3 + 1) hx1 hx2 σ Z h
def g_X9_sweetestOf_b62 (N : Nat) (k4 : Option Nat → Option Nat → Int32 → xs_S → Option (Option Nat × xs_S)) (x1 : Option Nat) (x3 : Int32) (x4 : Nat) (Z : xs_S) : Option (Option Nat × xs_S) :=
  g_X9_sweetestOf_b65 N k4 x1 (some x4) x3 Z
set_option maxRecDepth 100000 in
theorem q_X9_sweetestOf_b62 {w : Nat → Nat → Nat} {nf nl mb z1 n1 : Nat} {σ0 : bh_S} {lp : Nat → Nat} {np : Nat} (N : Nat) (k4 : Nat → Option Nat → Option Nat → Int32 → bh_S → Option (Option Nat × bh_S)) (K4 : Option Nat → Option Nat → Int32 → xs_S → Option (Option Nat × xs_S)) (hk4 : ∀ (x1 : Option Nat) (x2 : Option Nat) (x3 : Int32) (hx1 : ∀ j, x1 = some j → j < cv_cn nf nl 1) (hx2 : ∀ j, x2 = some j → j < cv_cn nf nl 7) (σ : bh_S) (Z : xs_S), cv_R w nf nl mb z1 n1 σ0 lp np σ Z → sm (cv_Go w nf nl mb z1 n1 σ0 lp np 7) (k4 (w 10 0) (x1.map (w 1)) (x2.map (w 7)) x3 σ) (K4 x1 x2 x3 Z)) (x1 : Option Nat) (x3 : Int32) (x4 : Nat) (hx1 : ∀ j, x1 = some j → j < cv_cn nf nl 1) (hx4 : x4 < cv_cn nf nl 7) {σ : bh_S} {Z : xs_S} (h : cv_R w nf nl mb z1 n1 σ0 lp np σ Z) : sm (cv_Go w nf nl mb z1 n1 σ0 lp np 7) (f_X9_sweetestOf_b62 N k4 (w 10 0) (x1.map (w 1)) x3 (w 7 x4) σ) (g_X9_sweetestOf_b62 N K4 x1 x3 x4 Z) := by
  unfold f_X9_sweetestOf_b62 g_X9_sweetestOf_b62
  exact q_X9_sweetestOf_b65 N k4 K4 hk4 x1 (some x4) x3 hx1 (fun j hj => by cases hj; exact hx4) h
def g_X9_sweetestOf_b4 (N : Nat) : Nat → Option Nat → Option Nat → Int32 → xs_S → Option (Option Nat × xs_S)
  | 0, _, _, _, _ => none
  | n + 1, x1, x2, x3, Z =>
    if (Z 7 0) ≤ x3 then
      some (x2, Z)
    else
      (xs_gt Z 7 x3).bind fun v15 =>
      xs_lt (xs_rf (Z 18 v15)) fun v20 =>
      if v20 = x1 then
        xs_bnd (g_X9_hasRootsToSpare N v15 Z) fun v24 Z25 =>
        if v24 = 0 then
          g_X9_sweetestOf_b65 N (g_X9_sweetestOf_b4 N n) x1 x2 x3 Z25
        else
          bh_cs x2 (
            g_X9_sweetestOf_b62 N (g_X9_sweetestOf_b4 N n) x1 x3 v15 Z25
          ) (fun a28 =>
            if (Z25 23 v15) ≤ (Z25 23 a28) then
              g_X9_sweetestOf_b65 N (g_X9_sweetestOf_b4 N n) x1 (some a28) x3 Z25
            else
              g_X9_sweetestOf_b62 N (g_X9_sweetestOf_b4 N n) x1 x3 v15 Z25
          )
      else
        g_X9_sweetestOf_b65 N (g_X9_sweetestOf_b4 N n) x1 x2 x3 Z
set_option maxRecDepth 100000 in
theorem q_X9_sweetestOf_b4 {w : Nat → Nat → Nat} {nf nl mb z1 n1 : Nat} {σ0 : bh_S} {lp : Nat → Nat} {np : Nat} (N : Nat) : ∀ (n : Nat) (x1 : Option Nat) (x2 : Option Nat) (x3 : Int32) (hx1 : ∀ j, x1 = some j → j < cv_cn nf nl 1) (hx2 : ∀ j, x2 = some j → j < cv_cn nf nl 7) (σ : bh_S) (Z : xs_S), cv_R w nf nl mb z1 n1 σ0 lp np σ Z → sm (cv_Go w nf nl mb z1 n1 σ0 lp np 7) (f_X9_sweetestOf_b4 N n (w 10 0) (x1.map (w 1)) (x2.map (w 7)) x3 σ) (g_X9_sweetestOf_b4 N n x1 x2 x3 Z) := by
  intro n
  induction n with
  | zero => intro x1 x2 x3 hx1 hx2 σ Z h; exact sm_none
  | succ n ih =>
    intro x1 x2 x3 hx1 hx2 σ Z h
    unfold f_X9_sweetestOf_b4 g_X9_sweetestOf_b4
    refine cv_rdC (t := 0) (j := 0) h cv_z10 rfl ?_
    refine sm_nn ?_
    refine cv_ck0 h (by decide) ?_
    refine cv_size (d := 7) h (by decide) rfl ?_
    refine sm_ite (fun h1 => ?_) (fun h1 => ?_)
    · exact sm_ret ⟨rfl, hx2, h⟩
    · refine cv_rdC (t := 0) (j := 0) h cv_z10 rfl ?_
      refine sm_nn ?_
      refine cv_ck0 h (by decide) ?_
      refine cv_get0 h (fun v15 hv15 => ?_)
      refine cv_cst h hv15 ?_
      refine sm_nn ?_
      refine cv_rdV (t := 1) (d := 18) h hv15 rfl (by decide) rfl (fun v20 hv20 => ?_)
      refine sm_ite2 (cv_same (c := 1) h hv20 hx1) (fun h2 => ?_) (fun h2 => ?_)
      · refine cv_ck h cv_z10 ?_
        refine sm_call (q_X9_hasRootsToSpare N v15 hv15 h) ?_
        rintro v24 σ25 _ Z25 ⟨rfl, h⟩
        refine sm_ite (fun h3 => ?_) (fun h3 => ?_)
        · exact q_X9_sweetestOf_b65 N _ (g_X9_sweetestOf_b4 N n) ih x1 x2 x3 hx1 hx2 h
        · refine sm_cs (W := w 7) hx2 ?_ (fun a28 ha28 => ?_)
          · exact q_X9_sweetestOf_b62 N _ (g_X9_sweetestOf_b4 N n) ih x1 x3 v15 hx1 hv15 h
          · refine cv_rdI (d := 23) h hv15 rfl rfl ?_
            refine cv_rdI (d := 23) h ha28 rfl rfl ?_
            refine sm_ite (fun h4 => ?_) (fun h4 => ?_)
            · exact q_X9_sweetestOf_b65 N _ (g_X9_sweetestOf_b4 N n) ih x1 (some a28) x3 hx1 (fun j hj => by cases hj; exact ha28) h
            · exact q_X9_sweetestOf_b62 N _ (g_X9_sweetestOf_b4 N n) ih x1 x3 v15 hx1 hv15 h
      · exact q_X9_sweetestOf_b65 N _ (g_X9_sweetestOf_b4 N n) ih x1 x2 x3 hx1 hx2 h
def g_X9_sweetestOf (N : Nat) (p1 : Option Nat) (Z : xs_S) : Option (Option Nat × xs_S) :=
  g_X9_sweetestOf_b4 N N p1 none 0 Z
set_option maxRecDepth 100000 in
theorem q_X9_sweetestOf {w : Nat → Nat → Nat} {nf nl mb z1 n1 : Nat} {σ0 : bh_S} {lp : Nat → Nat} {np : Nat} (N : Nat) (p1 : Option Nat) (hp1 : ∀ j, p1 = some j → j < cv_cn nf nl 1) {σ : bh_S} {Z : xs_S} (h : cv_R w nf nl mb z1 n1 σ0 lp np σ Z) : sm (cv_Go w nf nl mb z1 n1 σ0 lp np 7) (f_X9_sweetestOf N (w 10 0) (p1.map (w 1)) σ) (g_X9_sweetestOf N p1 Z) := by
  unfold f_X9_sweetestOf g_X9_sweetestOf
  exact q_X9_sweetestOf_b4 N N p1 none 0 hp1 (fun j hj => by cases hj) _ _ h
/-! BeetHouse.turn()I -/
def g_X9_turn (N : Nat)  (Z : xs_S) : Option (Int32 × xs_S) :=
  xs_bnd (g_X9_firstHome N Z) fun v2 Z3 =>
  bh_cs v2 (
    xs_bnd (g_X9_refuse (-3) Z3) fun v8 Z9 =>
    some (v8, Z9)
  ) (fun a5 =>
    xs_bnd (g_X9_mostOwed N Z3) fun v12 Z13 =>
    xs_bnd (g_X9_sweetestOf N v12 Z13) fun v16 Z17 =>
    bh_cs v16 (
      some ((-9), Z17)
    ) (fun a19 =>
      xs_bnd (g_X3_setOut a5 a19 (Z17 6 0) Z17) fun v24 Z25 =>
      some ((Z25 101 a19), Z25)
    )
  )
set_option maxRecDepth 100000 in
theorem q_X9_turn {w : Nat → Nat → Nat} {nf nl mb z1 n1 : Nat} {σ0 : bh_S} {lp : Nat → Nat} {np : Nat} (N : Nat)  {σ : bh_S} {Z : xs_S} (h : cv_R w nf nl mb z1 n1 σ0 lp np σ Z) : sm (cv_G w nf nl mb z1 n1 σ0 lp np) (f_X9_turn N (w 10 0) σ) (g_X9_turn N  Z) := by
  unfold f_X9_turn g_X9_turn
  refine cv_ck h cv_z10 ?_
  refine sm_call (q_X9_firstHome N h) ?_
  rintro _ σ3 v2 Z3 ⟨rfl, hv2, h⟩
  refine sm_cs (W := w 4) hv2 ?_ (fun a5 ha5 => ?_)
  · refine cv_ck h cv_z10 ?_
    refine sm_call (q_X9_refuse (-3) h) ?_
    rintro v8 σ9 _ Z9 ⟨rfl, h⟩
    exact sm_ret ⟨rfl, h⟩
  · refine cv_ck h cv_z10 ?_
    refine sm_call (q_X9_mostOwed N h) ?_
    rintro _ σ13 v12 Z13 ⟨rfl, hv12, h⟩
    refine cv_ck h cv_z10 ?_
    refine sm_call (q_X9_sweetestOf N v12 hv12 h) ?_
    rintro _ σ17 v16 Z17 ⟨rfl, hv16, h⟩
    refine sm_cs (W := w 7) hv16 ?_ (fun a19 ha19 => ?_)
    · exact sm_ret ⟨rfl, h⟩
    · refine cv_rdI (d := 6) h cv_z10 rfl rfl ?_
      refine cv_ck h ha5 ?_
      refine sm_call (q_X3_setOut a5 a19 (Z17 6 0) ha5 ha19 h) ?_
      rintro v24 σ25 _ Z25 ⟨rfl, h⟩
      refine cv_rdI (d := 101) h ha19 rfl rfl ?_
      exact sm_ret ⟨rfl, h⟩
/-! BeetHouse.works(II)I -/
def g_X9_works_b31 (x1 : Int32) (x2 : Int32) (t0 : Int32) (t1 : Int32) (t2 : Int32) (Z : xs_S) : Option (Int32 × xs_S) :=
  xs_bnd (g_X9_outside t2 t1 t0 Z) fun v1 Z2 =>
  if v1 = 0 then
    if x1 = 0 then
      xs_lt (xs_up Z2 9 0 x2) fun Z28 =>
      some ((Z2 9 0), Z28)
    else
      xs_lt (xs_up Z2 10 0 x2) fun Z16 =>
      some ((Z2 10 0), Z16)
  else
    xs_bnd (g_X9_refuse v1 Z2) fun v31 Z32 =>
    some (v31, Z32)
set_option maxRecDepth 100000 in
theorem q_X9_works_b31 {w : Nat → Nat → Nat} {nf nl mb z1 n1 : Nat} {σ0 : bh_S} {lp : Nat → Nat} {np : Nat} (x1 : Int32) (x2 : Int32) (t0 : Int32) (t1 : Int32) (t2 : Int32) {σ : bh_S} {Z : xs_S} (h : cv_R w nf nl mb z1 n1 σ0 lp np σ Z) : sm (cv_G w nf nl mb z1 n1 σ0 lp np) (f_X9_works_b31 (w 10 0) x1 x2 t0 t1 t2 σ) (g_X9_works_b31 x1 x2 t0 t1 t2 Z) := by
  unfold f_X9_works_b31 g_X9_works_b31
  refine sm_call (q_X9_outside t2 t1 t0 h) ?_
  rintro v1 σ2 _ Z2 ⟨rfl, h⟩
  refine sm_ite (fun h1 => ?_) (fun h1 => ?_)
  · refine sm_ite (fun h2 => ?_) (fun h2 => ?_)
    · refine cv_rdC (t := 9) (j := 0) h cv_z10 rfl ?_
      refine sm_nn ?_
      refine cv_rdI (d := 9) h cv_z9 rfl rfl ?_
      refine cv_rdC (t := 9) (j := 0) h cv_z10 rfl ?_
      refine sm_nn ?_
      refine cv_wrI (d := 9) h cv_z9 rfl rfl (fun σ28 Z28 h => ?_)
      exact sm_ret ⟨rfl, h⟩
    · refine cv_rdC (t := 5) (j := 0) h cv_z10 rfl ?_
      refine sm_nn ?_
      refine cv_rdI (d := 10) h cv_z5 rfl rfl ?_
      refine cv_rdC (t := 5) (j := 0) h cv_z10 rfl ?_
      refine sm_nn ?_
      refine cv_wrI (d := 10) h cv_z5 rfl rfl (fun σ16 Z16 h => ?_)
      exact sm_ret ⟨rfl, h⟩
  · refine cv_ck h cv_z10 ?_
    refine sm_call (q_X9_refuse v1 h) ?_
    rintro v31 σ32 _ Z32 ⟨rfl, h⟩
    exact sm_ret ⟨rfl, h⟩
def g_X9_works_b16 (x1 : Int32) (x2 : Int32) (Z : xs_S) : Option (Int32 × xs_S) :=
  if x1 = 0 then
    g_X9_works_b31 x1 x2 3000 0 x2 Z
  else
    g_X9_works_b31 x1 x2 300 0 x2 Z
set_option maxRecDepth 100000 in
theorem q_X9_works_b16 {w : Nat → Nat → Nat} {nf nl mb z1 n1 : Nat} {σ0 : bh_S} {lp : Nat → Nat} {np : Nat} (x1 : Int32) (x2 : Int32) {σ : bh_S} {Z : xs_S} (h : cv_R w nf nl mb z1 n1 σ0 lp np σ Z) : sm (cv_G w nf nl mb z1 n1 σ0 lp np) (f_X9_works_b16 (w 10 0) x1 x2 σ) (g_X9_works_b16 x1 x2 Z) := by
  unfold f_X9_works_b16 g_X9_works_b16
  refine sm_ite (fun h1 => ?_) (fun h1 => ?_)
  · exact q_X9_works_b31 x1 x2 3000 0 x2 h
  · exact q_X9_works_b31 x1 x2 300 0 x2 h
def g_X9_works (p1 : Int32) (p2 : Int32) (Z : xs_S) : Option (Int32 × xs_S) :=
  if p1 = 0 then
    g_X9_works_b16 p1 p2 Z
  else
    if p1 = 1 then
      g_X9_works_b16 p1 p2 Z
    else
      xs_bnd (g_X9_refuse (-2) Z) fun v4 Z5 =>
      some (v4, Z5)
set_option maxRecDepth 100000 in
theorem q_X9_works {w : Nat → Nat → Nat} {nf nl mb z1 n1 : Nat} {σ0 : bh_S} {lp : Nat → Nat} {np : Nat} (p1 : Int32) (p2 : Int32) {σ : bh_S} {Z : xs_S} (h : cv_R w nf nl mb z1 n1 σ0 lp np σ Z) : sm (cv_G w nf nl mb z1 n1 σ0 lp np) (f_X9_works (w 10 0) p1 p2 σ) (g_X9_works p1 p2 Z) := by
  unfold f_X9_works g_X9_works
  refine sm_ite (fun h1 => ?_) (fun h1 => ?_)
  · exact q_X9_works_b16 p1 p2 h
  · refine sm_ite (fun h2 => ?_) (fun h2 => ?_)
    · exact q_X9_works_b16 p1 p2 h
    · refine cv_ck h cv_z10 ?_
      refine sm_call (q_X9_refuse (-2) h) ?_
      rintro v4 σ5 _ Z5 ⟨rfl, h⟩
      exact sm_ret ⟨rfl, h⟩
/-! BeetHouse.put([IIIII)I -/
def g_X9_put_b10 (x3 : Int32) (Z : xs_S) : Option (Int32 × xs_S) :=
  xs_bnd (g_X9_refuse x3 Z) fun v2 Z3 =>
  some (v2, Z3)
set_option maxRecDepth 100000 in
theorem q_X9_put_b10 {w : Nat → Nat → Nat} {nf nl mb z1 n1 : Nat} {σ0 : bh_S} {lp : Nat → Nat} {np : Nat} (x3 : Int32) {σ : bh_S} {Z : xs_S} (h : cv_R w nf nl mb z1 n1 σ0 lp np σ Z) : sm (cv_G w nf nl mb z1 n1 σ0 lp np) (f_X9_put_b10 (w 10 0) x3 σ) (g_X9_put_b10 x3 Z) := by
  unfold f_X9_put_b10 g_X9_put_b10
  refine cv_ck h cv_z10 ?_
  refine sm_call (q_X9_refuse x3 h) ?_
  rintro v2 σ3 _ Z3 ⟨rfl, h⟩
  exact sm_ret ⟨rfl, h⟩
def g_X9_put (p1 : Nat) (p2 : Int32) (p3 : Int32) (p4 : Int32) (p5 : Int32) (Z : xs_S) : Option (Int32 × xs_S) :=
  if p2 < 0 then
    g_X9_put_b10 p3 Z
  else
    if p2 < (Int32.ofNat (cv_al p1)) then
      xs_bnd (g_X9_outside p4 0 p5 Z) fun v5 Z6 =>
      if v5 = 0 then
        (xs_ld (cv_al p1) Z6 (cv_ac p1) p2).bind fun v9 =>
        (xs_st (cv_al p1) Z6 (cv_ac p1) p2 p4).bind fun Z11 =>
        some (v9, Z11)
      else
        xs_bnd (g_X9_refuse v5 Z6) fun v14 Z15 =>
        some (v14, Z15)
    else
      g_X9_put_b10 p3 Z
set_option maxRecDepth 100000 in
theorem q_X9_put {w : Nat → Nat → Nat} {nf nl mb z1 n1 : Nat} {σ0 : bh_S} {lp : Nat → Nat} {np : Nat} (p1 : Nat) (p2 : Int32) (p3 : Int32) (p4 : Int32) (p5 : Int32) (hp1 : p1 < 16) {σ : bh_S} {Z : xs_S} (h : cv_R w nf nl mb z1 n1 σ0 lp np σ Z) : sm (cv_G w nf nl mb z1 n1 σ0 lp np) (f_X9_put (w 10 0) (w 12 p1) p2 p3 p4 p5 σ) (g_X9_put p1 p2 p3 p4 p5 Z) := by
  unfold f_X9_put g_X9_put
  refine sm_ite (fun h1 => ?_) (fun h1 => ?_)
  · exact q_X9_put_b10 p3 h
  · refine cv_len h hp1 ?_
    refine sm_ite (fun h2 => ?_) (fun h2 => ?_)
    · refine sm_call (q_X9_outside p4 0 p5 h) ?_
      rintro v5 σ6 _ Z6 ⟨rfl, h⟩
      refine sm_ite (fun h3 => ?_) (fun h3 => ?_)
      · refine cv_ldA h hp1 rfl rfl (fun v9 => ?_)
        refine cv_stA h hp1 rfl rfl (fun σ11 Z11 h => ?_)
        exact sm_ret ⟨rfl, h⟩
      · refine cv_ck h cv_z10 ?_
        refine sm_call (q_X9_refuse v5 h) ?_
        rintro v14 σ15 _ Z15 ⟨rfl, h⟩
        exact sm_ret ⟨rfl, h⟩
    · exact q_X9_put_b10 p3 h
/-! BeetHouse.table(II)I -/
def g_X9_table (p1 : Int32) (p2 : Int32) (Z : xs_S) : Option (Int32 × xs_S) :=
  xs_bnd (g_X9_put 3 p1 (-2) p2 100 Z) fun v10 Z11 =>
  some (v10, Z11)
set_option maxRecDepth 100000 in
theorem q_X9_table {w : Nat → Nat → Nat} {nf nl mb z1 n1 : Nat} {σ0 : bh_S} {lp : Nat → Nat} {np : Nat} (p1 : Int32) (p2 : Int32) {σ : bh_S} {Z : xs_S} (h : cv_R w nf nl mb z1 n1 σ0 lp np σ Z) : sm (cv_G w nf nl mb z1 n1 σ0 lp np) (f_X9_table (w 10 0) p1 p2 σ) (g_X9_table p1 p2 Z) := by
  unfold f_X9_table g_X9_table
  refine cv_rdC (t := 8) (j := 0) h cv_z10 rfl ?_
  refine sm_nn ?_
  refine cv_rdC (t := 12) (j := 3) h cv_z8 rfl ?_
  refine sm_nn ?_
  refine cv_ck h cv_z10 ?_
  refine sm_call (q_X9_put 3 p1 (-2) p2 100 (by decide) h) ?_
  rintro v10 σ11 _ Z11 ⟨rfl, h⟩
  exact sm_ret ⟨rfl, h⟩
/-! BeetHouse.warmth(II)I -/
def g_X9_warmth (p1 : Int32) (p2 : Int32) (Z : xs_S) : Option (Int32 × xs_S) :=
  xs_bnd (g_X9_put 2 p1 (-1) p2 9 Z) fun v10 Z11 =>
  some (v10, Z11)
set_option maxRecDepth 100000 in
theorem q_X9_warmth {w : Nat → Nat → Nat} {nf nl mb z1 n1 : Nat} {σ0 : bh_S} {lp : Nat → Nat} {np : Nat} (p1 : Int32) (p2 : Int32) {σ : bh_S} {Z : xs_S} (h : cv_R w nf nl mb z1 n1 σ0 lp np σ Z) : sm (cv_G w nf nl mb z1 n1 σ0 lp np) (f_X9_warmth (w 10 0) p1 p2 σ) (g_X9_warmth p1 p2 Z) := by
  unfold f_X9_warmth g_X9_warmth
  refine cv_rdC (t := 8) (j := 0) h cv_z10 rfl ?_
  refine sm_nn ?_
  refine cv_rdC (t := 12) (j := 2) h cv_z8 rfl ?_
  refine sm_nn ?_
  refine cv_ck h cv_z10 ?_
  refine sm_call (q_X9_put 2 p1 (-1) p2 9 (by decide) h) ?_
  rintro v10 σ11 _ Z11 ⟨rfl, h⟩
  exact sm_ret ⟨rfl, h⟩
/-! BeetHouse.price(II)I -/
def g_X9_price (p1 : Int32) (p2 : Int32) (Z : xs_S) : Option (Int32 × xs_S) :=
  xs_bnd (g_X9_put 0 p1 (-2) p2 1000 Z) fun v6 Z7 =>
  some (v6, Z7)
set_option maxRecDepth 100000 in
theorem q_X9_price {w : Nat → Nat → Nat} {nf nl mb z1 n1 : Nat} {σ0 : bh_S} {lp : Nat → Nat} {np : Nat} (p1 : Int32) (p2 : Int32) {σ : bh_S} {Z : xs_S} (h : cv_R w nf nl mb z1 n1 σ0 lp np σ Z) : sm (cv_G w nf nl mb z1 n1 σ0 lp np) (f_X9_price (w 10 0) p1 p2 σ) (g_X9_price p1 p2 Z) := by
  unfold f_X9_price g_X9_price
  refine cv_rdC (t := 12) (j := 0) h cv_z10 rfl ?_
  refine sm_nn ?_
  refine cv_ck h cv_z10 ?_
  refine sm_call (q_X9_put 0 p1 (-2) p2 1000 (by decide) h) ?_
  rintro v6 σ7 _ Z7 ⟨rfl, h⟩
  exact sm_ret ⟨rfl, h⟩
/-! BeetHouse.cover(IZ)I -/
def g_X9_cover_b30  (Z : xs_S) : Option (Int32 × xs_S) :=
  xs_bnd (g_X9_refuse (-3) Z) fun v2 Z3 =>
  some (v2, Z3)
set_option maxRecDepth 100000 in
theorem q_X9_cover_b30 {w : Nat → Nat → Nat} {nf nl mb z1 n1 : Nat} {σ0 : bh_S} {lp : Nat → Nat} {np : Nat}  {σ : bh_S} {Z : xs_S} (h : cv_R w nf nl mb z1 n1 σ0 lp np σ Z) : sm (cv_G w nf nl mb z1 n1 σ0 lp np) (f_X9_cover_b30 (w 10 0) σ) (g_X9_cover_b30  Z) := by
  unfold f_X9_cover_b30 g_X9_cover_b30
  refine cv_ck h cv_z10 ?_
  refine sm_call (q_X9_refuse (-3) h) ?_
  rintro v2 σ3 _ Z3 ⟨rfl, h⟩
  exact sm_ret ⟨rfl, h⟩
def g_X9_cover (p1 : Int32) (p2 : Int32) (Z : xs_S) : Option (Int32 × xs_S) :=
  xs_bnd (g_X9_plotAt p1 Z) fun v2 Z3 =>
  bh_cs v2 (
    xs_bnd (g_X9_refuse (-1) Z3) fun v8 Z9 =>
    some (v8, Z9)
  ) (fun a5 =>
    if (Z3 22 a5) = 0 then
      g_X9_cover_b30 Z3
    else
      if (Z3 30 a5) = 0 then
        if (Z3 29 a5) = p2 then
          some (0, Z3)
        else
          (xs_wZ Z3 29 a5 p2).bind fun Z20 =>
          some (1, Z20)
      else
        g_X9_cover_b30 Z3
  )
set_option maxRecDepth 100000 in
theorem q_X9_cover {w : Nat → Nat → Nat} {nf nl mb z1 n1 : Nat} {σ0 : bh_S} {lp : Nat → Nat} {np : Nat} (p1 : Int32) (p2 : Int32) {σ : bh_S} {Z : xs_S} (h : cv_R w nf nl mb z1 n1 σ0 lp np σ Z) : sm (cv_G w nf nl mb z1 n1 σ0 lp np) (f_X9_cover (w 10 0) p1 p2 σ) (g_X9_cover p1 p2 Z) := by
  unfold f_X9_cover g_X9_cover
  refine cv_ck h cv_z10 ?_
  refine sm_call (q_X9_plotAt p1 h) ?_
  rintro _ σ3 v2 Z3 ⟨rfl, hv2, h⟩
  refine sm_cs (W := w 7) hv2 ?_ (fun a5 ha5 => ?_)
  · refine cv_ck h cv_z10 ?_
    refine sm_call (q_X9_refuse (-1) h) ?_
    rintro v8 σ9 _ Z9 ⟨rfl, h⟩
    exact sm_ret ⟨rfl, h⟩
  · refine cv_rdI (d := 22) h ha5 rfl rfl ?_
    refine sm_ite (fun h1 => ?_) (fun h1 => ?_)
    · exact q_X9_cover_b30  h
    · refine cv_rdI (d := 30) h ha5 rfl rfl ?_
      refine sm_ite (fun h2 => ?_) (fun h2 => ?_)
      · refine cv_rdI (d := 29) h ha5 rfl rfl ?_
        refine sm_ite (fun h3 => ?_) (fun h3 => ?_)
        · exact sm_ret ⟨rfl, h⟩
        · refine cv_wrZ (d := 29) h ha5 rfl rfl (fun σ20 Z20 h => ?_)
          exact sm_ret ⟨rfl, h⟩
      · exact q_X9_cover_b30  h
/-! BeetHouse.frost(Z)I -/
def g_X9_frost_b78 (N : Nat) (k24 : Int32 → Int32 → Int32 → xs_S → Option (Int32 × xs_S)) (x1 : Int32) (x2 : Int32) (x3 : Int32) (Z : xs_S) : Option (Int32 × xs_S) :=
  k24 x1 x2 (x3 + 1) Z
set_option maxRecDepth 100000 in
theorem q_X9_frost_b78 {w : Nat → Nat → Nat} {nf nl mb z1 n1 : Nat} {σ0 : bh_S} {lp : Nat → Nat} {np : Nat} (N : Nat) (k24 : Nat → Int32 → Int32 → Int32 → bh_S → Option (Int32 × bh_S)) (K24 : Int32 → Int32 → Int32 → xs_S → Option (Int32 × xs_S)) (hk24 : ∀ (x1 : Int32) (x2 : Int32) (x3 : Int32) (σ : bh_S) (Z : xs_S), cv_R w nf nl mb z1 n1 σ0 lp np σ Z → sm (cv_G w nf nl mb z1 n1 σ0 lp np) (k24 (w 10 0) x1 x2 x3 σ) (K24 x1 x2 x3 Z)) (x1 : Int32) (x2 : Int32) (x3 : Int32) {σ : bh_S} {Z : xs_S} (h : cv_R w nf nl mb z1 n1 σ0 lp np σ Z) : sm (cv_G w nf nl mb z1 n1 σ0 lp np) (f_X9_frost_b78 N k24 (w 10 0) x1 x2 x3 σ) (g_X9_frost_b78 N K24 x1 x2 x3 Z) := by
  unfold f_X9_frost_b78 g_X9_frost_b78
  exact hk24 x1 x2 (x3 + 1) σ Z h
def g_X9_frost_b75 (N : Nat) (k24 : Int32 → Int32 → Int32 → xs_S → Option (Int32 × xs_S)) (x1 : Int32) (x2 : Int32) (x3 : Int32) (Z : xs_S) : Option (Int32 × xs_S) :=
  g_X9_frost_b78 N k24 x1 (x2 + 1) x3 Z
set_option maxRecDepth 100000 in
theorem q_X9_frost_b75 {w : Nat → Nat → Nat} {nf nl mb z1 n1 : Nat} {σ0 : bh_S} {lp : Nat → Nat} {np : Nat} (N : Nat) (k24 : Nat → Int32 → Int32 → Int32 → bh_S → Option (Int32 × bh_S)) (K24 : Int32 → Int32 → Int32 → xs_S → Option (Int32 × xs_S)) (hk24 : ∀ (x1 : Int32) (x2 : Int32) (x3 : Int32) (σ : bh_S) (Z : xs_S), cv_R w nf nl mb z1 n1 σ0 lp np σ Z → sm (cv_G w nf nl mb z1 n1 σ0 lp np) (k24 (w 10 0) x1 x2 x3 σ) (K24 x1 x2 x3 Z)) (x1 : Int32) (x2 : Int32) (x3 : Int32) {σ : bh_S} {Z : xs_S} (h : cv_R w nf nl mb z1 n1 σ0 lp np σ Z) : sm (cv_G w nf nl mb z1 n1 σ0 lp np) (f_X9_frost_b75 N k24 (w 10 0) x1 x2 x3 σ) (g_X9_frost_b75 N K24 x1 x2 x3 Z) := by
  unfold f_X9_frost_b75 g_X9_frost_b75
  exact q_X9_frost_b78 N k24 K24 hk24 x1 (x2 + 1) x3 h
def g_X9_frost_b24 (N : Nat) : Nat → Int32 → Int32 → Int32 → xs_S → Option (Int32 × xs_S)
  | 0, _, _, _, _ => none
  | n + 1, x1, x2, x3, Z =>
    if (Z 7 0) ≤ x3 then
      some (x2, Z)
    else
      (xs_gt Z 7 x3).bind fun v15 =>
      if x1 = 0 then
        xs_bnd (g_X6_thaw v15 (Z 6 0) Z) fun v24 Z25 =>
        if v24 = 0 then
          g_X9_frost_b78 N (g_X9_frost_b24 N n) x1 x2 x3 Z25
        else
          g_X9_frost_b75 N (g_X9_frost_b24 N n) x1 x2 x3 Z25
      else
        xs_bnd (g_X6_freeze v15 Z) fun v31 Z32 =>
        if v31 = 0 then
          g_X9_frost_b78 N (g_X9_frost_b24 N n) x1 x2 x3 Z32
        else
          g_X9_frost_b75 N (g_X9_frost_b24 N n) x1 x2 x3 Z32
set_option maxRecDepth 100000 in
theorem q_X9_frost_b24 {w : Nat → Nat → Nat} {nf nl mb z1 n1 : Nat} {σ0 : bh_S} {lp : Nat → Nat} {np : Nat} (N : Nat) : ∀ (n : Nat) (x1 : Int32) (x2 : Int32) (x3 : Int32) (σ : bh_S) (Z : xs_S), cv_R w nf nl mb z1 n1 σ0 lp np σ Z → sm (cv_G w nf nl mb z1 n1 σ0 lp np) (f_X9_frost_b24 N n (w 10 0) x1 x2 x3 σ) (g_X9_frost_b24 N n x1 x2 x3 Z) := by
  intro n
  induction n with
  | zero => intro x1 x2 x3  σ Z h; exact sm_none
  | succ n ih =>
    intro x1 x2 x3  σ Z h
    unfold f_X9_frost_b24 g_X9_frost_b24
    refine cv_rdC (t := 0) (j := 0) h cv_z10 rfl ?_
    refine sm_nn ?_
    refine cv_ck0 h (by decide) ?_
    refine cv_size (d := 7) h (by decide) rfl ?_
    refine sm_ite (fun h1 => ?_) (fun h1 => ?_)
    · exact sm_ret ⟨rfl, h⟩
    · refine cv_rdC (t := 0) (j := 0) h cv_z10 rfl ?_
      refine sm_nn ?_
      refine cv_ck0 h (by decide) ?_
      refine cv_get0 h (fun v15 hv15 => ?_)
      refine cv_cst h hv15 ?_
      refine sm_ite (fun h2 => ?_) (fun h2 => ?_)
      · refine cv_rdI (d := 6) h cv_z10 rfl rfl ?_
        refine sm_nn ?_
        refine cv_ck h hv15 ?_
        refine sm_call (q_X6_thaw v15 (Z 6 0) hv15 h) ?_
        rintro v24 σ25 _ Z25 ⟨rfl, h⟩
        refine sm_ite (fun h3 => ?_) (fun h3 => ?_)
        · exact q_X9_frost_b78 N _ (g_X9_frost_b24 N n) ih x1 x2 x3 h
        · exact q_X9_frost_b75 N _ (g_X9_frost_b24 N n) ih x1 x2 x3 h
      · refine sm_nn ?_
        refine cv_ck h hv15 ?_
        refine sm_call (q_X6_freeze v15 hv15 h) ?_
        rintro v31 σ32 _ Z32 ⟨rfl, h⟩
        refine sm_ite (fun h4 => ?_) (fun h4 => ?_)
        · exact q_X9_frost_b78 N _ (g_X9_frost_b24 N n) ih x1 x2 x3 h
        · exact q_X9_frost_b75 N _ (g_X9_frost_b24 N n) ih x1 x2 x3 h
def g_X9_frost (N : Nat) (p1 : Int32) (Z : xs_S) : Option (Int32 × xs_S) :=
  if (Z 17 0) = p1 then
    xs_bnd (g_X9_refuse (-3) Z) fun v7 Z8 =>
    some (v7, Z8)
  else
    (xs_wZ Z 17 0 p1).bind fun Z4 =>
    g_X9_frost_b24 N N p1 0 0 Z4
set_option maxRecDepth 100000 in
theorem q_X9_frost {w : Nat → Nat → Nat} {nf nl mb z1 n1 : Nat} {σ0 : bh_S} {lp : Nat → Nat} {np : Nat} (N : Nat) (p1 : Int32) {σ : bh_S} {Z : xs_S} (h : cv_R w nf nl mb z1 n1 σ0 lp np σ Z) : sm (cv_G w nf nl mb z1 n1 σ0 lp np) (f_X9_frost N (w 10 0) p1 σ) (g_X9_frost N p1 Z) := by
  unfold f_X9_frost g_X9_frost
  refine cv_rdI (d := 17) h cv_z10 rfl rfl ?_
  refine sm_ite (fun h1 => ?_) (fun h1 => ?_)
  · refine cv_ck h cv_z10 ?_
    refine sm_call (q_X9_refuse (-3) h) ?_
    rintro v7 σ8 _ Z8 ⟨rfl, h⟩
    exact sm_ret ⟨rfl, h⟩
  · refine cv_wrZ (d := 17) h cv_z10 rfl rfl (fun σ4 Z4 h => ?_)
    exact q_X9_frost_b24 N N p1 0 0 _ _ h
/-! BeetHouse.liftRoots()V -/
def g_X9_liftRoots_b34 (N : Nat) (k2 : Int32 → xs_S → Option (Unit × xs_S)) (x1 : Int32) (Z : xs_S) : Option (Unit × xs_S) :=
  k2 (x1 + 1) Z
set_option maxRecDepth 100000 in
theorem q_X9_liftRoots_b34 {w : Nat → Nat → Nat} {nf nl mb z1 n1 : Nat} {σ0 : bh_S} {lp : Nat → Nat} {np : Nat} (N : Nat) (k2 : Nat → Int32 → bh_S → Option (Unit × bh_S)) (K2 : Int32 → xs_S → Option (Unit × xs_S)) (hk2 : ∀ (x1 : Int32) (σ : bh_S) (Z : xs_S), cv_R w nf nl mb z1 n1 σ0 lp np σ Z → sm (cv_G w nf nl mb z1 n1 σ0 lp np) (k2 (w 10 0) x1 σ) (K2 x1 Z)) (x1 : Int32) {σ : bh_S} {Z : xs_S} (h : cv_R w nf nl mb z1 n1 σ0 lp np σ Z) : sm (cv_G w nf nl mb z1 n1 σ0 lp np) (f_X9_liftRoots_b34 N k2 (w 10 0) x1 σ) (g_X9_liftRoots_b34 N K2 x1 Z) := by
  unfold f_X9_liftRoots_b34 g_X9_liftRoots_b34
  exact hk2 (x1 + 1) σ Z h
def g_X9_liftRoots_b2 (N : Nat) : Nat → Int32 → xs_S → Option (Unit × xs_S)
  | 0, _, _ => none
  | n + 1, x1, Z =>
    if 4 ≤ x1 then
      some ((), Z)
    else
      (xs_ix 4 x1).bind fun v6 =>
      xs_lt (xs_rf (Z 32 v6)) fun v10 =>
      bh_cs v10 (
        g_X9_liftRoots_b34 N (g_X9_liftRoots_b2 N n) x1 Z
      ) (fun a12 =>
        (xs_ix 4 x1).bind fun v18 =>
        xs_bnd (g_X6_lift a12 (Z 31 v18) Z) fun v25 Z26 =>
        g_X9_liftRoots_b34 N (g_X9_liftRoots_b2 N n) x1 Z26
      )
set_option maxRecDepth 100000 in
theorem q_X9_liftRoots_b2 {w : Nat → Nat → Nat} {nf nl mb z1 n1 : Nat} {σ0 : bh_S} {lp : Nat → Nat} {np : Nat} (N : Nat) : ∀ (n : Nat) (x1 : Int32) (σ : bh_S) (Z : xs_S), cv_R w nf nl mb z1 n1 σ0 lp np σ Z → sm (cv_G w nf nl mb z1 n1 σ0 lp np) (f_X9_liftRoots_b2 N n (w 10 0) x1 σ) (g_X9_liftRoots_b2 N n x1 Z) := by
  intro n
  induction n with
  | zero => intro x1  σ Z h; exact sm_none
  | succ n ih =>
    intro x1  σ Z h
    unfold f_X9_liftRoots_b2 g_X9_liftRoots_b2
    refine sm_ite (fun h1 => ?_) (fun h1 => ?_)
    · exact sm_ret ⟨rfl, h⟩
    · refine cv_rdC (t := 15) (j := 0) h cv_z10 rfl ?_
      refine sm_nn ?_
      refine cv_ldG h (fun v6 hv6 => ?_)
      refine sm_nn ?_
      refine cv_rdV (t := 7) (d := 32) h hv6 rfl (by decide) rfl (fun v10 hv10 => ?_)
      refine sm_cs (W := w 7) hv10 ?_ (fun a12 ha12 => ?_)
      · exact q_X9_liftRoots_b34 N _ (g_X9_liftRoots_b2 N n) ih x1 h
      · refine cv_rdC (t := 15) (j := 0) h cv_z10 rfl ?_
        refine sm_nn ?_
        refine cv_ldG h (fun v18 hv18 => ?_)
        refine sm_nn ?_
        refine cv_rdI (d := 31) h hv18 rfl rfl ?_
        refine cv_ck h ha12 ?_
        refine sm_call (q_X6_lift a12 (Z 31 v18) ha12 h) ?_
        rintro v25 σ26 _ Z26 ⟨rfl, h⟩
        exact q_X9_liftRoots_b34 N _ (g_X9_liftRoots_b2 N n) ih x1 h
def g_X9_liftRoots (N : Nat)  (Z : xs_S) : Option (Unit × xs_S) :=
  g_X9_liftRoots_b2 N N 0 Z
set_option maxRecDepth 100000 in
theorem q_X9_liftRoots {w : Nat → Nat → Nat} {nf nl mb z1 n1 : Nat} {σ0 : bh_S} {lp : Nat → Nat} {np : Nat} (N : Nat)  {σ : bh_S} {Z : xs_S} (h : cv_R w nf nl mb z1 n1 σ0 lp np σ Z) : sm (cv_G w nf nl mb z1 n1 σ0 lp np) (f_X9_liftRoots N (w 10 0) σ) (g_X9_liftRoots N  Z) := by
  unfold f_X9_liftRoots g_X9_liftRoots
  exact q_X9_liftRoots_b2 N N 0 _ _ h
/-! BeetHouse.pay(LBeetHouse$Load;)V -/
def g_X9_pay (p1 : Nat) (Z : xs_S) : Option (Unit × xs_S) :=
  if 1 ≤ (Z 42 p1) then
    (bh_nz (Z 42 p1)).bind fun _ =>
    if (bh_min (((Z 43 p1) / (Z 42 p1)) / 25) 9) < 0 then
      some ((), Z)
    else
      xs_lt (xs_rf (Z 41 p1)) fun v10 =>
      (v10).bind fun a12 =>
      xs_lt (xs_rf (Z 18 a12)) fun v14 =>
      (v14).bind fun a16 =>
      (xs_ld 10 Z 5 (bh_min (((Z 43 p1) / (Z 42 p1)) / 25) 9)).bind fun v26 =>
      xs_lt (xs_up Z 2 a16 ((Z 2 a16) + ((Z 42 p1) * v26))) fun Z28 =>
      some ((), Z28)
  else
    some ((), Z)
set_option maxRecDepth 100000 in
theorem q_X9_pay {w : Nat → Nat → Nat} {nf nl mb z1 n1 : Nat} {σ0 : bh_S} {lp : Nat → Nat} {np : Nat} (p1 : Nat) (hp1 : p1 < np) {σ : bh_S} {Z : xs_S} (h : cv_R w nf nl mb z1 n1 σ0 lp np σ Z) : sm (cv_G w nf nl mb z1 n1 σ0 lp np) (f_X9_pay (w 10 0) (lp p1) σ) (g_X9_pay p1 Z) := by
  unfold f_X9_pay g_X9_pay
  refine cv_rdI3 (d := 42) h hp1 (Or.inl rfl) rfl ?_
  refine sm_ite (fun h1 => ?_) (fun h1 => ?_)
  · refine cv_rdI3 (d := 43) h hp1 (Or.inr rfl) rfl ?_
    refine cv_rdI3 (d := 42) h hp1 (Or.inl rfl) rfl ?_
    refine sm_op (fun _ h9 => ?_)
    refine sm_ite (fun h2 => ?_) (fun h2 => ?_)
    · exact sm_ret ⟨rfl, h⟩
    · refine cv_rdV3 h hp1 (fun v10 hv10 => ?_)
      refine sm_bv (W := w 7) hv10 (fun a12 ha12 => ?_)
      refine cv_rdV (t := 1) (d := 18) h ha12 rfl (by decide) rfl (fun v14 hv14 => ?_)
      refine sm_bv (W := w 1) hv14 (fun a16 ha16 => ?_)
      refine cv_rdI (d := 2) h ha16 rfl rfl ?_
      refine cv_rdI3 (d := 42) h hp1 (Or.inl rfl) rfl ?_
      refine cv_rdC (t := 12) (j := 0) h cv_z10 rfl ?_
      refine sm_nn ?_
      refine cv_ldA h (by decide) rfl rfl (fun v26 => ?_)
      refine cv_wrI (d := 2) h ha16 rfl rfl (fun σ28 Z28 h => ?_)
      exact sm_ret ⟨rfl, h⟩
  · exact sm_ret ⟨rfl, h⟩
/-! BeetHouse.wasteHeaps()V -/
def g_X9_wasteHeaps_b19 (N : Nat) : Nat → Int32 → Int32 → xs_S → Option (Unit × xs_S)
  | 0, _, _, _ => none
  | n + 1, x1, x2, Z =>
    if (Z 7 0) ≤ x2 then
      some ((), Z)
    else
      (xs_gt Z 7 x2).bind fun v15 =>
      xs_bnd (g_X6_waste v15 x1 Z) fun v21 Z22 =>
      g_X9_wasteHeaps_b19 N n x1 (x2 + 1) Z22
set_option maxRecDepth 100000 in
theorem q_X9_wasteHeaps_b19 {w : Nat → Nat → Nat} {nf nl mb z1 n1 : Nat} {σ0 : bh_S} {lp : Nat → Nat} {np : Nat} (N : Nat) : ∀ (n : Nat) (x1 : Int32) (x2 : Int32) (σ : bh_S) (Z : xs_S), cv_R w nf nl mb z1 n1 σ0 lp np σ Z → sm (cv_G w nf nl mb z1 n1 σ0 lp np) (f_X9_wasteHeaps_b19 N n (w 10 0) x1 x2 σ) (g_X9_wasteHeaps_b19 N n x1 x2 Z) := by
  intro n
  induction n with
  | zero => intro x1 x2  σ Z h; exact sm_none
  | succ n ih =>
    intro x1 x2  σ Z h
    unfold f_X9_wasteHeaps_b19 g_X9_wasteHeaps_b19
    refine cv_rdC (t := 0) (j := 0) h cv_z10 rfl ?_
    refine sm_nn ?_
    refine cv_ck0 h (by decide) ?_
    refine cv_size (d := 7) h (by decide) rfl ?_
    refine sm_ite (fun h1 => ?_) (fun h1 => ?_)
    · exact sm_ret ⟨rfl, h⟩
    · refine cv_rdC (t := 0) (j := 0) h cv_z10 rfl ?_
      refine sm_nn ?_
      refine cv_ck0 h (by decide) ?_
      refine cv_get0 h (fun v15 hv15 => ?_)
      refine cv_cst h hv15 ?_
      refine sm_nn ?_
      refine cv_ck h hv15 ?_
      refine sm_call (q_X6_waste v15 x1 hv15 h) ?_
      rintro v21 σ22 _ Z22 ⟨rfl, h⟩
      exact ih x1 (x2 + 1) σ22 Z22 h
def g_X9_wasteHeaps (N : Nat)  (Z : xs_S) : Option (Unit × xs_S) :=
  xs_bnd (g_X7_numberOf (((Z 6 0) / 24) - 1) Z) fun v8 Z9 =>
  g_X9_wasteHeaps_b19 N N v8 0 Z9
set_option maxRecDepth 100000 in
theorem q_X9_wasteHeaps {w : Nat → Nat → Nat} {nf nl mb z1 n1 : Nat} {σ0 : bh_S} {lp : Nat → Nat} {np : Nat} (N : Nat)  {σ : bh_S} {Z : xs_S} (h : cv_R w nf nl mb z1 n1 σ0 lp np σ Z) : sm (cv_G w nf nl mb z1 n1 σ0 lp np) (f_X9_wasteHeaps N (w 10 0) σ) (g_X9_wasteHeaps N  Z) := by
  unfold f_X9_wasteHeaps g_X9_wasteHeaps
  refine cv_rdC (t := 8) (j := 0) h cv_z10 rfl ?_
  refine cv_rdI (d := 6) h cv_z10 rfl rfl ?_
  refine sm_nn ?_
  refine cv_ck h cv_z8 ?_
  refine sm_call (q_X7_numberOf (((Z 6 0) / 24) - 1) h) ?_
  rintro v8 σ9 _ Z9 ⟨rfl, h⟩
  exact q_X9_wasteHeaps_b19 N N v8 0 _ _ h
/-! BeetHouse.owed(I)I -/
def g_X9_owed (p1 : Int32) (Z : xs_S) : Option (Int32 × xs_S) :=
  xs_bnd (g_X9_farmerAt p1 Z) fun v2 Z3 =>
  bh_cs v2 (
    xs_bnd (g_X9_refuse (-1) Z3) fun v8 Z9 =>
    some (v8, Z9)
  ) (fun a5 =>
    xs_bnd (g_X0_claim a5 (Z3 61 0) Z3) fun v18 Z19 =>
    some (1000000000 + v18, Z19)
  )
set_option maxRecDepth 100000 in
theorem q_X9_owed {w : Nat → Nat → Nat} {nf nl mb z1 n1 : Nat} {σ0 : bh_S} {lp : Nat → Nat} {np : Nat} (p1 : Int32) {σ : bh_S} {Z : xs_S} (h : cv_R w nf nl mb z1 n1 σ0 lp np σ Z) : sm (cv_G w nf nl mb z1 n1 σ0 lp np) (f_X9_owed (w 10 0) p1 σ) (g_X9_owed p1 Z) := by
  unfold f_X9_owed g_X9_owed
  refine cv_ck h cv_z10 ?_
  refine sm_call (q_X9_farmerAt p1 h) ?_
  rintro _ σ3 v2 Z3 ⟨rfl, hv2, h⟩
  refine sm_cs (W := w 1) hv2 ?_ (fun a5 ha5 => ?_)
  · refine cv_ck h cv_z10 ?_
    refine sm_call (q_X9_refuse (-1) h) ?_
    rintro v8 σ9 _ Z9 ⟨rfl, h⟩
    exact sm_ret ⟨rfl, h⟩
  · refine cv_rdC (t := 9) (j := 0) h cv_z10 rfl ?_
    refine sm_nn ?_
    refine cv_rdI (d := 61) h cv_z9 rfl rfl ?_
    refine cv_ck h ha5 ?_
    refine sm_call (q_X0_claim a5 (Z3 61 0) ha5 h) ?_
    rintro v18 σ19 _ Z19 ⟨rfl, h⟩
    exact sm_ret ⟨rfl, h⟩
/-! BeetHouse.next()I -/
def g_X9_next (N : Nat)  (Z : xs_S) : Option (Int32 × xs_S) :=
  xs_bnd (g_X9_mostOwed N Z) fun v2 Z3 =>
  bh_cs v2 (
    some ((-9), Z3)
  ) (fun a5 =>
    some ((Z3 100 a5), Z3)
  )
set_option maxRecDepth 100000 in
theorem q_X9_next {w : Nat → Nat → Nat} {nf nl mb z1 n1 : Nat} {σ0 : bh_S} {lp : Nat → Nat} {np : Nat} (N : Nat)  {σ : bh_S} {Z : xs_S} (h : cv_R w nf nl mb z1 n1 σ0 lp np σ Z) : sm (cv_G w nf nl mb z1 n1 σ0 lp np) (f_X9_next N (w 10 0) σ) (g_X9_next N  Z) := by
  unfold f_X9_next g_X9_next
  refine cv_ck h cv_z10 ?_
  refine sm_call (q_X9_mostOwed N h) ?_
  rintro _ σ3 v2 Z3 ⟨rfl, hv2, h⟩
  refine sm_cs (W := w 1) hv2 ?_ (fun a5 ha5 => ?_)
  · exact sm_ret ⟨rfl, h⟩
  · refine cv_rdI (d := 100) h ha5 rfl rfl ?_
    exact sm_ret ⟨rfl, h⟩
/-! BeetHouse.findOrder()Z -/
def g_X9_findOrder_b79 (N : Nat) (k25 : Int32 → xs_S → Option (Int32 × xs_S)) (x1 : Int32) (Z : xs_S) : Option (Int32 × xs_S) :=
  k25 (x1 + 1) Z
set_option maxRecDepth 100000 in
theorem q_X9_findOrder_b79 {w : Nat → Nat → Nat} {nf nl mb z1 n1 : Nat} {σ0 : bh_S} {lp : Nat → Nat} {np : Nat} (N : Nat) (k25 : Nat → Int32 → bh_S → Option (Int32 × bh_S)) (K25 : Int32 → xs_S → Option (Int32 × xs_S)) (hk25 : ∀ (x1 : Int32) (σ : bh_S) (Z : xs_S), cv_R w nf nl mb z1 n1 σ0 lp np σ Z → sm (cv_G w nf nl mb z1 n1 σ0 lp np) (k25 (w 10 0) x1 σ) (K25 x1 Z)) (x1 : Int32) {σ : bh_S} {Z : xs_S} (h : cv_R w nf nl mb z1 n1 σ0 lp np σ Z) : sm (cv_G w nf nl mb z1 n1 σ0 lp np) (f_X9_findOrder_b79 N k25 (w 10 0) x1 σ) (g_X9_findOrder_b79 N K25 x1 Z) := by
  unfold f_X9_findOrder_b79 g_X9_findOrder_b79
  exact hk25 (x1 + 1) σ Z h
def g_X9_findOrder_b25 (N : Nat) : Nat → Int32 → xs_S → Option (Int32 × xs_S)
  | 0, _, _ => none
  | n + 1, x1, Z =>
    if (Z 7 0) ≤ x1 then
      xs_bnd (g_X5_search N Z) fun v15 Z16 =>
      xs_retZ Z16 1
    else
      (xs_gt Z 7 x1).bind fun v23 =>
      if (Z 22 v23) ≤ 0 then
        g_X9_findOrder_b79 N (g_X9_findOrder_b25 N n) x1 Z
      else
        xs_bnd (g_X5_add N v23 (Z 10 0) Z) fun v46 Z47 =>
        if v46 = 0 then
          xs_retZ Z47 0
        else
          g_X9_findOrder_b79 N (g_X9_findOrder_b25 N n) x1 Z47
set_option maxRecDepth 100000 in
theorem q_X9_findOrder_b25 {w : Nat → Nat → Nat} {nf nl mb z1 n1 : Nat} {σ0 : bh_S} {lp : Nat → Nat} {np : Nat} (N : Nat) : ∀ (n : Nat) (x1 : Int32) (σ : bh_S) (Z : xs_S), cv_R w nf nl mb z1 n1 σ0 lp np σ Z → sm (cv_G w nf nl mb z1 n1 σ0 lp np) (f_X9_findOrder_b25 N n (w 10 0) x1 σ) (g_X9_findOrder_b25 N n x1 Z) := by
  intro n
  induction n with
  | zero => intro x1  σ Z h; exact sm_none
  | succ n ih =>
    intro x1  σ Z h
    unfold f_X9_findOrder_b25 g_X9_findOrder_b25
    refine cv_rdC (t := 0) (j := 0) h cv_z10 rfl ?_
    refine sm_nn ?_
    refine cv_ck0 h (by decide) ?_
    refine cv_size (d := 7) h (by decide) rfl ?_
    refine sm_ite (fun h1 => ?_) (fun h1 => ?_)
    · refine cv_rdC (t := 6) (j := 0) h cv_z10 rfl ?_
      refine sm_nn ?_
      refine cv_ck h cv_z6 ?_
      refine sm_call (q_X5_search N h) ?_
      rintro v15 σ16 _ Z16 ⟨rfl, h⟩
      exact sm_retZ ⟨rfl, h⟩
    · refine cv_rdC (t := 0) (j := 0) h cv_z10 rfl ?_
      refine sm_nn ?_
      refine cv_ck0 h (by decide) ?_
      refine cv_get0 h (fun v23 hv23 => ?_)
      refine cv_cst h hv23 ?_
      refine sm_nn ?_
      refine cv_rdI (d := 22) h hv23 rfl rfl ?_
      refine sm_ite (fun h2 => ?_) (fun h2 => ?_)
      · exact q_X9_findOrder_b79 N _ (g_X9_findOrder_b25 N n) ih x1 h
      · refine cv_rdC (t := 6) (j := 0) h cv_z10 rfl ?_
        refine cv_rdC (t := 5) (j := 0) h cv_z10 rfl ?_
        refine sm_nn ?_
        refine cv_rdI (d := 10) h cv_z5 rfl rfl ?_
        refine cv_rdC (t := 8) (j := 0) h cv_z10 rfl ?_
        refine sm_nn ?_
        refine sm_nn ?_
        refine cv_ck h cv_z6 ?_
        refine sm_call (q_X5_add N v23 (Z 10 0) hv23 h) ?_
        rintro v46 σ47 _ Z47 ⟨rfl, h⟩
        refine sm_ite (fun h3 => ?_) (fun h3 => ?_)
        · exact sm_retZ ⟨rfl, h⟩
        · exact q_X9_findOrder_b79 N _ (g_X9_findOrder_b25 N n) ih x1 h
def g_X9_findOrder (N : Nat)  (Z : xs_S) : Option (Int32 × xs_S) :=
  xs_bnd (g_X5_clear (Z 6 0) Z) fun v8 Z9 =>
  if (Z9 10 0) = 0 then
    xs_retZ Z9 0
  else
    g_X9_findOrder_b25 N N 0 Z9
set_option maxRecDepth 100000 in
theorem q_X9_findOrder {w : Nat → Nat → Nat} {nf nl mb z1 n1 : Nat} {σ0 : bh_S} {lp : Nat → Nat} {np : Nat} (N : Nat)  {σ : bh_S} {Z : xs_S} (h : cv_R w nf nl mb z1 n1 σ0 lp np σ Z) : sm (cv_G w nf nl mb z1 n1 σ0 lp np) (f_X9_findOrder N (w 10 0) σ) (g_X9_findOrder N  Z) := by
  unfold f_X9_findOrder g_X9_findOrder
  refine cv_rdC (t := 6) (j := 0) h cv_z10 rfl ?_
  refine cv_rdI (d := 6) h cv_z10 rfl rfl ?_
  refine sm_nn ?_
  refine cv_ck h cv_z6 ?_
  refine sm_call (q_X5_clear (Z 6 0) h) ?_
  rintro v8 σ9 _ Z9 ⟨rfl, h⟩
  refine cv_rdC (t := 5) (j := 0) h cv_z10 rfl ?_
  refine sm_nn ?_
  refine cv_rdI (d := 10) h cv_z5 rfl rfl ?_
  refine sm_ite (fun h1 => ?_) (fun h1 => ?_)
  · exact sm_retZ ⟨rfl, h⟩
  · exact q_X9_findOrder_b25 N N 0 _ _ h
/-! BeetHouse.best()I -/
def g_X9_best (N : Nat)  (Z : xs_S) : Option (Int32 × xs_S) :=
  xs_bnd (g_X9_findOrder N Z) fun v2 Z3 =>
  if v2 = 0 then
    xs_bnd (g_X9_refuse (-3) Z3) fun v15 Z16 =>
    some (v15, Z16)
  else
    xs_bnd (g_X5_leastWaste Z3) fun v11 Z12 =>
    some (v11, Z12)
set_option maxRecDepth 100000 in
theorem q_X9_best {w : Nat → Nat → Nat} {nf nl mb z1 n1 : Nat} {σ0 : bh_S} {lp : Nat → Nat} {np : Nat} (N : Nat)  {σ : bh_S} {Z : xs_S} (h : cv_R w nf nl mb z1 n1 σ0 lp np σ Z) : sm (cv_G w nf nl mb z1 n1 σ0 lp np) (f_X9_best N (w 10 0) σ) (g_X9_best N  Z) := by
  unfold f_X9_best g_X9_best
  refine cv_ck h cv_z10 ?_
  refine sm_call (q_X9_findOrder N h) ?_
  rintro v2 σ3 _ Z3 ⟨rfl, h⟩
  refine sm_ite (fun h1 => ?_) (fun h1 => ?_)
  · refine cv_ck h cv_z10 ?_
    refine sm_call (q_X9_refuse (-3) h) ?_
    rintro v15 σ16 _ Z16 ⟨rfl, h⟩
    exact sm_ret ⟨rfl, h⟩
  · refine cv_rdC (t := 6) (j := 0) h cv_z10 rfl ?_
    refine sm_nn ?_
    refine cv_ck h cv_z6 ?_
    refine sm_call (q_X5_leastWaste h) ?_
    rintro v11 σ12 _ Z12 ⟨rfl, h⟩
    exact sm_ret ⟨rfl, h⟩
/-! BeetHouse.order(I)I -/
def g_X9_order (N : Nat) (p1 : Int32) (Z : xs_S) : Option (Int32 × xs_S) :=
  xs_bnd (g_X9_findOrder N Z) fun v2 Z3 =>
  if v2 = 0 then
    xs_bnd (g_X9_refuse (-3) Z3) fun v15 Z16 =>
    some (v15, Z16)
  else
    xs_bnd (g_X5_plotAtPlace N p1 Z3) fun v11 Z12 =>
    some (v11, Z12)
set_option maxRecDepth 100000 in
theorem q_X9_order {w : Nat → Nat → Nat} {nf nl mb z1 n1 : Nat} {σ0 : bh_S} {lp : Nat → Nat} {np : Nat} (N : Nat) (p1 : Int32) {σ : bh_S} {Z : xs_S} (h : cv_R w nf nl mb z1 n1 σ0 lp np σ Z) : sm (cv_G w nf nl mb z1 n1 σ0 lp np) (f_X9_order N (w 10 0) p1 σ) (g_X9_order N p1 Z) := by
  unfold f_X9_order g_X9_order
  refine cv_ck h cv_z10 ?_
  refine sm_call (q_X9_findOrder N h) ?_
  rintro v2 σ3 _ Z3 ⟨rfl, h⟩
  refine sm_ite (fun h1 => ?_) (fun h1 => ?_)
  · refine cv_ck h cv_z10 ?_
    refine sm_call (q_X9_refuse (-3) h) ?_
    rintro v15 σ16 _ Z16 ⟨rfl, h⟩
    exact sm_ret ⟨rfl, h⟩
  · refine cv_rdC (t := 6) (j := 0) h cv_z10 rfl ?_
    refine sm_nn ?_
    refine cv_ck h cv_z6 ?_
    refine sm_call (q_X5_plotAtPlace N p1 h) ?_
    rintro v11 σ12 _ Z12 ⟨rfl, h⟩
    exact sm_ret ⟨rfl, h⟩
/-! BeetHouse.lorriesOutTo(LBeetHouse$Plot;)I -/
def g_X9_lorriesOutTo_b36 (N : Nat) (k4 : Nat → Int32 → Int32 → xs_S → Option (Int32 × xs_S)) (x1 : Nat) (x2 : Int32) (x3 : Int32) (Z : xs_S) : Option (Int32 × xs_S) :=
  k4 x1 x2 (x3 + 1) Z
set_option maxRecDepth 100000 in
theorem q_X9_lorriesOutTo_b36 {w : Nat → Nat → Nat} {nf nl mb z1 n1 : Nat} {σ0 : bh_S} {lp : Nat → Nat} {np : Nat} (N : Nat) (k4 : Nat → Nat → Int32 → Int32 → bh_S → Option (Int32 × bh_S)) (K4 : Nat → Int32 → Int32 → xs_S → Option (Int32 × xs_S)) (hk4 : ∀ (x1 : Nat) (x2 : Int32) (x3 : Int32) (hx1 : x1 < cv_cn nf nl 7) (σ : bh_S) (Z : xs_S), cv_R w nf nl mb z1 n1 σ0 lp np σ Z → sm (cv_G w nf nl mb z1 n1 σ0 lp np) (k4 (w 10 0) (w 7 x1) x2 x3 σ) (K4 x1 x2 x3 Z)) (x1 : Nat) (x2 : Int32) (x3 : Int32) (hx1 : x1 < cv_cn nf nl 7) {σ : bh_S} {Z : xs_S} (h : cv_R w nf nl mb z1 n1 σ0 lp np σ Z) : sm (cv_G w nf nl mb z1 n1 σ0 lp np) (f_X9_lorriesOutTo_b36 N k4 (w 10 0) (w 7 x1) x2 x3 σ) (g_X9_lorriesOutTo_b36 N K4 x1 x2 x3 Z) := by
  unfold f_X9_lorriesOutTo_b36 g_X9_lorriesOutTo_b36
  exact hk4 x1 x2 (x3 + 1) hx1 σ Z h
def g_X9_lorriesOutTo_b4 (N : Nat) : Nat → Nat → Int32 → Int32 → xs_S → Option (Int32 × xs_S)
  | 0, _, _, _, _ => none
  | n + 1, x1, x2, x3, Z =>
    if (Z 8 0) ≤ x3 then
      some (x2, Z)
    else
      (xs_gt Z 8 x3).bind fun v15 =>
      xs_bnd (g_X3_isOutTo v15 x1 Z) fun v21 Z22 =>
      if v21 = 0 then
        g_X9_lorriesOutTo_b36 N (g_X9_lorriesOutTo_b4 N n) x1 x2 x3 Z22
      else
        g_X9_lorriesOutTo_b36 N (g_X9_lorriesOutTo_b4 N n) x1 (x2 + 1) x3 Z22
set_option maxRecDepth 100000 in
theorem q_X9_lorriesOutTo_b4 {w : Nat → Nat → Nat} {nf nl mb z1 n1 : Nat} {σ0 : bh_S} {lp : Nat → Nat} {np : Nat} (N : Nat) : ∀ (n : Nat) (x1 : Nat) (x2 : Int32) (x3 : Int32) (hx1 : x1 < cv_cn nf nl 7) (σ : bh_S) (Z : xs_S), cv_R w nf nl mb z1 n1 σ0 lp np σ Z → sm (cv_G w nf nl mb z1 n1 σ0 lp np) (f_X9_lorriesOutTo_b4 N n (w 10 0) (w 7 x1) x2 x3 σ) (g_X9_lorriesOutTo_b4 N n x1 x2 x3 Z) := by
  intro n
  induction n with
  | zero => intro x1 x2 x3 hx1 σ Z h; exact sm_none
  | succ n ih =>
    intro x1 x2 x3 hx1 σ Z h
    unfold f_X9_lorriesOutTo_b4 g_X9_lorriesOutTo_b4
    refine cv_rdC (t := 0) (j := 1) h cv_z10 rfl ?_
    refine sm_nn ?_
    refine cv_ck0 h (by decide) ?_
    refine cv_size (d := 8) h (by decide) rfl ?_
    refine sm_ite (fun h1 => ?_) (fun h1 => ?_)
    · exact sm_ret ⟨rfl, h⟩
    · refine cv_rdC (t := 0) (j := 1) h cv_z10 rfl ?_
      refine sm_nn ?_
      refine cv_ck0 h (by decide) ?_
      refine cv_get1 h (fun v15 hv15 => ?_)
      refine cv_cst h hv15 ?_
      refine sm_nn ?_
      refine cv_ck h hv15 ?_
      refine sm_call (q_X3_isOutTo v15 x1 hv15 hx1 h) ?_
      rintro v21 σ22 _ Z22 ⟨rfl, h⟩
      refine sm_ite (fun h2 => ?_) (fun h2 => ?_)
      · exact q_X9_lorriesOutTo_b36 N _ (g_X9_lorriesOutTo_b4 N n) ih x1 x2 x3 hx1 h
      · exact q_X9_lorriesOutTo_b36 N _ (g_X9_lorriesOutTo_b4 N n) ih x1 (x2 + 1) x3 hx1 h
def g_X9_lorriesOutTo (N : Nat) (p1 : Nat) (Z : xs_S) : Option (Int32 × xs_S) :=
  g_X9_lorriesOutTo_b4 N N p1 0 0 Z
set_option maxRecDepth 100000 in
theorem q_X9_lorriesOutTo {w : Nat → Nat → Nat} {nf nl mb z1 n1 : Nat} {σ0 : bh_S} {lp : Nat → Nat} {np : Nat} (N : Nat) (p1 : Nat) (hp1 : p1 < cv_cn nf nl 7) {σ : bh_S} {Z : xs_S} (h : cv_R w nf nl mb z1 n1 σ0 lp np σ Z) : sm (cv_G w nf nl mb z1 n1 σ0 lp np) (f_X9_lorriesOutTo N (w 10 0) (w 7 p1) σ) (g_X9_lorriesOutTo N p1 Z) := by
  unfold f_X9_lorriesOutTo g_X9_lorriesOutTo
  exact q_X9_lorriesOutTo_b4 N N p1 0 0 hp1 _ _ h
/-! BeetHouse.fieldOf(II)I -/
def g_X9_fieldOf (N : Nat) (p1 : Int32) (p2 : Int32) (Z : xs_S) : Option (Int32 × xs_S) :=
  xs_bnd (g_X9_plotAt p1 Z) fun v2 Z3 =>
  bh_cs v2 (
    xs_bnd (g_X9_refuse (-1) Z3) fun v8 Z9 =>
    some (v8, Z9)
  ) (fun a5 =>
    if p2 = 0 then
      some ((Z3 19 a5), Z3)
    else
      if p2 = 1 then
        some ((Z3 22 a5), Z3)
      else
        if p2 = 2 then
          some ((Z3 23 a5), Z3)
        else
          if p2 = 3 then
            if (Z3 29 a5) = 0 then
              some (0, Z3)
            else
              some (1, Z3)
          else
            if p2 = 4 then
              if (Z3 30 a5) = 0 then
                some (0, Z3)
              else
                some (1, Z3)
            else
              if p2 = 5 then
                some ((Z3 24 a5), Z3)
              else
                if p2 = 6 then
                  some ((Z3 25 a5), Z3)
                else
                  if p2 = 7 then
                    some ((Z3 26 a5), Z3)
                  else
                    if p2 = 8 then
                      some ((Z3 27 a5), Z3)
                    else
                      if p2 = 9 then
                        xs_lt (xs_rf (Z3 18 a5)) fun v41 =>
                        (v41).bind fun a43 =>
                        some ((Z3 100 a43), Z3)
                      else
                        if p2 = 10 then
                          xs_bnd (g_X9_lorriesOutTo N a5 Z3) fun v49 Z50 =>
                          some (v49, Z50)
                        else
                          xs_bnd (g_X9_refuse (-2) Z3) fun v53 Z54 =>
                          some (v53, Z54)
  )
set_option maxRecDepth 100000 in
theorem q_X9_fieldOf {w : Nat → Nat → Nat} {nf nl mb z1 n1 : Nat} {σ0 : bh_S} {lp : Nat → Nat} {np : Nat} (N : Nat) (p1 : Int32) (p2 : Int32) {σ : bh_S} {Z : xs_S} (h : cv_R w nf nl mb z1 n1 σ0 lp np σ Z) : sm (cv_G w nf nl mb z1 n1 σ0 lp np) (f_X9_fieldOf N (w 10 0) p1 p2 σ) (g_X9_fieldOf N p1 p2 Z) := by
  unfold f_X9_fieldOf g_X9_fieldOf
  refine cv_ck h cv_z10 ?_
  refine sm_call (q_X9_plotAt p1 h) ?_
  rintro _ σ3 v2 Z3 ⟨rfl, hv2, h⟩
  refine sm_cs (W := w 7) hv2 ?_ (fun a5 ha5 => ?_)
  · refine cv_ck h cv_z10 ?_
    refine sm_call (q_X9_refuse (-1) h) ?_
    rintro v8 σ9 _ Z9 ⟨rfl, h⟩
    exact sm_ret ⟨rfl, h⟩
  · refine sm_ite (fun h1 => ?_) (fun h1 => ?_)
    · refine cv_rdI (d := 19) h ha5 rfl rfl ?_
      exact sm_ret ⟨rfl, h⟩
    · refine sm_ite (fun h2 => ?_) (fun h2 => ?_)
      · refine cv_rdI (d := 22) h ha5 rfl rfl ?_
        exact sm_ret ⟨rfl, h⟩
      · refine sm_ite (fun h3 => ?_) (fun h3 => ?_)
        · refine cv_rdI (d := 23) h ha5 rfl rfl ?_
          exact sm_ret ⟨rfl, h⟩
        · refine sm_ite (fun h4 => ?_) (fun h4 => ?_)
          · refine cv_rdI (d := 29) h ha5 rfl rfl ?_
            refine sm_ite (fun h5 => ?_) (fun h5 => ?_)
            · exact sm_ret ⟨rfl, h⟩
            · exact sm_ret ⟨rfl, h⟩
          · refine sm_ite (fun h6 => ?_) (fun h6 => ?_)
            · refine cv_rdI (d := 30) h ha5 rfl rfl ?_
              refine sm_ite (fun h7 => ?_) (fun h7 => ?_)
              · exact sm_ret ⟨rfl, h⟩
              · exact sm_ret ⟨rfl, h⟩
            · refine sm_ite (fun h8 => ?_) (fun h8 => ?_)
              · refine cv_rdI (d := 24) h ha5 rfl rfl ?_
                exact sm_ret ⟨rfl, h⟩
              · refine sm_ite (fun h9 => ?_) (fun h9 => ?_)
                · refine cv_rdI (d := 25) h ha5 rfl rfl ?_
                  exact sm_ret ⟨rfl, h⟩
                · refine sm_ite (fun h10 => ?_) (fun h10 => ?_)
                  · refine cv_rdI (d := 26) h ha5 rfl rfl ?_
                    exact sm_ret ⟨rfl, h⟩
                  · refine sm_ite (fun h11 => ?_) (fun h11 => ?_)
                    · refine cv_rdI (d := 27) h ha5 rfl rfl ?_
                      exact sm_ret ⟨rfl, h⟩
                    · refine sm_ite (fun h12 => ?_) (fun h12 => ?_)
                      · refine cv_rdV (t := 1) (d := 18) h ha5 rfl (by decide) rfl (fun v41 hv41 => ?_)
                        refine sm_bv (W := w 1) hv41 (fun a43 ha43 => ?_)
                        refine cv_rdI (d := 100) h ha43 rfl rfl ?_
                        exact sm_ret ⟨rfl, h⟩
                      · refine sm_ite (fun h13 => ?_) (fun h13 => ?_)
                        · refine cv_ck h cv_z10 ?_
                          refine sm_call (q_X9_lorriesOutTo N a5 ha5 h) ?_
                          rintro v49 σ50 _ Z50 ⟨rfl, h⟩
                          exact sm_ret ⟨rfl, h⟩
                        · refine cv_ck h cv_z10 ?_
                          refine sm_call (q_X9_refuse (-2) h) ?_
                          rintro v53 σ54 _ Z54 ⟨rfl, h⟩
                          exact sm_ret ⟨rfl, h⟩
/-! BeetHouse.lorryOf(II)I -/
def g_X9_lorryOf (p1 : Int32) (p2 : Int32) (Z : xs_S) : Option (Int32 × xs_S) :=
  xs_bnd (g_X9_lorryAt p1 Z) fun v2 Z3 =>
  bh_cs v2 (
    xs_bnd (g_X9_refuse (-1) Z3) fun v8 Z9 =>
    some (v8, Z9)
  ) (fun a5 =>
    if p2 = 0 then
      some ((Z3 34 a5), Z3)
    else
      if p2 = 1 then
        xs_lt (xs_rf (Z3 35 a5)) fun v15 =>
        bh_cs v15 (
          some ((-9), Z3)
        ) (fun a17 =>
          xs_lt (xs_rf (Z3 35 a5)) fun v19 =>
          (v19).bind fun a21 =>
          some ((Z3 101 a21), Z3)
        )
      else
        if p2 = 2 then
          some ((Z3 36 a5), Z3)
        else
          if p2 = 3 then
            some ((Z3 37 a5), Z3)
          else
            if p2 = 4 then
              some ((Z3 38 a5), Z3)
            else
              if p2 = 5 then
                some ((Z3 39 a5), Z3)
              else
                if p2 = 6 then
                  some ((Z3 40 a5), Z3)
                else
                  xs_bnd (g_X9_refuse (-2) Z3) fun v41 Z42 =>
                  some (v41, Z42)
  )
set_option maxRecDepth 100000 in
theorem q_X9_lorryOf {w : Nat → Nat → Nat} {nf nl mb z1 n1 : Nat} {σ0 : bh_S} {lp : Nat → Nat} {np : Nat} (p1 : Int32) (p2 : Int32) {σ : bh_S} {Z : xs_S} (h : cv_R w nf nl mb z1 n1 σ0 lp np σ Z) : sm (cv_G w nf nl mb z1 n1 σ0 lp np) (f_X9_lorryOf (w 10 0) p1 p2 σ) (g_X9_lorryOf p1 p2 Z) := by
  unfold f_X9_lorryOf g_X9_lorryOf
  refine cv_ck h cv_z10 ?_
  refine sm_call (q_X9_lorryAt p1 h) ?_
  rintro _ σ3 v2 Z3 ⟨rfl, hv2, h⟩
  refine sm_cs (W := w 4) hv2 ?_ (fun a5 ha5 => ?_)
  · refine cv_ck h cv_z10 ?_
    refine sm_call (q_X9_refuse (-1) h) ?_
    rintro v8 σ9 _ Z9 ⟨rfl, h⟩
    exact sm_ret ⟨rfl, h⟩
  · refine sm_ite (fun h1 => ?_) (fun h1 => ?_)
    · refine cv_rdI (d := 34) h ha5 rfl rfl ?_
      exact sm_ret ⟨rfl, h⟩
    · refine sm_ite (fun h2 => ?_) (fun h2 => ?_)
      · refine cv_rdV (t := 7) (d := 35) h ha5 rfl (by decide) rfl (fun v15 hv15 => ?_)
        refine sm_cs (W := w 7) hv15 ?_ (fun a17 ha17 => ?_)
        · exact sm_ret ⟨rfl, h⟩
        · refine cv_rdV (t := 7) (d := 35) h ha5 rfl (by decide) rfl (fun v19 hv19 => ?_)
          refine sm_bv (W := w 7) hv19 (fun a21 ha21 => ?_)
          refine cv_rdI (d := 101) h ha21 rfl rfl ?_
          exact sm_ret ⟨rfl, h⟩
      · refine sm_ite (fun h3 => ?_) (fun h3 => ?_)
        · refine cv_rdI (d := 36) h ha5 rfl rfl ?_
          exact sm_ret ⟨rfl, h⟩
        · refine sm_ite (fun h4 => ?_) (fun h4 => ?_)
          · refine cv_rdI (d := 37) h ha5 rfl rfl ?_
            exact sm_ret ⟨rfl, h⟩
          · refine sm_ite (fun h5 => ?_) (fun h5 => ?_)
            · refine cv_rdI (d := 38) h ha5 rfl rfl ?_
              exact sm_ret ⟨rfl, h⟩
            · refine sm_ite (fun h6 => ?_) (fun h6 => ?_)
              · refine cv_rdI (d := 39) h ha5 rfl rfl ?_
                exact sm_ret ⟨rfl, h⟩
              · refine sm_ite (fun h7 => ?_) (fun h7 => ?_)
                · refine cv_rdI (d := 40) h ha5 rfl rfl ?_
                  exact sm_ret ⟨rfl, h⟩
                · refine cv_ck h cv_z10 ?_
                  refine sm_call (q_X9_refuse (-2) h) ?_
                  rintro v41 σ42 _ Z42 ⟨rfl, h⟩
                  exact sm_ret ⟨rfl, h⟩
/-! BeetHouse.load(II)I -/
def g_X9_load (p1 : Int32) (p2 : Int32) (Z : xs_S) : Option (Int32 × xs_S) :=
  if p1 < 0 then
    some ((-9), Z)
  else
    if p1 < (Z 44 0) then
      (xs_gt Z 44 p1).bind fun v24 =>
      if p2 = 0 then
        xs_lt (xs_rf (Z 41 v24)) fun v30 =>
        (v30).bind fun a32 =>
        some ((Z 101 a32), Z)
      else
        if p2 = 1 then
          some ((Z 42 v24), Z)
        else
          if p2 = 2 then
            some ((Z 43 v24), Z)
          else
            some ((-9), Z)
    else
      some ((-9), Z)
set_option maxRecDepth 100000 in
theorem q_X9_load {w : Nat → Nat → Nat} {nf nl mb z1 n1 : Nat} {σ0 : bh_S} {lp : Nat → Nat} {np : Nat} (p1 : Int32) (p2 : Int32) {σ : bh_S} {Z : xs_S} (h : cv_R w nf nl mb z1 n1 σ0 lp np σ Z) : sm (cv_G w nf nl mb z1 n1 σ0 lp np) (f_X9_load (w 10 0) p1 p2 σ) (g_X9_load p1 p2 Z) := by
  unfold f_X9_load g_X9_load
  refine sm_ite (fun h1 => ?_) (fun h1 => ?_)
  · exact sm_ret ⟨rfl, h⟩
  · refine cv_rdC (t := 9) (j := 0) h cv_z10 rfl ?_
    refine sm_nn ?_
    refine cv_rdC (t := 0) (j := 2) h cv_z9 rfl ?_
    refine sm_nn ?_
    refine cv_ck0 h (by decide) ?_
    refine cv_size (d := 44) h (by decide) rfl ?_
    refine sm_ite (fun h2 => ?_) (fun h2 => ?_)
    · refine cv_rdC (t := 9) (j := 0) h cv_z10 rfl ?_
      refine sm_nn ?_
      refine cv_rdC (t := 0) (j := 2) h cv_z9 rfl ?_
      refine sm_nn ?_
      refine cv_ck0 h (by decide) ?_
      refine cv_get2 h (fun v24 hv24 => ?_)
      refine cv_cst3 h hv24 ?_
      refine sm_ite (fun h3 => ?_) (fun h3 => ?_)
      · refine sm_nn ?_
        refine cv_rdV3 h hv24 (fun v30 hv30 => ?_)
        refine sm_bv (W := w 7) hv30 (fun a32 ha32 => ?_)
        refine cv_rdI (d := 101) h ha32 rfl rfl ?_
        exact sm_ret ⟨rfl, h⟩
      · refine sm_ite (fun h4 => ?_) (fun h4 => ?_)
        · refine sm_nn ?_
          refine cv_rdI3 (d := 42) h hv24 (Or.inl rfl) rfl ?_
          exact sm_ret ⟨rfl, h⟩
        · refine sm_ite (fun h5 => ?_) (fun h5 => ?_)
          · refine sm_nn ?_
            refine cv_rdI3 (d := 43) h hv24 (Or.inr rfl) rfl ?_
            exact sm_ret ⟨rfl, h⟩
          · exact sm_ret ⟨rfl, h⟩
    · exact sm_ret ⟨rfl, h⟩
/-! BeetHouse.coins(I)I -/
def g_X9_coins (p1 : Int32) (Z : xs_S) : Option (Int32 × xs_S) :=
  xs_bnd (g_X9_farmerAt p1 Z) fun v2 Z3 =>
  bh_cs v2 (
    xs_bnd (g_X9_refuse (-1) Z3) fun v8 Z9 =>
    some (v8, Z9)
  ) (fun a5 =>
    some ((Z3 2 a5), Z3)
  )
set_option maxRecDepth 100000 in
theorem q_X9_coins {w : Nat → Nat → Nat} {nf nl mb z1 n1 : Nat} {σ0 : bh_S} {lp : Nat → Nat} {np : Nat} (p1 : Int32) {σ : bh_S} {Z : xs_S} (h : cv_R w nf nl mb z1 n1 σ0 lp np σ Z) : sm (cv_G w nf nl mb z1 n1 σ0 lp np) (f_X9_coins (w 10 0) p1 σ) (g_X9_coins p1 Z) := by
  unfold f_X9_coins g_X9_coins
  refine cv_ck h cv_z10 ?_
  refine sm_call (q_X9_farmerAt p1 h) ?_
  rintro _ σ3 v2 Z3 ⟨rfl, hv2, h⟩
  refine sm_cs (W := w 1) hv2 ?_ (fun a5 ha5 => ?_)
  · refine cv_ck h cv_z10 ?_
    refine sm_call (q_X9_refuse (-1) h) ?_
    rintro v8 σ9 _ Z9 ⟨rfl, h⟩
    exact sm_ret ⟨rfl, h⟩
  · refine cv_rdI (d := 2) h ha5 rfl rfl ?_
    exact sm_ret ⟨rfl, h⟩
/-! BeetHouse.spoiledOfAll()I -/
def g_X9_spoiledOfAll_b4 (N : Nat) : Nat → Int32 → Int32 → xs_S → Option (Int32 × xs_S)
  | 0, _, _, _ => none
  | n + 1, x1, x2, Z =>
    if (Z 7 0) ≤ x2 then
      some (x1, Z)
    else
      (xs_gt Z 7 x2).bind fun v15 =>
      g_X9_spoiledOfAll_b4 N n (x1 + (Z 26 v15)) (x2 + 1) Z
set_option maxRecDepth 100000 in
theorem q_X9_spoiledOfAll_b4 {w : Nat → Nat → Nat} {nf nl mb z1 n1 : Nat} {σ0 : bh_S} {lp : Nat → Nat} {np : Nat} (N : Nat) : ∀ (n : Nat) (x1 : Int32) (x2 : Int32) (σ : bh_S) (Z : xs_S), cv_R w nf nl mb z1 n1 σ0 lp np σ Z → sm (cv_G w nf nl mb z1 n1 σ0 lp np) (f_X9_spoiledOfAll_b4 N n (w 10 0) x1 x2 σ) (g_X9_spoiledOfAll_b4 N n x1 x2 Z) := by
  intro n
  induction n with
  | zero => intro x1 x2  σ Z h; exact sm_none
  | succ n ih =>
    intro x1 x2  σ Z h
    unfold f_X9_spoiledOfAll_b4 g_X9_spoiledOfAll_b4
    refine cv_rdC (t := 0) (j := 0) h cv_z10 rfl ?_
    refine sm_nn ?_
    refine cv_ck0 h (by decide) ?_
    refine cv_size (d := 7) h (by decide) rfl ?_
    refine sm_ite (fun h1 => ?_) (fun h1 => ?_)
    · exact sm_ret ⟨rfl, h⟩
    · refine cv_rdC (t := 0) (j := 0) h cv_z10 rfl ?_
      refine sm_nn ?_
      refine cv_ck0 h (by decide) ?_
      refine cv_get0 h (fun v15 hv15 => ?_)
      refine cv_cst h hv15 ?_
      refine sm_nn ?_
      refine cv_rdI (d := 26) h hv15 rfl rfl ?_
      exact ih (x1 + (Z 26 v15)) (x2 + 1) σ Z h
def g_X9_spoiledOfAll (N : Nat)  (Z : xs_S) : Option (Int32 × xs_S) :=
  g_X9_spoiledOfAll_b4 N N 0 0 Z
set_option maxRecDepth 100000 in
theorem q_X9_spoiledOfAll {w : Nat → Nat → Nat} {nf nl mb z1 n1 : Nat} {σ0 : bh_S} {lp : Nat → Nat} {np : Nat} (N : Nat)  {σ : bh_S} {Z : xs_S} (h : cv_R w nf nl mb z1 n1 σ0 lp np σ Z) : sm (cv_G w nf nl mb z1 n1 σ0 lp np) (f_X9_spoiledOfAll N (w 10 0) σ) (g_X9_spoiledOfAll N  Z) := by
  unfold f_X9_spoiledOfAll g_X9_spoiledOfAll
  exact q_X9_spoiledOfAll_b4 N N 0 0 _ _ h
/-! BeetHouse.wasteOfAll()I -/
def g_X9_wasteOfAll_b4 (N : Nat) : Nat → Int32 → Int32 → xs_S → Option (Int32 × xs_S)
  | 0, _, _, _ => none
  | n + 1, x1, x2, Z =>
    if (Z 7 0) ≤ x2 then
      some (x1, Z)
    else
      (xs_gt Z 7 x2).bind fun v15 =>
      g_X9_wasteOfAll_b4 N n (x1 + (Z 25 v15)) (x2 + 1) Z
set_option maxRecDepth 100000 in
theorem q_X9_wasteOfAll_b4 {w : Nat → Nat → Nat} {nf nl mb z1 n1 : Nat} {σ0 : bh_S} {lp : Nat → Nat} {np : Nat} (N : Nat) : ∀ (n : Nat) (x1 : Int32) (x2 : Int32) (σ : bh_S) (Z : xs_S), cv_R w nf nl mb z1 n1 σ0 lp np σ Z → sm (cv_G w nf nl mb z1 n1 σ0 lp np) (f_X9_wasteOfAll_b4 N n (w 10 0) x1 x2 σ) (g_X9_wasteOfAll_b4 N n x1 x2 Z) := by
  intro n
  induction n with
  | zero => intro x1 x2  σ Z h; exact sm_none
  | succ n ih =>
    intro x1 x2  σ Z h
    unfold f_X9_wasteOfAll_b4 g_X9_wasteOfAll_b4
    refine cv_rdC (t := 0) (j := 0) h cv_z10 rfl ?_
    refine sm_nn ?_
    refine cv_ck0 h (by decide) ?_
    refine cv_size (d := 7) h (by decide) rfl ?_
    refine sm_ite (fun h1 => ?_) (fun h1 => ?_)
    · exact sm_ret ⟨rfl, h⟩
    · refine cv_rdC (t := 0) (j := 0) h cv_z10 rfl ?_
      refine sm_nn ?_
      refine cv_ck0 h (by decide) ?_
      refine cv_get0 h (fun v15 hv15 => ?_)
      refine cv_cst h hv15 ?_
      refine sm_nn ?_
      refine cv_rdI (d := 25) h hv15 rfl rfl ?_
      exact ih (x1 + (Z 25 v15)) (x2 + 1) σ Z h
def g_X9_wasteOfAll (N : Nat)  (Z : xs_S) : Option (Int32 × xs_S) :=
  g_X9_wasteOfAll_b4 N N 0 0 Z
set_option maxRecDepth 100000 in
theorem q_X9_wasteOfAll {w : Nat → Nat → Nat} {nf nl mb z1 n1 : Nat} {σ0 : bh_S} {lp : Nat → Nat} {np : Nat} (N : Nat)  {σ : bh_S} {Z : xs_S} (h : cv_R w nf nl mb z1 n1 σ0 lp np σ Z) : sm (cv_G w nf nl mb z1 n1 σ0 lp np) (f_X9_wasteOfAll N (w 10 0) σ) (g_X9_wasteOfAll N  Z) := by
  unfold f_X9_wasteOfAll g_X9_wasteOfAll
  exact q_X9_wasteOfAll_b4 N N 0 0 _ _ h
/-! BeetHouse.count(I)I -/
def g_X9_count_b22 (N : Nat) (x1 : Int32) (Z : xs_S) : Option (Int32 × xs_S) :=
  if x1 = 0 then
    some ((Z 6 0), Z)
  else
    if x1 = 1 then
      some ((Z 7 0), Z)
    else
      if x1 = 2 then
        some ((Z 8 0), Z)
      else
        if x1 = 3 then
          some ((Z 60 0), Z)
        else
          if x1 = 4 then
            some ((Z 11 0), Z)
          else
            if x1 = 5 then
              some ((Z 12 0), Z)
            else
              if x1 = 6 then
                some ((Z 13 0), Z)
              else
                if x1 = 7 then
                  some ((Z 14 0), Z)
                else
                  if x1 = 8 then
                    xs_bnd (g_X9_wasteOfAll N Z) fun v59 Z60 =>
                    some (v59, Z60)
                  else
                    if x1 = 9 then
                      xs_bnd (g_X9_spoiledOfAll N Z) fun v64 Z65 =>
                      some (v64, Z65)
                    else
                      if x1 = 10 then
                        some ((-9), Z)
                      else
                        if x1 = 11 then
                          some ((-9), Z)
                        else
                          if x1 = 12 then
                            some ((-9), Z)
                          else
                            if x1 = 13 then
                              some ((-9), Z)
                            else
                              if x1 = 14 then
                                some ((-9), Z)
                              else
                                if x1 = 15 then
                                  some ((-9), Z)
                                else
                                  if x1 = 16 then
                                    some ((-9), Z)
                                  else
                                    if x1 = 17 then
                                      if (Z 17 0) = 0 then
                                        some (0, Z)
                                      else
                                        some (1, Z)
                                    else
                                      some ((-9), Z)
set_option maxRecDepth 100000 in
theorem q_X9_count_b22 {w : Nat → Nat → Nat} {nf nl mb z1 n1 : Nat} {σ0 : bh_S} {lp : Nat → Nat} {np : Nat} (N : Nat) (x1 : Int32) {σ : bh_S} {Z : xs_S} (h : cv_R w nf nl mb z1 n1 σ0 lp np σ Z) : sm (cv_G w nf nl mb z1 n1 σ0 lp np) (f_X9_count_b22 N (w 10 0) x1 σ) (g_X9_count_b22 N x1 Z) := by
  unfold f_X9_count_b22 g_X9_count_b22
  refine sm_ite (fun h1 => ?_) (fun h1 => ?_)
  · refine cv_rdI (d := 6) h cv_z10 rfl rfl ?_
    exact sm_ret ⟨rfl, h⟩
  · refine sm_ite (fun h2 => ?_) (fun h2 => ?_)
    · refine cv_rdC (t := 0) (j := 0) h cv_z10 rfl ?_
      refine sm_nn ?_
      refine cv_ck0 h (by decide) ?_
      refine cv_size (d := 7) h (by decide) rfl ?_
      exact sm_ret ⟨rfl, h⟩
    · refine sm_ite (fun h3 => ?_) (fun h3 => ?_)
      · refine cv_rdC (t := 0) (j := 1) h cv_z10 rfl ?_
        refine sm_nn ?_
        refine cv_ck0 h (by decide) ?_
        refine cv_size (d := 8) h (by decide) rfl ?_
        exact sm_ret ⟨rfl, h⟩
      · refine sm_ite (fun h4 => ?_) (fun h4 => ?_)
        · refine cv_rdC (t := 9) (j := 0) h cv_z10 rfl ?_
          refine sm_nn ?_
          refine cv_rdI (d := 60) h cv_z9 rfl rfl ?_
          exact sm_ret ⟨rfl, h⟩
        · refine sm_ite (fun h5 => ?_) (fun h5 => ?_)
          · refine cv_rdC (t := 5) (j := 0) h cv_z10 rfl ?_
            refine sm_nn ?_
            refine cv_rdI (d := 11) h cv_z5 rfl rfl ?_
            exact sm_ret ⟨rfl, h⟩
          · refine sm_ite (fun h6 => ?_) (fun h6 => ?_)
            · refine cv_rdC (t := 5) (j := 0) h cv_z10 rfl ?_
              refine sm_nn ?_
              refine cv_rdI (d := 12) h cv_z5 rfl rfl ?_
              exact sm_ret ⟨rfl, h⟩
            · refine sm_ite (fun h7 => ?_) (fun h7 => ?_)
              · refine cv_rdC (t := 5) (j := 0) h cv_z10 rfl ?_
                refine sm_nn ?_
                refine cv_rdI (d := 13) h cv_z5 rfl rfl ?_
                exact sm_ret ⟨rfl, h⟩
              · refine sm_ite (fun h8 => ?_) (fun h8 => ?_)
                · refine cv_rdC (t := 5) (j := 0) h cv_z10 rfl ?_
                  refine sm_nn ?_
                  refine cv_rdI (d := 14) h cv_z5 rfl rfl ?_
                  exact sm_ret ⟨rfl, h⟩
                · refine sm_ite (fun h9 => ?_) (fun h9 => ?_)
                  · refine cv_ck h cv_z10 ?_
                    refine sm_call (q_X9_wasteOfAll N h) ?_
                    rintro v59 σ60 _ Z60 ⟨rfl, h⟩
                    exact sm_ret ⟨rfl, h⟩
                  · refine sm_ite (fun h10 => ?_) (fun h10 => ?_)
                    · refine cv_ck h cv_z10 ?_
                      refine sm_call (q_X9_spoiledOfAll N h) ?_
                      rintro v64 σ65 _ Z65 ⟨rfl, h⟩
                      exact sm_ret ⟨rfl, h⟩
                    · refine sm_ite (fun h11 => ?_) (fun h11 => ?_)
                      · exact sm_ret ⟨rfl, h⟩
                      · refine sm_ite (fun h12 => ?_) (fun h12 => ?_)
                        · exact sm_ret ⟨rfl, h⟩
                        · refine sm_ite (fun h13 => ?_) (fun h13 => ?_)
                          · exact sm_ret ⟨rfl, h⟩
                          · refine sm_ite (fun h14 => ?_) (fun h14 => ?_)
                            · exact sm_ret ⟨rfl, h⟩
                            · refine sm_ite (fun h15 => ?_) (fun h15 => ?_)
                              · exact sm_ret ⟨rfl, h⟩
                              · refine sm_ite (fun h16 => ?_) (fun h16 => ?_)
                                · exact sm_ret ⟨rfl, h⟩
                                · refine sm_ite (fun h17 => ?_) (fun h17 => ?_)
                                  · exact sm_ret ⟨rfl, h⟩
                                  · refine sm_ite (fun h18 => ?_) (fun h18 => ?_)
                                    · refine cv_rdI (d := 17) h cv_z10 rfl rfl ?_
                                      refine sm_ite (fun h19 => ?_) (fun h19 => ?_)
                                      · exact sm_ret ⟨rfl, h⟩
                                      · exact sm_ret ⟨rfl, h⟩
                                    · exact sm_ret ⟨rfl, h⟩
def g_X9_count (N : Nat) (p1 : Int32) (Z : xs_S) : Option (Int32 × xs_S) :=
  if p1 < 11 then
    g_X9_count_b22 N p1 Z
  else
    if 16 < p1 then
      g_X9_count_b22 N p1 Z
    else
      (xs_ld 7 Z 0 (p1 - 10)).bind fun v7 =>
      some (v7, Z)
set_option maxRecDepth 100000 in
theorem q_X9_count {w : Nat → Nat → Nat} {nf nl mb z1 n1 : Nat} {σ0 : bh_S} {lp : Nat → Nat} {np : Nat} (N : Nat) (p1 : Int32) {σ : bh_S} {Z : xs_S} (h : cv_R w nf nl mb z1 n1 σ0 lp np σ Z) : sm (cv_G w nf nl mb z1 n1 σ0 lp np) (f_X9_count N (w 10 0) p1 σ) (g_X9_count N p1 Z) := by
  unfold f_X9_count g_X9_count
  refine sm_ite (fun h1 => ?_) (fun h1 => ?_)
  · exact q_X9_count_b22 N p1 h
  · refine sm_ite (fun h2 => ?_) (fun h2 => ?_)
    · exact q_X9_count_b22 N p1 h
    · refine cv_rdC (t := 12) (j := 1) h cv_z10 rfl ?_
      refine sm_nn ?_
      refine cv_ldA h (by decide) rfl rfl (fun v7 => ?_)
      exact sm_ret ⟨rfl, h⟩
def g_X9_field_b35  (Z : xs_S) : Option (Int32 × xs_S) :=
  xs_bnd (g_X9_refuse (-4) Z) fun v2 Z3 =>
  some (v2, Z3)
set_option maxRecDepth 100000 in
theorem q_X9_field_b35 {w : Nat → Nat → Nat} {nf nl mb z1 n1 : Nat} {σ0 : bh_S} {lp : Nat → Nat} {np : Nat}  {σ : bh_S} {Z : xs_S} (h : cv_R w nf nl mb z1 n1 σ0 lp np σ Z) : sm (cv_Gw w mb z1 n1 σ0) (f_X9_field_b35 (w 10 0) σ) (g_X9_field_b35  Z) := by
  unfold f_X9_field_b35 g_X9_field_b35
  refine cv_ck h cv_z10 ?_
  refine sm_call (q_X9_refuse (-4) h) ?_
  rintro v2 σ3 _ Z3 ⟨rfl, h⟩
  exact sm_ret ⟨rfl, _, _, _, _, _, rfl, h⟩
def g_X9_field_b75  (Z : xs_S) : Option (Int32 × xs_S) :=
  xs_bnd (g_X9_refuse (-6) Z) fun v2 Z3 =>
  some (v2, Z3)
set_option maxRecDepth 100000 in
theorem q_X9_field_b75 {w : Nat → Nat → Nat} {nf nl mb z1 n1 : Nat} {σ0 : bh_S} {lp : Nat → Nat} {np : Nat}  {σ : bh_S} {Z : xs_S} (h : cv_R w nf nl mb z1 n1 σ0 lp np σ Z) : sm (cv_Gw w mb z1 n1 σ0) (f_X9_field_b75 (w 10 0) σ) (g_X9_field_b75  Z) := by
  unfold f_X9_field_b75 g_X9_field_b75
  refine cv_ck h cv_z10 ?_
  refine sm_call (q_X9_refuse (-6) h) ?_
  rintro v2 σ3 _ Z3 ⟨rfl, h⟩
  exact sm_ret ⟨rfl, _, _, _, _, _, rfl, h⟩
def g_X9_lorry_b30  (Z : xs_S) : Option (Int32 × xs_S) :=
  xs_bnd (g_X9_refuse (-6) Z) fun v2 Z3 =>
  some (v2, Z3)
set_option maxRecDepth 100000 in
theorem q_X9_lorry_b30 {w : Nat → Nat → Nat} {nf nl mb z1 n1 : Nat} {σ0 : bh_S} {lp : Nat → Nat} {np : Nat}  {σ : bh_S} {Z : xs_S} (h : cv_R w nf nl mb z1 n1 σ0 lp np σ Z) : sm (cv_Gw w mb z1 n1 σ0) (f_X9_lorry_b30 (w 10 0) σ) (g_X9_lorry_b30  Z) := by
  unfold f_X9_lorry_b30 g_X9_lorry_b30
  refine cv_ck h cv_z10 ?_
  refine sm_call (q_X9_refuse (-6) h) ?_
  rintro v2 σ3 _ Z3 ⟨rfl, h⟩
  exact sm_ret ⟨rfl, _, _, _, _, _, rfl, h⟩
def g_X9_unloadOne_b57 (x1 : Nat) (Z : xs_S) : Option (Unit × xs_S) :=
  xs_bnd (g_X3_comeHome x1 Z) fun v2 Z3 =>
  some ((), Z3)
set_option maxRecDepth 100000 in
theorem q_X9_unloadOne_b57 {w : Nat → Nat → Nat} {nf nl mb z1 n1 : Nat} {σ0 : bh_S} (x1 : Nat) (hx1 : x1 < cv_cn nf nl 4) {lp : Nat → Nat} {np : Nat} {σ : bh_S} {Z : xs_S} (h : cv_R w nf nl mb z1 n1 σ0 lp np σ Z) : sm (cv_Gx w nf nl mb z1 n1 σ0) (f_X9_unloadOne_b57 (w 10 0) (w 4 x1) σ) (g_X9_unloadOne_b57 x1 Z) := by
  unfold f_X9_unloadOne_b57 g_X9_unloadOne_b57
  refine cv_ck h hx1 ?_
  refine sm_call (q_X3_comeHome x1 hx1 h) ?_
  rintro v2 σ3 _ Z3 ⟨rfl, h⟩
  exact sm_ret ⟨rfl, _, _, h⟩
def f_X9_field_new (l a5 : Nat) (v31 p2 p3 p4 p5 : Int32) (σ : bh_S) : Option (Int32 × bh_S) :=
  bh_bnd (bh_newO σ 7 14) fun a36 σ37 =>
  bh_bnd (f_X6_init a36 v31 a5 p2 p3 p4 p5 σ37) fun v39 σ40 =>
  (some l).bind fun a42 =>
  (bh_ck σ40 a42 0).bind fun _ =>
  bh_bnd (f_Jx4a65c_add_9ea2d a42 a36 σ40) fun v45 σ46 =>
  some (v31, σ46)
def f_X9_lorry_new (this l : Nat) (p1 : Int32) (σ : bh_S) : Option (Int32 × bh_S) :=
  bh_bnd (bh_newO σ 4 8) fun a14 σ15 =>
  bh_bnd (f_X3_init a14 p1 σ15) fun v17 σ18 =>
  (some l).bind fun a20 =>
  (bh_ck σ18 a20 0).bind fun _ =>
  bh_bnd (f_Jx4a65c_add_9ea2d a20 a14 σ18) fun v23 σ24 =>
  (bh_rdR σ24 10 this 3).bind fun v26 =>
  (v26).bind fun a28 =>
  (bh_ck σ24 a28 0).bind fun _ =>
  bh_bnd (f_Jx4a65c_size_8abf5 a28 σ24) fun v31 σ32 =>
  some (v31 - 1, σ32)
def f_X9_unloadOne_new (this p1 : Nat) (σ : bh_S) : Option (Unit × bh_S) :=
  bh_bnd (bh_newO σ 3 3) fun a8 σ9 =>
  (bh_rdR σ9 4 p1 2).bind fun v11 =>
  (bh_rdI σ9 4 p1 4).bind fun v13 =>
  (bh_rdI σ9 4 p1 5).bind fun v15 =>
  (v11).bind fun a17 =>
  bh_bnd (f_X2_init a8 a17 v13 v15 σ9) fun v19 σ20 =>
  (bh_rdR σ20 10 this 5).bind fun v22 =>
  (v22).bind fun a24 =>
  (bh_ck σ20 a24 9).bind fun _ =>
  bh_bnd (f_X8_take a24 a8 σ20) fun v27 σ28 =>
  (bh_ck σ28 this 10).bind fun _ =>
  bh_bnd (f_X9_pay this a8 σ28) fun v31 σ32 =>
  (bh_rdI σ32 4 p1 7).bind fun v34 =>
  (bh_wrI σ32 4 p1 7 (v34 + 1)).bind fun σ36 =>
  f_X9_unloadOne_b57 this p1 σ36
def f_X8_take2 (this p1 : Nat) (σ : bh_S) : Option (Unit × bh_S) :=
  (bh_rdI σ 9 this 2).bind fun v9 =>
  (bh_rdI σ 3 p1 1).bind fun v11 =>
  (bh_wrI σ 9 this 2 (v9 + v11)).bind fun σ13 =>
  (bh_rdI σ13 9 this 3).bind fun v15 =>
  (bh_rdI σ13 3 p1 1).bind fun v17 =>
  (bh_wrI σ13 9 this 3 (v15 + v17)).bind fun σ19 =>
  (bh_rdR σ19 3 p1 0).bind fun v21 =>
  (v21).bind fun a23 =>
  (bh_rdI σ19 7 a23 13).bind fun v25 =>
  (bh_rdI σ19 3 p1 1).bind fun v27 =>
  (bh_wrI σ19 7 a23 13 (v25 + v27)).bind fun σ29 =>
  (bh_rdR σ29 3 p1 0).bind fun v31 =>
  (v31).bind fun a33 =>
  (bh_rdR σ29 7 a33 1).bind fun v35 =>
  (v35).bind fun a37 =>
  (bh_rdI σ29 1 a37 3).bind fun v39 =>
  (bh_rdI σ29 3 p1 1).bind fun v41 =>
  (bh_wrI σ29 1 a37 3 (v39 + v41)).bind fun σ43 =>
  some ((), σ43)
def g_X8_take2 (p1 : Nat) (Z : xs_S) : Option (Unit × xs_S) :=
  xs_lt (xs_up Z 60 0 ((Z 60 0) + (Z 42 p1))) fun Z13 =>
  xs_lt (xs_up Z13 61 0 ((Z13 61 0) + (Z13 42 p1))) fun Z19 =>
  xs_lt (xs_rf (Z19 41 p1)) fun v21 =>
  (v21).bind fun a23 =>
  xs_lt (xs_up Z19 27 a23 ((Z19 27 a23) + (Z19 42 p1))) fun Z29 =>
  xs_lt (xs_rf (Z29 41 p1)) fun v31 =>
  (v31).bind fun a33 =>
  xs_lt (xs_rf (Z29 18 a33)) fun v35 =>
  (v35).bind fun a37 =>
  xs_lt (xs_up Z29 62 a37 ((Z29 62 a37) + (Z29 42 p1))) fun Z43 =>
  some ((), Z43)
set_option maxRecDepth 100000 in
theorem q_X8_take2 {w : Nat → Nat → Nat} {nf nl mb z1 n1 : Nat} {σ0 : bh_S} {lp : Nat → Nat} {np : Nat} (p1 : Nat) (hp1 : p1 < np) {σ : bh_S} {Z : xs_S} (h : cv_R w nf nl mb z1 n1 σ0 lp np σ Z) : sm (cv_G w nf nl mb z1 n1 σ0 lp np) (f_X8_take2 (w 9 0) (lp p1) σ) (g_X8_take2 p1 Z) := by
  unfold f_X8_take2 g_X8_take2
  refine cv_rdI (d := 60) h cv_z9 rfl rfl ?_
  refine cv_rdI3 (d := 42) h hp1 (Or.inl rfl) rfl ?_
  refine cv_wrI (d := 60) h cv_z9 rfl rfl (fun σ13 Z13 h => ?_)
  refine cv_rdI (d := 61) h cv_z9 rfl rfl ?_
  refine cv_rdI3 (d := 42) h hp1 (Or.inl rfl) rfl ?_
  refine cv_wrI (d := 61) h cv_z9 rfl rfl (fun σ19 Z19 h => ?_)
  refine cv_rdV3 h hp1 (fun v21 hv21 => ?_)
  refine sm_bv (W := w 7) hv21 (fun a23 ha23 => ?_)
  refine cv_rdI (d := 27) h ha23 rfl rfl ?_
  refine cv_rdI3 (d := 42) h hp1 (Or.inl rfl) rfl ?_
  refine cv_wrI (d := 27) h ha23 rfl rfl (fun σ29 Z29 h => ?_)
  refine cv_rdV3 h hp1 (fun v31 hv31 => ?_)
  refine sm_bv (W := w 7) hv31 (fun a33 ha33 => ?_)
  refine cv_rdV (t := 1) (d := 18) h ha33 rfl (by decide) rfl (fun v35 hv35 => ?_)
  refine sm_bv (W := w 1) hv35 (fun a37 ha37 => ?_)
  refine cv_rdI (d := 62) h ha37 rfl rfl ?_
  refine cv_rdI3 (d := 42) h hp1 (Or.inl rfl) rfl ?_
  refine cv_wrI (d := 62) h ha37 rfl rfl (fun σ43 Z43 h => ?_)
  exact sm_ret ⟨rfl, h⟩
