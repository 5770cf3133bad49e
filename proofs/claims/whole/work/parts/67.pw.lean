/-! ===== the pure side: waste, spoiling, hours ===== -/
def wv (s t : Int32) : Int32 := ((s.toInt64 * t.toInt64) / 1000).toInt32
theorem wv0 {s : Int32} : wv s 0 = 0 := by
  unfold wv
  rw [show (0 : Int32).toInt64 = 0 by decide, Int64.mul_zero]
  decide
theorem wv_le {s t : Int32} (hs : 0 ≤ s.toInt) (ht : 0 ≤ t.toInt) (ht2 : t.toInt ≤ 1000) : 0 ≤ (wv s t).toInt ∧ (wv s t).toInt ≤ s.toInt := i64_part (r := 1000) hs ht (by decide) ht2
/-- what a day takes -/
def WO (Z : xs_S) (f : Nat) (s t : Int32) : Int32 := if Z 30 f = 0 then (if Z 24 f = -9 then (if Z 29 f = 0 then wv s t else wv s (t / 2)) else wv s (bh_min (3 * t) 1000)) else 0
section PW
variable {nf nl np : Nat} {Z Y : xs_S} {b cc : Int32} {N : Nat}
theorem ev_woC {f : Nat} {s t : Int32} : g_X6_wasteOf f s t Z = some (WO Z f s t, Z) := by
  unfold g_X6_wasteOf g_X6_wasteOf_b47 WO
  by_cases c1 : Z 30 f = 0
  · rw [if_pos c1, if_pos c1]
    by_cases c2 : Z 24 f = -9
    · rw [if_pos c2, if_pos c2]
      by_cases c3 : Z 29 f = 0
      · rw [if_pos c3, if_pos c3]; rfl
      · rw [if_neg c3, if_neg c3]; rfl
    · rw [if_neg c2, if_neg c2]; rfl
  · rw [if_neg c1, if_neg c1]
    show some (wv s 0, Z) = _
    rw [wv0]
theorem ev_woM {f d : Nat} {s : Int32} (hB : PB nf Z) (hf : f < 16) (hd : d < 100) : g_X10_wasteOf (Int32.ofNat f) s (Int32.ofNat d) (xs_mg Z Y) = some (WO Z f s (Z 4 (Z 3 d).toNatClampNeg), xs_mg Z Y) := by
  have q := hB.1 d hd
  obtain ⟨j, hj, ej⟩ := i32_inI (p := Z 3 d) (n := 10) q.1 (by omega)
  unfold g_X10_wasteOf g_X10_wasteOf_b65 WO
  rw [ld_ok hf (by decide)]
  simp only [xs_bnd_some, xs_lt_eq, Option.bind_some, bh_cs_n, bh_cs_s, if_true, if_false, i32_10, xs_retZ1, xs_retZ0, mg_30]
  by_cases c1 : Z 30 f = 0
  · rw [if_pos c1, if_pos c1, ld_ok hd (by decide)]
    simp only [xs_bnd_some, xs_lt_eq, Option.bind_some, bh_cs_n, bh_cs_s, if_true, if_false, i32_10, xs_retZ1, xs_retZ0, mg_3]
    rw [ej, ld_ok hj (by decide), i32_natof (by omega)]
    simp only [xs_bnd_some, xs_lt_eq, Option.bind_some, bh_cs_n, bh_cs_s, if_true, if_false, i32_10, xs_retZ1, xs_retZ0, mg_4]
    rw [ld_ok hf (by decide)]
    simp only [xs_bnd_some, xs_lt_eq, Option.bind_some, bh_cs_n, bh_cs_s, if_true, if_false, i32_10, xs_retZ1, xs_retZ0, mg_24]
    by_cases c2 : Z 24 f = -9
    · rw [if_pos c2, if_pos c2, ld_ok hf (by decide)]
      simp only [xs_bnd_some, xs_lt_eq, Option.bind_some, bh_cs_n, bh_cs_s, if_true, if_false, i32_10, xs_retZ1, xs_retZ0, mg_29]
      by_cases c3 : Z 29 f = 0
      · rw [if_pos c3, if_pos c3]; rfl
      · rw [if_neg c3, if_neg c3]; rfl
    · rw [if_neg c2, if_neg c2, bmin_comm]; rfl
  · rw [if_neg c1, if_neg c1]
theorem ev_number {d : Nat} (hB : PB nf Z) (hd : d < 100) : g_X7_numberOf (Int32.ofNat d) Z = some (Z 4 (Z 3 d).toNatClampNeg, Z) := by
  have q := hB.1 d hd
  obtain ⟨j, hj, ej⟩ := i32_inI (p := Z 3 d) (n := 10) q.1 (by omega)
  unfold g_X7_numberOf
  rw [if_neg (i32_nneg (by omega)), if_pos (show Int32.ofNat d < 100 from (i32_oflt (n := 100) (by omega) (by decide)).mpr hd), ld_ok hd (by decide)]
  simp only [xs_bnd_some, xs_lt_eq, Option.bind_some, bh_cs_n, bh_cs_s, if_true, if_false, i32_10, xs_retZ1, xs_retZ0]
  rw [ej, if_neg (i32_nneg (by omega)), if_neg (show ¬ (10 : Int32) ≤ Int32.ofNat j from ev_nle (m := 10) rfl (by decide) hj), ld_ok hj (by decide), i32_natof (by omega)]
  rfl
theorem WO_le {f : Nat} {s t : Int32} (hs : 0 ≤ s.toInt) (ht : 0 ≤ t.toInt ∧ t.toInt ≤ 100) : 0 ≤ (WO Z f s t).toInt ∧ (WO Z f s t).toInt ≤ s.toInt := by
  have z0 : (0 : Int32).toInt = 0 := by decide
  have e2 : (t / 2).toInt = t.toInt / 2 := by
    rw [i32_div (by omega)]
    show t.toInt.tdiv 2 = _
    exact Int.tdiv_eq_ediv_of_nonneg ht.1
  have e3 : (3 * t).toInt = 3 * t.toInt := i32_mul (a := 3) (by show _ ≤ 3 * t.toInt; omega) (by show 3 * t.toInt < _; omega)
  have e4 : (bh_min (3 * t) 1000).toInt = min (3 * t.toInt) 1000 := by
    rw [bmin_toInt, e3]
    rfl
  unfold WO
  by_cases c1 : Z 30 f = 0
  · rw [if_pos c1]
    by_cases c2 : Z 24 f = -9
    · rw [if_pos c2]
      by_cases c3 : Z 29 f = 0
      · rw [if_pos c3]; exact wv_le hs ht.1 (by omega)
      · rw [if_neg c3]; exact wv_le hs (by omega) (by omega)
    · rw [if_neg c2]; exact wv_le hs (by omega) (by omega)
  · rw [if_neg c1]; omega
theorem RI.waste (h : RI nf nl np Z Y) {f : Nat} {v : Int32} (hf : f < nf) (hv : 0 ≤ v.toInt ∧ v.toInt ≤ (Z 23 f).toInt) : RI nf nl np (xs_up (xs_up Z 23 f (Z 23 f - v)) 25 f (Z 25 f + v)) (xs_up Y 15 0 (Y 15 0 + v)) := by
  obtain ⟨⟨hA, hB, hC, hD, hG, hL, hY, hS, hT⟩, h15, h16⟩ := h
  have q := hC f hf
  have h2 := q.2.2.1
  have h1 := q.2.1
  have e : (Z 23 f - v).toInt = (Z 23 f).toInt - v.toInt := i32_sub (by omega) (by omega)
  refine ⟨⟨hA, hB, fun i hi => ?_, ⟨fun i hi => ?_, hD.2⟩, hG, hL, hY, hS, hT⟩, ?_, h16⟩
  · show HP (Z 18 i) (Z 19 i) (Z 20 i) (Z 21 i) (Z 22 i) (xs_up Z 23 f (Z 23 f - v) 23 i) (Z 28 i) (Z 29 i) (Z 30 i)
    by_cases c : i = f
    · subst c
      rw [xs_up_eq]
      exact ⟨q.1, q.2.1, by rw [e]; omega, q.2.2.2⟩
    · rw [xs_up_ni c]
      exact hC i hi
  · show Z 22 i = 0 ∧ xs_up Z 23 f (Z 23 f - v) 23 i = 0 ∧ xs_up Z 25 f (Z 25 f + v) 25 i = 0 ∧ Z 26 i = 0 ∧ Z 27 i = 0 ∧ Z 29 i = 0 ∧ Z 30 i = 0
    have c : i ≠ f := by omega
    rw [xs_up_ni c, xs_up_ni c]
    exact hD.1 i hi
  · show Y 15 0 + v = sI (xs_up Z 25 f (Z 25 f + v) 25) nf
    rw [h15]
    exact (sI_add (d := v) hf xs_up_eq (fun i hi hne => xs_up_ni hne)).symm
theorem pe_wst {d0 : Nat} {t : Int32} (hd0 : d0 < 100) : ∀ (d j n1 n2 : Nat) (Z Y : xs_S), RI nf nl np Z Y → (Z 6 0 = b ∧ Z 11 0 = cc) → (b - b / 24 * 24 = 0) → (b / 24 - 1 = Int32.ofNat d0) → t = Z 4 (Z 3 d0).toNatClampNeg → j + d = nf → d < n1 → d < n2 → ∃ Z' Y', g_X9_wasteHeaps_b19 N n1 t (Int32.ofNat j) Z = some ((), Z') ∧ g_X10_ends_b2 N n2 (Int32.ofNat j) (xs_mg Z Y) = g_X10_ends_b77 N (xs_mg Z' Y') ∧ (Z' 6 0 = b ∧ Z' 11 0 = cc) ∧ RI nf nl np Z' Y' := by
  intro d
  induction d with
  | zero =>
    intro j n1 n2 Z Y h h6 h24 hd ht hj h1 h2
    obtain ⟨m1, rfl⟩ : ∃ m, n1 = m + 1 := ⟨n1 - 1, by omega⟩
    obtain ⟨m2, rfl⟩ : ∃ m, n2 = m + 1 := ⟨n2 - 1, by omega⟩
    have h7 : Z 7 0 = Int32.ofNat nf := h.1.1.2.1.1
    have hn : nf ≤ 16 := h.1.1.1.1
    unfold g_X9_wasteHeaps_b19 g_X10_ends_b2
    rw [if_pos (ev_le h7 (by omega) (by omega) (by omega)), if_pos (ev_le (v := xs_mg Z Y 7 0) h7 (by omega) (by omega) (by omega))]
    exact ⟨Z, Y, rfl, rfl, h6, h⟩
  | succ d ih =>
    intro j n1 n2 Z Y h h6 h24 hd ht hj h1 h2
    obtain ⟨m1, rfl⟩ : ∃ m, n1 = m + 1 := ⟨n1 - 1, by omega⟩
    obtain ⟨m2, rfl⟩ : ∃ m, n2 = m + 1 := ⟨n2 - 1, by omega⟩
    obtain ⟨hA, hB, hC, hD, hG, hL, hY, hS, hT⟩ := h.1
    have h7 : Z 7 0 = Int32.ofNat nf := hA.2.1.1
    have hn : nf ≤ 16 := hA.1.1
    have hjf : j < nf := by omega
    have hj16 : j < 16 := by omega
    have e6 : xs_mg Z Y 6 0 = b := h6.1
    unfold g_X9_wasteHeaps_b19 g_X10_ends_b2 g_X6_waste
    rw [if_neg (ev_nle h7 (by omega) (by omega)), if_neg (ev_nle (v := xs_mg Z Y 7 0) h7 (by omega) (by omega)), e6, if_pos h24, gt_ok h7 hjf (by omega), ld_ok hj16 (by decide), hd]
    simp only [xs_bnd_some, xs_lt_eq, Option.bind_some, bh_cs_n, bh_cs_s, if_true, if_false, i32_10, xs_retZ1, xs_retZ0, mg_23]
    rw [ev_woC, ev_woM hB hj16 hd0, ← ht]
    simp only [xs_bnd_some, xs_lt_eq, Option.bind_some, bh_cs_n, bh_cs_s, if_true, if_false, i32_10, xs_retZ1, xs_retZ0]
    rw [ld_ok hj16 (by decide)]
    simp only [xs_bnd_some, xs_lt_eq, Option.bind_some, bh_cs_n, bh_cs_s, if_true, if_false, i32_10, xs_retZ1, xs_retZ0, mg_23]
    rw [st_ok hj16 (by decide), mg_up (by decide)]
    simp only [xs_bnd_some, xs_lt_eq, Option.bind_some, bh_cs_n, bh_cs_s, if_true, if_false, i32_10, xs_retZ1, xs_retZ0]
    rw [ld_ok hj16 (by decide)]
    simp only [xs_bnd_some, xs_lt_eq, Option.bind_some, bh_cs_n, bh_cs_s, if_true, if_false, i32_10, xs_retZ1, xs_retZ0]
    rw [st_ok hj16 (by decide), mg_up (by decide)]
    simp only [xs_bnd_some, xs_lt_eq, Option.bind_some, bh_cs_n, bh_cs_s, if_true, if_false, i32_10, xs_retZ1, xs_retZ0]
    rw [mg_upY (by decide), i32_ofadd1 (by omega)]
    have q3 := hB.1 d0 hd0
    obtain ⟨j3, hj3, ej3⟩ := i32_inI (p := Z 3 d0) (n := 10) q3.1 (by omega)
    have q4 := hB.2.1 (Z 3 d0).toNatClampNeg (by rw [ej3, i32_natof (by omega)]; exact hj3)
    rw [← ht] at q4
    have hv := WO_le (Z := Z) (f := j) (hC j hjf).2.2.1.1 q4
    exact ih (j + 1) m1 m2 _ _ (h.waste hjf hv) h6 h24 hd ht (by omega) (by omega) (by omega)
theorem RI.spoil (h : RI nf nl np Z Y) {f : Nat} (hf : f < nf) : RI nf nl np (xs_up (xs_up (xs_up (xs_up (xs_up Z 26 f (Z 26 f + Z 22 f)) 22 f 0) 23 f 0) 24 f (-9)) 29 f 0) (xs_up Y 16 0 (Y 16 0 + Z 22 f)) := by
  obtain ⟨⟨hA, hB, hC, hD, hG, hL, hY, hS, hT⟩, h15, h16⟩ := h
  have q := hC f hf
  have h2 := q.2.2.1
  have h1 := q.2.1
  have z0 : (0 : Int32).toInt = 0 := by decide
  refine ⟨⟨hA, hB, fun i hi => ?_, ⟨fun i hi => ?_, hD.2⟩, hG, hL, hY, hS, hT⟩, h15, ?_⟩
  · show HP (Z 18 i) (Z 19 i) (Z 20 i) (Z 21 i) (xs_up Z 22 f 0 22 i) (xs_up Z 23 f 0 23 i) (Z 28 i) (xs_up Z 29 f 0 29 i) (Z 30 i)
    by_cases c : i = f
    · subst c
      rw [xs_up_eq, xs_up_eq, xs_up_eq]
      exact ⟨q.1, by rw [z0]; omega, by rw [z0]; omega, q.2.2.2.1, q.2.2.2.2.1, q.2.2.2.2.2.1, Or.inl rfl, q.2.2.2.2.2.2.2⟩
    · rw [xs_up_ni c, xs_up_ni c, xs_up_ni c]
      exact hC i hi
  · show xs_up Z 22 f 0 22 i = 0 ∧ xs_up Z 23 f 0 23 i = 0 ∧ Z 25 i = 0 ∧ xs_up Z 26 f (Z 26 f + Z 22 f) 26 i = 0 ∧ Z 27 i = 0 ∧ xs_up Z 29 f 0 29 i = 0 ∧ Z 30 i = 0
    have c : i ≠ f := by omega
    rw [xs_up_ni c, xs_up_ni c, xs_up_ni c, xs_up_ni c]
    exact hD.1 i hi
  · show Y 16 0 + Z 22 f = sI (xs_up Z 26 f (Z 26 f + Z 22 f) 26) nf
    rw [h16]
    exact (sI_add (d := Z 22 f) hf xs_up_eq (fun i hi hne => xs_up_ni hne)).symm
theorem ev_spoil {f : Nat} {v : Int32} (c1 : ¬ Z 24 f = -9) (c2 : 72 ≤ v - Z 24 f) : g_X6_spoil f v Z = some ((), xs_up (xs_up (xs_up (xs_up (xs_up Z 26 f (Z 26 f + Z 22 f)) 22 f 0) 23 f 0) 24 f (-9)) 29 f 0) := by
  unfold g_X6_spoil g_X6_lose
  rw [if_neg c1, if_pos c2]
  simp only [xs_bnd_some, xs_lt_eq, Option.bind_some, bh_cs_n, bh_cs_s, if_true, if_false, i32_10, xs_retZ1, xs_retZ0]
  have e1 : ∀ w : Int32, xs_up Z 26 f w 22 f - xs_up Z 26 f w 22 f = 0 := fun w => Int32.sub_self _
  have e2 : ∀ w u : Int32, xs_up (xs_up Z 26 f w) 22 f u 23 f - xs_up Z 26 f w 23 f = 0 := fun w u => Int32.sub_self (Z 23 f)
  rw [e1, e2]
  have e3 : ∀ w : Int32, xs_up (xs_up (xs_up Z 26 f w) 22 f 0) 23 f 0 22 f = 0 := fun w => by rw [xs_up_ne (by decide), xs_up_eq]
  rw [if_pos (e3 _)]
  simp only [xs_bnd_some, xs_lt_eq, Option.bind_some, bh_cs_n, bh_cs_s, if_true, if_false, i32_10, xs_retZ1, xs_retZ0]
  rw [wZ_ok (Or.inl rfl)]
  rfl
theorem pe_spl : ∀ (d j n1 n2 : Nat) (Z Y : xs_S), RI nf nl np Z Y → (Z 6 0 = b ∧ Z 11 0 = cc) → j + d = nf → d < n1 → d < n2 → PR (fun Z' Y' => (Z' 6 0 = b ∧ Z' 11 0 = cc) ∧ RI nf nl np Z' Y') (g_X9_passHour_b89 N n1 (Int32.ofNat j) Z) (g_X10_ends_b79 N n2 (Int32.ofNat j) (xs_mg Z Y)) := by
  intro d
  induction d with
  | zero =>
    intro j n1 n2 Z Y h h6 hj h1 h2
    obtain ⟨m1, rfl⟩ : ∃ m, n1 = m + 1 := ⟨n1 - 1, by omega⟩
    obtain ⟨m2, rfl⟩ : ∃ m, n2 = m + 1 := ⟨n2 - 1, by omega⟩
    have h7 : Z 7 0 = Int32.ofNat nf := h.1.1.2.1.1
    have hn : nf ≤ 16 := h.1.1.1.1
    unfold g_X9_passHour_b89 g_X10_ends_b79
    rw [if_pos (ev_le h7 (by omega) (by omega) (by omega)), if_pos (ev_le (v := xs_mg Z Y 7 0) h7 (by omega) (by omega) (by omega))]
    exact PR.ret ⟨h6, h⟩
  | succ d ih =>
    intro j n1 n2 Z Y h h6 hj h1 h2
    obtain ⟨m1, rfl⟩ : ∃ m, n1 = m + 1 := ⟨n1 - 1, by omega⟩
    obtain ⟨m2, rfl⟩ : ∃ m, n2 = m + 1 := ⟨n2 - 1, by omega⟩
    have h7 : Z 7 0 = Int32.ofNat nf := h.1.1.2.1.1
    have hn : nf ≤ 16 := h.1.1.1.1
    have hjf : j < nf := by omega
    have hj16 : j < 16 := by omega
    have nx := fun Z Y h h6 => ih (j + 1) m1 m2 Z Y h h6 (by omega) (by omega) (by omega)
    rw [← i32_ofadd1 (by omega)] at nx
    have e6 : xs_mg Z Y 6 0 = Z 6 0 := rfl
    unfold g_X9_passHour_b89 g_X10_ends_b79 g_X10_ends_b176
    rw [if_neg (ev_nle h7 (by omega) (by omega)), if_neg (ev_nle (v := xs_mg Z Y 7 0) h7 (by omega) (by omega)), gt_ok h7 hjf (by omega), ld_ok hj16 (by decide), e6]
    simp only [xs_bnd_some, xs_lt_eq, Option.bind_some, bh_cs_n, bh_cs_s, if_true, if_false, i32_10, xs_retZ1, xs_retZ0, mg_24]
    by_cases c1 : Z 24 j = -9
    · rw [if_pos c1]
      unfold g_X6_spoil
      rw [if_pos c1]
      exact nx Z Y h h6
    · rw [if_neg c1]
      by_cases c2 : 72 ≤ Z 6 0 - Z 24 j
      · rw [if_pos c2, ev_spoil c1 c2, ld_ok hj16 (by decide), ld_ok hj16 (by decide)]
        simp only [xs_bnd_some, xs_lt_eq, Option.bind_some, bh_cs_n, bh_cs_s, if_true, if_false, i32_10, xs_retZ1, xs_retZ0, mg_26, mg_22]
        rw [st_ok hj16 (by decide), mg_up (by decide)]
        simp only [xs_bnd_some, xs_lt_eq, Option.bind_some, bh_cs_n, bh_cs_s, if_true, if_false, i32_10, xs_retZ1, xs_retZ0]
        rw [ld_ok hj16 (by decide)]
        simp only [xs_bnd_some, xs_lt_eq, Option.bind_some, bh_cs_n, bh_cs_s, if_true, if_false, i32_10, xs_retZ1, xs_retZ0]
        rw [mg_upY (by decide), st_ok hj16 (by decide), mg_up (by decide)]
        simp only [xs_bnd_some, xs_lt_eq, Option.bind_some, bh_cs_n, bh_cs_s, if_true, if_false, i32_10, xs_retZ1, xs_retZ0]
        rw [st_ok hj16 (by decide), mg_up (by decide)]
        simp only [xs_bnd_some, xs_lt_eq, Option.bind_some, bh_cs_n, bh_cs_s, if_true, if_false, i32_10, xs_retZ1, xs_retZ0]
        rw [st_ok hj16 (by decide), mg_up (by decide)]
        simp only [xs_bnd_some, xs_lt_eq, Option.bind_some, bh_cs_n, bh_cs_s, if_true, if_false, i32_10, xs_retZ1, xs_retZ0]
        rw [stZ_ok hj16 (by decide) (Or.inl rfl), mg_up (by decide)]
        simp only [xs_bnd_some, xs_lt_eq, Option.bind_some, bh_cs_n, bh_cs_s, if_true, if_false, i32_10, xs_retZ1, xs_retZ0]
        exact nx _ _ (h.spoil hjf) h6
      · rw [if_neg c2]
        unfold g_X6_spoil
        rw [if_neg c1, if_neg c2]
        exact nx Z Y h h6
/-- the lorries arrive -/
theorem pe_arr {a : Int32} {k35 : Int32 → Int32 → Int32 → xs_S → Option (Int32 × xs_S)} {x1 x2 x3 : Int32} : ∀ (d j n1 n2 : Nat) (Z Y : xs_S), RK a b cc nf nl np Z Y → j + d = nl → d < n1 → d < n2 → ∃ Z' Y' m1 m2, RK a b cc nf nl np Z' Y' ∧ g_X9_passHour_b23 N n1 (Int32.ofNat j) Z = g_X9_passHour_b23 N (m1 + 1) (Int32.ofNat nl) Z' ∧ g_X10_hours_b64 N k35 n2 x1 x2 x3 (Int32.ofNat j) (xs_mg Z Y) = g_X10_hours_b64 N k35 (m2 + 1) x1 x2 x3 (Int32.ofNat nl) (xs_mg Z' Y') := by
  intro d
  induction d with
  | zero =>
    intro j n1 n2 Z Y h hj h1 h2
    obtain ⟨m1, rfl⟩ : ∃ m, n1 = m + 1 := ⟨n1 - 1, by omega⟩
    obtain ⟨m2, rfl⟩ : ∃ m, n2 = m + 1 := ⟨n2 - 1, by omega⟩
    have : j = nl := by omega
    subst this
    exact ⟨Z, Y, m1, m2, h, rfl, rfl⟩
  | succ d ih =>
    intro j n1 n2 Z Y h hj h1 h2
    obtain ⟨m1, rfl⟩ : ∃ m, n1 = m + 1 := ⟨n1 - 1, by omega⟩
    obtain ⟨m2, rfl⟩ : ∃ m, n2 = m + 1 := ⟨n2 - 1, by omega⟩
    have h8 : Z 8 0 = Int32.ofNat nl := h.1.1.1.2.1.2.1
    have hn : nl ≤ 8 := h.1.1.1.1.2.1
    have hjl : j < nl := by omega
    obtain ⟨r, Z1, Y1, q1, q2, q3⟩ := pe_arrive h hjl
    obtain ⟨Z', Y', k1, k2, g1, g2, g3⟩ := ih (j + 1) m1 m2 Z1 Y1 q3 (by omega) (by omega) (by omega)
    refine ⟨Z', Y', k1, k2, g1, ?_, ?_⟩
    · rw [← g2]
      rw [g_X9_passHour_b23]
      rw [if_neg (ev_nle h8 (by omega) (by omega)), gt_ok h8 hjl (by omega)]
      simp only [xs_bnd_some, xs_lt_eq, Option.bind_some, bh_cs_n, bh_cs_s, if_true, if_false, i32_10, xs_retZ1, xs_retZ0]
      rw [q1, i32_ofadd1 (by omega)]
      rfl
    · rw [← g3]
      rw [g_X10_hours_b64]
      rw [if_neg (ev_nle (v := xs_mg Z Y 8 0) h8 (by omega) (by omega)), q2, i32_ofadd1 (by omega)]
      rfl
theorem i32_24 {b : Int32} (h0 : 1 ≤ b.toInt) (h1 : b.toInt ≤ 2400) (h : b - b / 24 * 24 = 0) : ∃ d, d < 100 ∧ b / 24 - 1 = Int32.ofNat d := by
  have e24 : (24 : Int32).toInt = 24 := by decide
  have e1 : (b / 24).toInt = b.toInt / 24 := by
    rw [i32_div (by omega), e24]
    exact Int.tdiv_eq_ediv_of_nonneg (by omega)
  have e2 : (b / 24 * 24).toInt = b.toInt / 24 * 24 := by
    rw [i32_mul, e1, e24]
    · rw [e1, e24]; omega
    · rw [e1, e24]; omega
  have e3 : (b - b / 24 * 24).toInt = b.toInt - b.toInt / 24 * 24 := by
    rw [i32_sub, e2]
    · rw [e2]; omega
    · rw [e2]; omega
  have e4 : b.toInt - b.toInt / 24 * 24 = 0 := by
    rw [← e3, h]
    decide
  have e5 : (1 : Int32).toInt = 1 := by decide
  have e6 : (b / 24 - 1).toInt = b.toInt / 24 - 1 := by
    rw [i32_sub, e1, e5]
    · rw [e1, e5]; omega
    · rw [e1, e5]; omega
  obtain ⟨d, hd, e⟩ := i32_inI (p := b / 24 - 1) (n := 100) (by omega) (by omega)
  exact ⟨d, hd, e⟩
/-- an hour -/
theorem pe_hour (hN : 4000 ≤ N) (h : RI nf nl np Z Y) (hh : (Z 6 0).toInt < 2400) {k35 : Int32 → Int32 → Int32 → xs_S → Option (Int32 × xs_S)} {x1 x2 x3 : Int32} : ∃ v Z' Y', g_X9_passHour N Z = some ((), Z') ∧ (xs_lt (xs_up (xs_mg Z Y) 6 0 (xs_mg Z Y 6 0 + 1)) fun X4 => if X4 17 0 = 0 then xs_bnd (g_X10_lifts N X4) fun _ X11 => g_X10_hours_b61 N k35 x1 x2 x3 X11 else g_X10_hours_b61 N k35 x1 x2 x3 X4) = k35 x1 (x2 + v) (x3 + 1) (xs_mg Z' Y') ∧ Z' 11 0 = Z 11 0 + v ∧ (Z' 6 0).toInt = (Z 6 0).toInt + 1 ∧ ∃ np', RI nf nl np' Z' Y' := by
  obtain ⟨hA, hB, hC, hD, hG, hL, hY, hS, hT⟩ := h.1
  have h60 := hA.2.2.1
  have hT1 := hT.1
  have hT2 := hT.2
  have hnf := hA.1.1
  have hnl := hA.1.2.1
  have e6 : (Z 6 0 + 1).toInt = (Z 6 0).toInt + 1 := i32_add (b := 1) (by show _ ≤ (Z 6 0).toInt + 1; omega) (by show (Z 6 0).toInt + 1 < _; omega)
  generalize hb : Z 6 0 + 1 = b at e6
  have hK : RK (Z 90 0) b (Z 11 0) nf nl np (xs_up Z 6 0 b) Y := by
    refine ⟨⟨⟨⟨hA.1, hA.2.1, ?_, hA.2.2.2⟩, hB, hC, hD, hG, hL, hY, hS, ?_⟩, h.2.1, h.2.2⟩, rfl, xs_up_eq, rfl⟩
    · show 0 ≤ (xs_up Z 6 0 b 6 0).toInt ∧ (xs_up Z 6 0 b 6 0).toInt ≤ 2400
      rw [xs_up_eq]
      omega
    · show 0 ≤ (Z 90 0).toInt ∧ (Z 90 0).toInt ≤ nf + nl + 8 * (xs_up Z 6 0 b 6 0).toInt
      rw [xs_up_eq]
      omega
  -- lifting
  have hlift : ∃ Z1 Y1, RK (Z 90 0) b (Z 11 0) nf nl np Z1 Y1 ∧ g_X9_passHour N Z = g_X9_passHour_b21 N Z1 ∧ (xs_lt (xs_up (xs_mg Z Y) 6 0 (xs_mg Z Y 6 0 + 1)) fun X4 => if X4 17 0 = 0 then xs_bnd (g_X10_lifts N X4) fun _ X11 => g_X10_hours_b61 N k35 x1 x2 x3 X11 else g_X10_hours_b61 N k35 x1 x2 x3 X4) = g_X10_hours_b61 N k35 x1 x2 x3 (xs_mg Z1 Y1) := by
    unfold g_X9_passHour
    rw [mg_up (by decide)]
    simp only [xs_lt_eq]
    rw [show xs_mg Z Y 6 0 + 1 = b from hb, hb]
    by_cases c : Z 17 0 = 0
    · rw [if_pos (show xs_up Z 6 0 b 17 0 = 0 from c), if_pos (show xs_mg (xs_up Z 6 0 b) Y 17 0 = 0 from c)]
      obtain ⟨r, Z1, Y1, q1, q2, q3⟩ := pe_lift (N := N) 4 0 N N (xs_up Z 6 0 b) Y hK (by omega) (by omega) (by omega)
      refine ⟨Z1, Y1, q3, ?_, ?_⟩
      · rw [show g_X9_liftRoots N (xs_up Z 6 0 b) = some (r, Z1) from q1]
        rfl
      · rw [show g_X10_lifts N (xs_mg (xs_up Z 6 0 b) Y) = some (r, xs_mg Z1 Y1) from q2]
        rfl
    · rw [if_neg (show ¬ xs_up Z 6 0 b 17 0 = 0 from c), if_neg (show ¬ xs_mg (xs_up Z 6 0 b) Y 17 0 = 0 from c)]
      exact ⟨xs_up Z 6 0 b, Y, hK, rfl, rfl⟩
  obtain ⟨Z1, Y1, hK1, a1, a2⟩ := hlift
  rw [a1, a2]
  unfold g_X9_passHour_b21 g_X10_hours_b61
  obtain ⟨Z2, Y2, m1, m2, hK2, b1, b2⟩ := pe_arr (N := N) (k35 := k35) (x1 := x1) (x2 := x2) (x3 := x3) nl 0 N N Z1 Y1 hK1 (by omega) (by omega) (by omega)
  rw [show (0 : Int32) = Int32.ofNat 0 from rfl, b1, b2]
  obtain ⟨hR2, h90, h6, h11⟩ := hK2
  have h8 : Z2 8 0 = Int32.ofNat nl := hR2.1.1.2.1.2.1
  rw [g_X9_passHour_b23, g_X10_hours_b64]
  rw [if_pos (ev_le h8 (by omega) (Nat.le_refl _) (by omega)), if_pos (ev_le (v := xs_mg Z2 Y2 8 0) h8 (by omega) (Nat.le_refl _) (by omega))]
  -- unloading
  obtain ⟨r3, Z3, Y3, c1, c2, ⟨h63, h113⟩, np3, hR3⟩ := pe_unl (b := b) (cc := Z 11 0) hN nl 0 N N np 0 1 Z2 Y2 (Or.inl ⟨rfl, rfl⟩) hR2 ⟨h6, h11⟩ (by rw [h90, h6]; omega) (by omega) (by omega) (by omega)
  rw [show g_X9_unloadLorries N Z2 = some (r3, Z3) from c1, show g_X10_unloads N (xs_mg Z2 Y2) = some (r3, xs_mg Z3 Y3) from c2]
  simp only [xs_bnd_some, xs_lt_eq, Option.bind_some, bh_cs_n, bh_cs_s, if_true, if_false, i32_10, xs_retZ1, xs_retZ0]
  -- the works
  have hrt := hR3.1.1.2.2.2.2.1
  obtain ⟨rate, hrate, er⟩ := i32_inI (p := Z3 10 0) (n := 301) hrt.1 (by omega)
  obtain ⟨v, Z4, Y4, d1, d2, d3, d4, np4, hR4⟩ := pe_grind (N := N) (b := b) (e0 := Z 11 0) hN (show rate ≤ 300 by omega) rate N N 0 np3 0 Z3 Y3 hR3 h63 er (by omega) (by rw [h113, Int32.add_zero]) (by omega) (by omega)
  rw [xs_up_same h113] at d2
  have d1' : g_X4_grind N Z3 = some ((), Z4) := by
    unfold g_X4_grind
    rw [er]
    exact d1
  have d2' : g_X10_eats N (xs_mg Z3 Y3) = some (v, xs_mg Z4 Y4) := by
    unfold g_X10_eats
    rw [show xs_mg Z3 Y3 10 0 = Int32.ofNat rate from er]
    exact d2
  rw [d1', d2']
  simp only [xs_bnd_some, xs_lt_eq, Option.bind_some, bh_cs_n, bh_cs_s, if_true, if_false, i32_10, xs_retZ1, xs_retZ0]
  rw [d4]
  -- waste, spoiling
  have fin : ∀ Z5 Y5, (Z5 6 0 = b ∧ Z5 11 0 = Z 11 0 + v) → RI nf nl np4 Z5 Y5 → ∃ v_1 Z' Y', g_X9_passHour_b87 N Z5 = some ((), Z') ∧ (xs_bnd (g_X10_ends_b77 N (xs_mg Z5 Y5)) fun _ X14 => k35 x1 (x2 + v) (x3 + 1) X14) = k35 x1 (x2 + v_1) (x3 + 1) (xs_mg Z' Y') ∧ Z' 11 0 = Z 11 0 + v_1 ∧ (Z' 6 0).toInt = (Z 6 0).toInt + 1 ∧ ∃ np', RI nf nl np' Z' Y' := by
    intro Z5 Y5 hq hR5
    obtain ⟨r6, Z6, Y6, f1, f2, ⟨f3, f4⟩, hR6⟩ := pe_spl (N := N) nf 0 N N Z5 Y5 hR5 hq (by omega) (by omega) (by omega)
    refine ⟨v, Z6, Y6, ?_, ?_, f4, by rw [f3]; exact e6, np4, hR6⟩
    · exact f1
    · rw [show g_X10_ends_b77 N (xs_mg Z5 Y5) = some (r6, xs_mg Z6 Y6) from f2]
      rfl
  have h64' : xs_mg Z4 Y4 6 0 = b := d4
  have h7 : xs_mg Z4 Y4 7 0 = Int32.ofNat nf := hR4.1.1.2.1.1
  by_cases c : b - b / 24 * 24 = 0
  · rw [if_pos c]
    obtain ⟨d0, hd0, ed⟩ := i32_24 (by omega) (by omega) c
    unfold g_X9_wasteHeaps
    rw [d4, ed, ev_number hR4.1.2.1 hd0]
    simp only [xs_bnd_some, xs_lt_eq, Option.bind_some, bh_cs_n, bh_cs_s, if_true, if_false, i32_10, xs_retZ1, xs_retZ0]
    obtain ⟨Z5, Y5, g1, g2, g3, hR5⟩ := pe_wst (N := N) (b := b) (cc := Z 11 0 + v) hd0 nf 0 N N Z4 Y4 hR4 ⟨d4, d3⟩ c ed rfl (by omega) (by omega) (by omega)
    rw [show g_X9_wasteHeaps_b19 N N (Z4 4 (Z4 3 d0).toNatClampNeg) 0 Z4 = some ((), Z5) from g1, show g_X10_ends N (xs_mg Z4 Y4) = g_X10_ends_b77 N (xs_mg Z5 Y5) from g2]
    simp only [xs_bnd_some, xs_lt_eq, Option.bind_some, bh_cs_n, bh_cs_s, if_true, if_false, i32_10, xs_retZ1, xs_retZ0]
    exact fin Z5 Y5 g3 hR5
  · rw [if_neg c]
    have e5 : g_X10_ends N (xs_mg Z4 Y4) = g_X10_ends_b77 N (xs_mg Z4 Y4) := by
      unfold g_X10_ends
      obtain ⟨m, rfl⟩ : ∃ m, N = m + 1 := ⟨N - 1, by omega⟩
      rw [g_X10_ends_b2]
      by_cases q : xs_mg Z4 Y4 7 0 ≤ 0
      · rw [if_pos q]
      · rw [if_neg q, h64', if_neg c]
    rw [e5]
    exact fin Z4 Y4 ⟨d4, d3⟩ hR4
theorem pe_hrs (hN : 4000 ≤ N) {e0 : Int32} {q : Nat} (hq : q ≤ 2400) : ∀ (d j n1 n2 np : Nat) (x2 : Int32) (Z Y : xs_S), RI nf nl np Z Y → (Z 6 0).toInt + d ≤ 2400 → Z 11 0 = e0 + x2 → j + d = q → d < n1 → d < n2 → PR RE (g_X9_hours_b41 N n1 (Int32.ofNat q) e0 (Int32.ofNat j) Z) (g_X10_hours_b35 N n2 (Int32.ofNat q) x2 (Int32.ofNat j) (xs_mg Z Y)) := by
  intro d
  induction d with
  | zero =>
    intro j n1 n2 np x2 Z Y h hh h11 hj h1 h2
    obtain ⟨m1, rfl⟩ : ∃ m, n1 = m + 1 := ⟨n1 - 1, by omega⟩
    obtain ⟨m2, rfl⟩ : ∃ m, n2 = m + 1 := ⟨n2 - 1, by omega⟩
    unfold g_X9_hours_b41 g_X10_hours_b35
    rw [if_pos ((i32_ofle (by omega) (by omega)).mpr (by omega)), if_pos ((i32_ofle (by omega) (by omega)).mpr (by omega)), h11]
    have e : e0 + x2 - e0 = x2 := by
      rw [Int32.sub_eq_add_neg, Int32.add_comm e0 x2, Int32.add_assoc, ← Int32.sub_eq_add_neg, Int32.sub_self, Int32.add_zero]
    rw [e]
    exact PR.ret ⟨nf, nl, np, h⟩
  | succ d ih =>
    intro j n1 n2 np x2 Z Y h hh h11 hj h1 h2
    obtain ⟨m1, rfl⟩ : ∃ m, n1 = m + 1 := ⟨n1 - 1, by omega⟩
    obtain ⟨m2, rfl⟩ : ∃ m, n2 = m + 1 := ⟨n2 - 1, by omega⟩
    rw [g_X9_hours_b41, g_X10_hours_b35]
    rw [if_neg (fun z => by have := (i32_ofle (by omega) (by omega)).mp z; omega), if_neg (fun z => by have := (i32_ofle (by omega) (by omega)).mp z; omega)]
    obtain ⟨v, Z', Y', a1, a2, a3, a4, np', hR⟩ := pe_hour (k35 := g_X10_hours_b35 N m2) (x1 := Int32.ofNat q) (x2 := x2) (x3 := Int32.ofNat j) hN h (by omega)
    rw [a1, a2, i32_ofadd1 (by omega)]
    simp only [xs_bnd_some, xs_lt_eq, Option.bind_some, bh_cs_n, bh_cs_s, if_true, if_false, i32_10, xs_retZ1, xs_retZ0]
    exact ih (j + 1) m1 m2 np' (x2 + v) Z' Y' hR (by omega) (by rw [a3, h11, Int32.add_assoc]) (by omega) (by omega) (by omega)
theorem pe_hours (hN : 4000 ≤ N) (h : RI nf nl np Z Y) (p1 : Int32) : PR RE (g_X9_hours N p1 Z) (g_X10_hours N p1 (xs_mg Z Y)) := by
  have mono : ∀ Z Y, RI nf nl np Z Y → RE Z Y := fun Z Y h => ⟨nf, nl, np, h⟩
  unfold g_X9_hours g_X10_hours
  by_cases c1 : 1 ≤ p1
  · rw [if_pos c1, if_pos c1]
    by_cases c2 : p1 ≤ 2400 - Z 6 0
    · rw [if_pos c2, if_pos (show p1 ≤ 2400 - xs_mg Z Y 6 0 from c2)]
      have h60 := h.1.1.2.2.1
      have e : (2400 - Z 6 0).toInt = 2400 - (Z 6 0).toInt := i32_sub (a := 2400) (by show _ ≤ 2400 - (Z 6 0).toInt; omega) (by show 2400 - (Z 6 0).toInt < _; omega)
      rw [i32_le] at c1 c2
      rw [e] at c2
      have c1 : 1 ≤ p1.toInt := c1
      obtain ⟨q, hq, rfl⟩ := i32_inI (p := p1) (n := 2401) (by omega) (by omega)
      rw [i32_of (by omega)] at c2
      exact pe_hrs (e0 := Z 11 0) hN (show q ≤ 2400 by omega) q 0 N N np 0 Z Y h (by omega) (by rw [Int32.add_zero]) (by omega) (by omega) (by omega)
    · rw [if_neg c2, if_neg (show ¬ p1 ≤ 2400 - xs_mg Z Y 6 0 from c2)]
      exact (pe_ref h (by decide)).mono mono
  · rw [if_neg c1, if_neg c1]
    exact (pe_ref h (by decide)).mono mono
end PW
