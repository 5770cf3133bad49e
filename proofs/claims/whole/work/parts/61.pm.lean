/-! ===== the pure side: the short methods ===== -/
theorem ev_refC {Z : xs_S} {c : Int32} {j : Nat} (h1 : ¬ (-1 : Int32) < c) (h2 : ¬ c < -6) (h3 : -c = Int32.ofNat j) (hj : j < 7) : g_X9_refuse c Z = some (c, xs_up Z 0 j (Z 0 j + 1)) := by
  unfold g_X9_refuse
  rw [if_neg h1, if_neg h2, h3, ld_ok hj (by decide)]
  simp only [Option.bind_some]
  rw [st_ok hj (by decide)]
  rfl
theorem ev_refM {X : xs_S} {c : Int32} {j : Nat} (h3 : -c = Int32.ofNat j) (hj : j < 7) : g_X10_refuse c X = some (c, xs_up X 0 j (X 0 j + 1)) := by
  unfold g_X10_refuse
  rw [h3, ld_ok hj (by decide)]
  simp only [Option.bind_some]
  rw [st_ok hj (by decide)]
  rfl
theorem pe_ref {nf nl np : Nat} {Z Y : xs_S} (h : RI nf nl np Z Y) {c : Int32} (hc : c = -1 ∨ c = -2 ∨ c = -3 ∨ c = -4 ∨ c = -6) : PR (RI nf nl np) (xs_bnd (g_X9_refuse c Z) fun v Z => some (v, Z)) (xs_bnd (g_X10_refuse c (xs_mg Z Y)) fun v X => some (v, X)) := by
  obtain ⟨j, hj, h1, h2, h3⟩ : ∃ j, j < 7 ∧ (¬ (-1 : Int32) < c) ∧ (¬ c < -6) ∧ -c = Int32.ofNat j := by
    rcases hc with rfl | rfl | rfl | rfl | rfl
    · exact ⟨1, by decide, by decide, by decide, by decide⟩
    · exact ⟨2, by decide, by decide, by decide, by decide⟩
    · exact ⟨3, by decide, by decide, by decide, by decide⟩
    · exact ⟨4, by decide, by decide, by decide, by decide⟩
    · exact ⟨6, by decide, by decide, by decide, by decide⟩
  rw [ev_refC h1 h2 h3 hj, ev_refM h3 hj]
  simp only [xs_bnd_some, mg_0]
  rw [mg_up (by decide)]
  exact PR.ret h
theorem ev_isIn {X : xs_S} {j n : Nat} {m : Int32} (hm : m = Int32.ofNat n) (hj : j < n) (hn : n < 2147483648) : g_X10_isIn (Int32.ofNat j) m X = some (1, X) := by
  subst hm
  unfold g_X10_isIn
  rw [if_neg (i32_nneg (by omega)), if_neg (fun h => by rw [i32_ofle hn (by omega)] at h; omega)]
  rfl
theorem ev_isInB {X : xs_S} {p : Int32} {n : Nat} {m : Int32} (hm : m = Int32.ofNat n) (hp : i32_bad p n) : g_X10_isIn p m X = some (0, X) := by
  subst hm
  unfold g_X10_isIn
  rcases hp with h | h
  · rw [if_pos h]
    rfl
  · by_cases h2 : p < 0
    · rw [if_pos h2]
      rfl
    · rw [if_neg h2, if_pos h]
      rfl
theorem ev_fa {Z : xs_S} {j : Nat} (hj : j < 6) : g_X9_farmerAt (Int32.ofNat j) Z = some (some j, Z) := by
  unfold g_X9_farmerAt
  rw [if_neg (i32_nneg (by omega)), if_neg (show ¬ (6 : Int32) ≤ Int32.ofNat j from fun h => by have := (i32_ofle (m := 6) (by decide) (by omega)).mp h; omega), ix_ok hj (by decide)]
  rfl
theorem ev_faB {Z : xs_S} {p : Int32} (hp : i32_bad p 6) : g_X9_farmerAt p Z = some (none, Z) := by
  unfold g_X9_farmerAt
  rcases hp with h | h
  · rw [if_pos h]
  · by_cases h2 : p < 0
    · rw [if_pos h2]
    · rw [if_neg h2, if_pos (show (6 : Int32) ≤ p from h)]
theorem ev_pa {Z : xs_S} {j nf : Nat} (h7 : Z 7 0 = Int32.ofNat nf) (hn : nf ≤ 16) (hj : j < nf) : g_X9_plotAt (Int32.ofNat j) Z = some (some j, Z) := by
  unfold g_X9_plotAt
  rw [if_neg (i32_nneg (by omega)), h7, if_neg (fun h => by have := (i32_ofle (by omega) (by omega)).mp h; omega), gt_ok h7 hj (by omega)]
  rfl
theorem ev_paB {Z : xs_S} {p : Int32} {nf : Nat} (h7 : Z 7 0 = Int32.ofNat nf) (hp : i32_bad p nf) : g_X9_plotAt p Z = some (none, Z) := by
  unfold g_X9_plotAt
  rcases hp with h | h
  · rw [if_pos h]
  · by_cases h2 : p < 0
    · rw [if_pos h2]
    · rw [if_neg h2, h7, if_pos h]
theorem ev_la {Z : xs_S} {j nl : Nat} (h8 : Z 8 0 = Int32.ofNat nl) (hn : nl ≤ 8) (hj : j < nl) : g_X9_lorryAt (Int32.ofNat j) Z = some (some j, Z) := by
  unfold g_X9_lorryAt
  rw [if_neg (i32_nneg (by omega)), h8, if_neg (fun h => by have := (i32_ofle (by omega) (by omega)).mp h; omega), gt_ok h8 hj (by omega)]
  rfl
theorem ev_laB {Z : xs_S} {p : Int32} {nl : Nat} (h8 : Z 8 0 = Int32.ofNat nl) (hp : i32_bad p nl) : g_X9_lorryAt p Z = some (none, Z) := by
  unfold g_X9_lorryAt
  rcases hp with h | h
  · rw [if_pos h]
  · by_cases h2 : p < 0
    · rw [if_pos h2]
    · rw [if_neg h2, h8, if_pos h]
theorem ev_if {X : xs_S} {j nf : Nat} (h7 : X 7 0 = Int32.ofNat nf) (hn : nf ≤ 16) (hj : j < nf) : g_X10_isField (Int32.ofNat j) X = some (1, X) := by
  unfold g_X10_isField
  rw [ev_isIn h7 hj (by omega)]
  rfl
theorem ev_ifB {X : xs_S} {p : Int32} {nf : Nat} (h7 : X 7 0 = Int32.ofNat nf) (hp : i32_bad p nf) : g_X10_isField p X = some (0, X) := by
  unfold g_X10_isField
  rw [ev_isInB h7 hp]
  rfl
theorem ev_il {X : xs_S} {j nl : Nat} (h7 : X 8 0 = Int32.ofNat nl) (hn : nl ≤ 8) (hj : j < nl) : g_X10_isLorry (Int32.ofNat j) X = some (1, X) := by
  unfold g_X10_isLorry
  rw [ev_isIn h7 hj (by omega)]
  rfl
theorem ev_ilB {X : xs_S} {p : Int32} {nl : Nat} (h7 : X 8 0 = Int32.ofNat nl) (hp : i32_bad p nl) : g_X10_isLorry p X = some (0, X) := by
  unfold g_X10_isLorry
  rw [ev_isInB h7 hp]
  rfl
theorem ev_out {Z : xs_S} {p a b : Int32} : g_X9_outside p a b Z = some ((if a ≤ p then (if p ≤ b then 0 else -6) else -4), Z) := by
  unfold g_X9_outside
  by_cases h1 : a ≤ p
  · by_cases h2 : p ≤ b
    · rw [if_pos h1, if_pos h2, if_pos h1, if_pos h2]
    · rw [if_pos h1, if_neg h2, if_pos h1, if_neg h2]
  · rw [if_neg h1, if_neg h1]
section PE
variable {nf nl np : Nat} {Z Y : xs_S}
theorem pe_share (h : RI nf nl np Z Y) (p1 p2 : Int32) : PR (RI nf nl np) (g_X9_share p1 p2 Z) (g_X10_share p1 p2 (xs_mg Z Y)) := by
  unfold g_X9_share g_X10_share
  rcases i32_in p1 6 (by decide) with hp | ⟨j, hj, rfl⟩
  · rw [ev_faB hp, ev_isInB (n := 6) (m := 6) rfl hp]
    simp only [xs_bnd_some, xs_lt_eq, Option.bind_some, bh_cs_n, bh_cs_s, if_true, if_false, i32_10, xs_retZ1, xs_retZ0]
    exact pe_ref h (Or.inl rfl)
  · rw [ev_fa hj, ev_isIn (n := 6) (m := 6) rfl hj (by decide)]
    simp only [xs_bnd_some, xs_lt_eq, Option.bind_some, bh_cs_n, bh_cs_s, if_true, if_false, i32_10, xs_retZ1, xs_retZ0, ev_out]
    by_cases h1 : 0 ≤ p2
    · by_cases h2 : p2 ≤ 1000
      · simp only [h1, h2, if_true]
        rw [ld_ok hj (by decide)]
        simp only [xs_bnd_some, xs_lt_eq, Option.bind_some, bh_cs_n, bh_cs_s, if_true, if_false, i32_10, xs_retZ1, xs_retZ0, mg_1]
        rw [st_ok hj (by decide), mg_up (by decide)]
        exact PR.ret h
      · simp only [h1, h2, if_true, if_false, i32_m60]
        exact pe_ref h (by decide)
    · simp only [h1, if_false, i32_m40]
      exact pe_ref h (by decide)
theorem pe_coins (h : RI nf nl np Z Y) (p1 : Int32) : PR (RI nf nl np) (g_X9_coins p1 Z) (g_X10_coins p1 (xs_mg Z Y)) := by
  unfold g_X9_coins g_X10_coins
  rcases i32_in p1 6 (by decide) with hp | ⟨j, hj, rfl⟩
  · rw [ev_faB hp, ev_isInB (n := 6) (m := 6) rfl hp]
    simp only [xs_bnd_some, xs_lt_eq, Option.bind_some, bh_cs_n, bh_cs_s, if_true, if_false, i32_10, xs_retZ1, xs_retZ0]
    exact pe_ref h (Or.inl rfl)
  · rw [ev_fa hj, ev_isIn (n := 6) (m := 6) rfl hj (by decide)]
    simp only [xs_bnd_some, xs_lt_eq, Option.bind_some, bh_cs_n, bh_cs_s, if_true, if_false, i32_10, xs_retZ1, xs_retZ0]
    rw [ld_ok hj (by decide)]
    exact PR.ret h
theorem ev_out0 {p b : Int32} (h1 : 0 ≤ p) (h2 : p ≤ b) : g_X9_outside p 0 b Z = some (0, Z) := by
  rw [ev_out, if_pos h1, if_pos h2]
theorem ev_out6 {p b : Int32} (h1 : 0 ≤ p) (h2 : ¬ p ≤ b) : g_X9_outside p 0 b Z = some (-6, Z) := by
  rw [ev_out, if_pos h1, if_neg h2]
theorem ev_out4 {p b : Int32} (h1 : ¬ 0 ≤ p) : g_X9_outside p 0 b Z = some (-4, Z) := by
  rw [ev_out, if_neg h1]
/-- put: nowhere, below, above, there -/
theorem ev_putB {j n : Nat} {p c q m : Int32} (hn : cv_al j = n) (hp : i32_bad p n) : g_X9_put j p c q m Z = xs_bnd (g_X9_refuse c Z) (fun v Z => some (v, Z)) := by
  unfold g_X9_put g_X9_put_b10
  rw [hn]
  rcases hp with h | h
  · rw [if_pos h]
  · by_cases h2 : p < 0
    · rw [if_pos h2]
    · rw [if_neg h2, if_neg (fun h3 => by rw [i32_le] at h; rw [i32_lt] at h3; omega)]
theorem ev_put4 {j n i : Nat} {c q m : Int32} (hn : cv_al j = n) (hi : i < n) (hs : n < 2147483648) (h1 : ¬ 0 ≤ q) : g_X9_put j (Int32.ofNat i) c q m Z = xs_bnd (g_X9_refuse (-4) Z) (fun v Z => some (v, Z)) := by
  unfold g_X9_put
  rw [hn, if_neg (i32_nneg (by omega)), if_pos ((i32_oflt (by omega) hs).mpr hi), ev_out4 h1]
  simp only [xs_bnd_some, xs_lt_eq, Option.bind_some, bh_cs_n, bh_cs_s, if_true, if_false, i32_10, xs_retZ1, xs_retZ0, i32_m40]
theorem ev_put6 {j n i : Nat} {c q m : Int32} (hn : cv_al j = n) (hi : i < n) (hs : n < 2147483648) (h1 : 0 ≤ q) (h2 : ¬ q ≤ m) : g_X9_put j (Int32.ofNat i) c q m Z = xs_bnd (g_X9_refuse (-6) Z) (fun v Z => some (v, Z)) := by
  unfold g_X9_put
  rw [hn, if_neg (i32_nneg (by omega)), if_pos ((i32_oflt (by omega) hs).mpr hi), ev_out6 h1 h2]
  simp only [xs_bnd_some, xs_lt_eq, Option.bind_some, bh_cs_n, bh_cs_s, if_true, if_false, i32_10, xs_retZ1, xs_retZ0, i32_m60]
theorem ev_put {j n i : Nat} {c q m : Int32} (hn : cv_al j = n) (hi : i < n) (hs : n < 2147483648) (h1 : 0 ≤ q) (h2 : q ≤ m) : g_X9_put j (Int32.ofNat i) c q m Z = some (Z (cv_ac j) i, xs_up Z (cv_ac j) i q) := by
  unfold g_X9_put
  rw [hn, if_neg (i32_nneg (by omega)), if_pos ((i32_oflt (by omega) hs).mpr hi), ev_out0 h1 h2]
  simp only [xs_bnd_some, xs_lt_eq, Option.bind_some, bh_cs_n, bh_cs_s, if_true, if_false, i32_10, xs_retZ1, xs_retZ0]
  rw [ld_ok hi hs]
  simp only [xs_bnd_some, xs_lt_eq, Option.bind_some, bh_cs_n, bh_cs_s, if_true, if_false, i32_10, xs_retZ1, xs_retZ0]
  rw [st_ok hi hs]
  rfl
theorem pe_table (h : RI nf nl np Z Y) (p1 p2 : Int32) : PR (RI nf nl np) (g_X9_table p1 p2 Z) (g_X10_table p1 p2 (xs_mg Z Y)) := by
  unfold g_X9_table g_X10_table
  rcases i32_in p1 10 (by decide) with hp | ⟨j, hj, rfl⟩
  · rw [ev_putB (n := 10) rfl hp, ev_isInB (n := 10) (m := 10) rfl hp]
    simp only [xs_bnd_some, xs_lt_eq, Option.bind_some, bh_cs_n, bh_cs_s, if_true, if_false, i32_10, xs_retZ1, xs_retZ0]
    exact (pe_ref h (by decide)).bnd (fun r Z Y h => PR.ret h)
  · rw [ev_isIn (n := 10) (m := 10) rfl hj (by decide)]
    simp only [xs_bnd_some, xs_lt_eq, Option.bind_some, bh_cs_n, bh_cs_s, if_true, if_false, i32_10, xs_retZ1, xs_retZ0]
    by_cases h1 : 0 ≤ p2
    · by_cases h2 : p2 ≤ 100
      · rw [ev_put (n := 10) rfl hj (by decide) h1 h2, if_pos h1, if_pos h2, ld_ok hj (by decide)]
        simp only [xs_bnd_some, xs_lt_eq, Option.bind_some, bh_cs_n, bh_cs_s, if_true, if_false, i32_10, xs_retZ1, xs_retZ0, mg_4]
        rw [st_ok hj (by decide), mg_up (by decide)]
        refine PR.ret ?_
        obtain ⟨⟨hA, hB, hC, hD, hG, hL, hY, hS, hT⟩, h15, h16⟩ := h
        refine ⟨⟨hA, ⟨hB.1, fun i hi => ?_, hB.2.2⟩, hC, hD, hG, hL, hY, hS, hT⟩, h15, h16⟩
        rw [i32_le] at h1 h2
        show 0 ≤ (xs_up Z 4 j p2 4 i).toInt ∧ (xs_up Z 4 j p2 4 i).toInt ≤ 100
        by_cases e : i = j
        · rw [e, xs_up_eq]
          exact ⟨h1, h2⟩
        · rw [xs_up_ni e]
          exact hB.2.1 i hi
      · rw [ev_put6 (n := 10) rfl hj (by decide) h1 h2, if_pos h1, if_neg h2]
        exact (pe_ref h (by decide)).bnd (fun r Z Y h => PR.ret h)
    · rw [ev_put4 (n := 10) rfl hj (by decide) h1, if_neg h1]
      exact (pe_ref h (by decide)).bnd (fun r Z Y h => PR.ret h)
theorem pe_warmth (h : RI nf nl np Z Y) (p1 p2 : Int32) : PR (RI nf nl np) (g_X9_warmth p1 p2 Z) (g_X10_warmth p1 p2 (xs_mg Z Y)) := by
  unfold g_X9_warmth g_X10_warmth
  rcases i32_in p1 100 (by decide) with hp | ⟨j, hj, rfl⟩
  · rw [ev_putB (n := 100) rfl hp, ev_isInB (n := 100) (m := 100) rfl hp]
    simp only [xs_bnd_some, xs_lt_eq, Option.bind_some, bh_cs_n, bh_cs_s, if_true, if_false, i32_10, xs_retZ1, xs_retZ0]
    exact (pe_ref h (by decide)).bnd (fun r Z Y h => PR.ret h)
  · rw [ev_isIn (n := 100) (m := 100) rfl hj (by decide)]
    simp only [xs_bnd_some, xs_lt_eq, Option.bind_some, bh_cs_n, bh_cs_s, if_true, if_false, i32_10, xs_retZ1, xs_retZ0]
    by_cases h1 : 0 ≤ p2
    · by_cases h2 : p2 ≤ 9
      · rw [ev_put (n := 100) rfl hj (by decide) h1 h2, if_pos h1, if_pos h2, ld_ok hj (by decide)]
        simp only [xs_bnd_some, xs_lt_eq, Option.bind_some, bh_cs_n, bh_cs_s, if_true, if_false, i32_10, xs_retZ1, xs_retZ0, mg_3]
        rw [st_ok hj (by decide), mg_up (by decide)]
        refine PR.ret ?_
        obtain ⟨⟨hA, hB, hC, hD, hG, hL, hY, hS, hT⟩, h15, h16⟩ := h
        refine ⟨⟨hA, ⟨fun i hi => ?_, hB.2⟩, hC, hD, hG, hL, hY, hS, hT⟩, h15, h16⟩
        rw [i32_le] at h1 h2
        show 0 ≤ (xs_up Z 3 j p2 3 i).toInt ∧ (xs_up Z 3 j p2 3 i).toInt ≤ 9
        by_cases e : i = j
        · rw [e, xs_up_eq]
          exact ⟨h1, h2⟩
        · rw [xs_up_ni e]
          exact hB.1 i hi
      · rw [ev_put6 (n := 100) rfl hj (by decide) h1 h2, if_pos h1, if_neg h2]
        exact (pe_ref h (by decide)).bnd (fun r Z Y h => PR.ret h)
    · rw [ev_put4 (n := 100) rfl hj (by decide) h1, if_neg h1]
      exact (pe_ref h (by decide)).bnd (fun r Z Y h => PR.ret h)
theorem pe_price (h : RI nf nl np Z Y) (p1 p2 : Int32) : PR (RI nf nl np) (g_X9_price p1 p2 Z) (g_X10_price p1 p2 (xs_mg Z Y)) := by
  unfold g_X9_price g_X10_price
  rcases i32_in p1 10 (by decide) with hp | ⟨j, hj, rfl⟩
  · rw [ev_putB (n := 10) rfl hp, ev_isInB (n := 10) (m := 10) rfl hp]
    simp only [xs_bnd_some, xs_lt_eq, Option.bind_some, bh_cs_n, bh_cs_s, if_true, if_false, i32_10, xs_retZ1, xs_retZ0]
    exact (pe_ref h (by decide)).bnd (fun r Z Y h => PR.ret h)
  · rw [ev_isIn (n := 10) (m := 10) rfl hj (by decide)]
    simp only [xs_bnd_some, xs_lt_eq, Option.bind_some, bh_cs_n, bh_cs_s, if_true, if_false, i32_10, xs_retZ1, xs_retZ0]
    by_cases h1 : 0 ≤ p2
    · by_cases h2 : p2 ≤ 1000
      · rw [ev_put (n := 10) rfl hj (by decide) h1 h2, if_pos h1, if_pos h2, ld_ok hj (by decide)]
        simp only [xs_bnd_some, xs_lt_eq, Option.bind_some, bh_cs_n, bh_cs_s, if_true, if_false, i32_10, xs_retZ1, xs_retZ0, mg_5]
        rw [st_ok hj (by decide), mg_up (by decide)]
        exact PR.ret h
      · rw [ev_put6 (n := 10) rfl hj (by decide) h1 h2, if_pos h1, if_neg h2]
        exact (pe_ref h (by decide)).bnd (fun r Z Y h => PR.ret h)
    · rw [ev_put4 (n := 10) rfl hj (by decide) h1, if_neg h1]
      exact (pe_ref h (by decide)).bnd (fun r Z Y h => PR.ret h)
theorem pe_works (h : RI nf nl np Z Y) (p1 p2 : Int32) : PR (RI nf nl np) (g_X9_works p1 p2 Z) (g_X10_works p1 p2 (xs_mg Z Y)) := by
  unfold g_X9_works g_X10_works g_X9_works_b16 g_X9_works_b31 g_X10_works_b40 g_X10_works_b65
  rcases i32_in p1 2 (by decide) with hp | ⟨j, hj, rfl⟩
  · have n0 : ¬ p1 = 0 := by
      rintro rfl
      rcases hp with q | q
      · exact absurd q (by decide)
      · exact absurd q (by decide)
    have n1 : ¬ p1 = 1 := by
      rintro rfl
      rcases hp with q | q
      · exact absurd q (by decide)
      · exact absurd q (by decide)
    rw [if_neg n0, if_neg n1, ev_isInB (n := 2) (m := 2) rfl hp]
    simp only [xs_bnd_some, xs_lt_eq, Option.bind_some, bh_cs_n, bh_cs_s, if_true, if_false, i32_10, xs_retZ1, xs_retZ0]
    exact pe_ref h (by decide)
  · rw [ev_isIn (n := 2) (m := 2) rfl hj (by decide)]
    obtain ⟨⟨hA, hB, hC, hD, hG, hL, hY, hS, hT⟩, h15, h16⟩ := id h
    by_cases h1 : 0 ≤ p2
    · match j, hj with
      | 0, _ =>
        show PR _ (xs_bnd (g_X9_outside p2 0 3000 Z) _) _
        by_cases h2 : p2 ≤ 3000
        · rw [ev_out0 h1 h2]
          simp only [xs_bnd_some, xs_lt_eq, Option.bind_some, bh_cs_n, bh_cs_s, if_true, if_false, i32_10, xs_retZ1, xs_retZ0, h1, h2]
          show PR _ (some (Z 9 0, xs_up Z 9 0 p2)) (some (Z 9 0, xs_up (xs_mg Z Y) 9 0 p2))
          rw [mg_up (by decide)]
          refine PR.ret ?_
          rw [i32_le] at h1 h2
          exact ⟨⟨⟨hA.1, hA.2.1, hA.2.2.1, ⟨h1, h2⟩, hA.2.2.2.2⟩, hB, hC, hD, hG, hL, hY, hS, hT⟩, h15, h16⟩
        · rw [ev_out6 h1 h2]
          simp only [xs_bnd_some, xs_lt_eq, Option.bind_some, bh_cs_n, bh_cs_s, if_true, if_false, i32_10, xs_retZ1, xs_retZ0, h1, h2, i32_m60]
          exact pe_ref h (by decide)
      | 1, _ =>
        show PR _ (xs_bnd (g_X9_outside p2 0 300 Z) _) _
        by_cases h2 : p2 ≤ 300
        · rw [ev_out0 h1 h2]
          simp only [xs_bnd_some, xs_lt_eq, Option.bind_some, bh_cs_n, bh_cs_s, if_true, if_false, i32_10, xs_retZ1, xs_retZ0, h1, h2]
          show PR _ (some (Z 10 0, xs_up Z 10 0 p2)) (some (Z 10 0, xs_up (xs_mg Z Y) 10 0 p2))
          rw [mg_up (by decide)]
          refine PR.ret ?_
          rw [i32_le] at h1 h2
          exact ⟨⟨⟨hA.1, hA.2.1, hA.2.2.1, hA.2.2.2.1, ⟨h1, h2⟩, hA.2.2.2.2.2⟩, hB, hC, hD, hG, hL, hY, hS, hT⟩, h15, h16⟩
        · rw [ev_out6 h1 h2]
          simp only [xs_bnd_some, xs_lt_eq, Option.bind_some, bh_cs_n, bh_cs_s, if_true, if_false, i32_10, xs_retZ1, xs_retZ0, h1, h2, i32_m60]
          exact pe_ref h (by decide)
    · match j, hj with
      | 0, _ =>
        show PR _ (xs_bnd (g_X9_outside p2 0 3000 Z) _) _
        rw [ev_out4 h1]
        simp only [xs_bnd_some, xs_lt_eq, Option.bind_some, bh_cs_n, bh_cs_s, if_true, if_false, i32_10, xs_retZ1, xs_retZ0, h1, i32_m40]
        exact pe_ref h (by decide)
      | 1, _ =>
        show PR _ (xs_bnd (g_X9_outside p2 0 300 Z) _) _
        rw [ev_out4 h1]
        simp only [xs_bnd_some, xs_lt_eq, Option.bind_some, bh_cs_n, bh_cs_s, if_true, if_false, i32_10, xs_retZ1, xs_retZ0, h1, i32_m40]
        exact pe_ref h (by decide)
theorem pe_cover (h : RI nf nl np Z Y) (p1 p2 : Int32) (hp2 : p2 = 0 ∨ p2 = 1) : PR (RI nf nl np) (g_X9_cover p1 p2 Z) (g_X10_cover p1 p2 (xs_mg Z Y)) := by
  obtain ⟨⟨hA, hB, hC, hD, hG, hL, hY, hS, hT⟩, h15, h16⟩ := id h
  have h7 : Z 7 0 = Int32.ofNat nf := hA.2.1.1
  have hn : nf ≤ 16 := hA.1.1
  unfold g_X9_cover g_X10_cover g_X9_cover_b30 g_X10_cover_b32
  rcases i32_in p1 nf (by omega) with hp | ⟨j, hj, rfl⟩
  · rw [ev_paB h7 hp, ev_ifB (X := xs_mg Z Y) h7 hp]
    simp only [xs_bnd_some, xs_lt_eq, Option.bind_some, bh_cs_n, bh_cs_s, if_true, if_false, i32_10, xs_retZ1, xs_retZ0]
    exact pe_ref h (by decide)
  · rw [ev_pa h7 hn hj, ev_if (X := xs_mg Z Y) h7 hn hj]
    simp only [xs_bnd_some, xs_lt_eq, Option.bind_some, bh_cs_n, bh_cs_s, if_true, if_false, i32_10, xs_retZ1, xs_retZ0]
    have hj16 : j < 16 := by omega
    rw [ld_ok hj16 (by decide)]
    simp only [xs_bnd_some, xs_lt_eq, Option.bind_some, bh_cs_n, bh_cs_s, if_true, if_false, i32_10, xs_retZ1, xs_retZ0, mg_22]
    by_cases e1 : Z 22 j = 0
    · rw [if_pos e1, if_pos e1]
      exact pe_ref h (by decide)
    · rw [if_neg e1, if_neg e1, ld_ok hj16 (by decide)]
      simp only [xs_bnd_some, xs_lt_eq, Option.bind_some, bh_cs_n, bh_cs_s, if_true, if_false, i32_10, xs_retZ1, xs_retZ0, mg_30]
      by_cases e2 : Z 30 j = 0
      · rw [if_pos e2, if_pos e2, ld_ok hj16 (by decide)]
        simp only [xs_bnd_some, xs_lt_eq, Option.bind_some, bh_cs_n, bh_cs_s, if_true, if_false, i32_10, xs_retZ1, xs_retZ0, mg_29]
        by_cases e3 : Z 29 j = p2
        · rw [if_pos e3, if_pos e3]
          exact PR.ret h
        · rw [if_neg e3, if_neg e3, wZ_ok hp2, stZ_ok hj16 (by decide) hp2, mg_up (by decide)]
          simp only [xs_bnd_some, xs_lt_eq, Option.bind_some, bh_cs_n, bh_cs_s, if_true, if_false, i32_10, xs_retZ1, xs_retZ0]
          refine PR.ret ?_
          refine ⟨⟨hA, hB, fun i hi => ?_, ⟨fun i hi => ?_, hD.2⟩, hG, hL, hY, hS, hT⟩, h15, h16⟩
          · show HP (Z 18 i) (Z 19 i) (Z 20 i) (Z 21 i) (Z 22 i) (Z 23 i) (Z 28 i) (xs_up Z 29 j p2 29 i) (Z 30 i)
            have q := hC i hi
            by_cases e : i = j
            · rw [e, xs_up_eq]
              rw [e] at q
              exact ⟨q.1, q.2.1, q.2.2.1, q.2.2.2.1, q.2.2.2.2.1, q.2.2.2.2.2.1, hp2, q.2.2.2.2.2.2.2⟩
            · rw [xs_up_ni e]
              exact q
          · show Z 22 i = 0 ∧ Z 23 i = 0 ∧ Z 25 i = 0 ∧ Z 26 i = 0 ∧ Z 27 i = 0 ∧ xs_up Z 29 j p2 29 i = 0 ∧ Z 30 i = 0
            rw [xs_up_ni (by omega)]
            exact hD.1 i hi
      · rw [if_neg e2, if_neg e2]
        exact pe_ref h (by decide)
/-- a lorry is sent -/
theorem RI.out (h : RI nf nl np Z Y) {l f : Nat} (hl : l < nl) (hf : f < nf) {v : Int32} : RI nf nl np (xs_up (xs_up (xs_up Z 34 l 1) 35 l (Int32.ofNat f)) 36 l v) Y := by
  obtain ⟨⟨hA, hB, hC, hD, hG, hL, hY, hS, hT⟩, h15, h16⟩ := h
  have hn : nf ≤ 16 := hA.1.1
  refine ⟨⟨hA, hB, hC, ⟨hD.1, fun i hi => ?_⟩, hG, fun i hi => ?_, hY, hS, hT⟩, h15, h16⟩
  · show xs_up Z 34 l 1 34 i = 0 ∧ _
    rw [xs_up_ni (by omega)]
    exact hD.2 i hi
  · show LO nf (Z 33 i) (xs_up Z 34 l 1 34 i) (xs_up Z 35 l (Int32.ofNat f) 35 i) (xs_up Z 36 l v 36 i) (Z 37 i) (Z 38 i)
    have q := hL i hi
    by_cases e : i = l
    · subst e
      rw [xs_up_eq, xs_up_eq, xs_up_eq]
      exact ⟨q.1, Or.inr (Or.inl ⟨Or.inl rfl, by rw [i32_of (by omega)]; omega⟩), q.2.2⟩
    · rw [xs_up_ni e, xs_up_ni e, xs_up_ni e]
      exact q
theorem ev_goes {l f : Nat} (hl : l < 8) (hf : f < 16) : g_X10_goes (Int32.ofNat l) (Int32.ofNat f) (xs_mg Z Y) = some ((), xs_mg (xs_up (xs_up (xs_up Z 34 l 1) 35 l (Int32.ofNat f)) 36 l (Z 6 0 + Z 21 f)) Y) := by
  unfold g_X10_goes
  rw [st_ok hl (by decide), mg_up (by decide)]
  simp only [xs_bnd_some, xs_lt_eq, Option.bind_some, bh_cs_n, bh_cs_s, if_true, if_false, i32_10, xs_retZ1, xs_retZ0]
  rw [st_ok hl (by decide), mg_up (by decide)]
  simp only [xs_bnd_some, xs_lt_eq, Option.bind_some, bh_cs_n, bh_cs_s, if_true, if_false, i32_10, xs_retZ1, xs_retZ0]
  rw [ld_ok hf (by decide)]
  simp only [xs_bnd_some, xs_lt_eq, Option.bind_some, bh_cs_n, bh_cs_s, if_true, if_false, i32_10, xs_retZ1, xs_retZ0]
  rw [st_ok hl (by decide), mg_up (by decide)]
  rfl
theorem ev_setOut {l f : Nat} {v : Int32} : g_X3_setOut l f v Z = some ((), xs_up (xs_up (xs_up Z 34 l 1) 35 l (Int32.ofNat f)) 36 l (v + Z 21 f)) := rfl
theorem pe_send (h : RI nf nl np Z Y) (p1 p2 : Int32) : PR (RI nf nl np) (g_X9_send p1 p2 Z) (g_X10_send p1 p2 (xs_mg Z Y)) := by
  obtain ⟨⟨hA, -⟩, -⟩ := id h
  have h7 : Z 7 0 = Int32.ofNat nf := hA.2.1.1
  have h8 : Z 8 0 = Int32.ofNat nl := hA.2.1.2.1
  have hn : nf ≤ 16 := hA.1.1
  have hl : nl ≤ 8 := hA.1.2.1
  unfold g_X9_send g_X10_send g_X9_send_b22 g_X10_send_b16
  rcases i32_in p1 nl (by omega) with hp | ⟨l, hl2, rfl⟩
  · rw [ev_laB h8 hp, ev_ilB (X := xs_mg Z Y) h8 hp]
    simp only [xs_bnd_some, xs_lt_eq, Option.bind_some, bh_cs_n, bh_cs_s, if_true, if_false, i32_10, xs_retZ1, xs_retZ0]
    rcases i32_in p2 nf (by omega) with hq | ⟨f, hf, rfl⟩
    · rw [ev_paB h7 hq]
      simp only [xs_bnd_some, xs_lt_eq, Option.bind_some, bh_cs_n, bh_cs_s, if_true, if_false, i32_10, xs_retZ1, xs_retZ0]
      exact pe_ref h (by decide)
    · rw [ev_pa h7 hn hf]
      simp only [xs_bnd_some, xs_lt_eq, Option.bind_some, bh_cs_n, bh_cs_s, if_true, if_false, i32_10, xs_retZ1, xs_retZ0]
      exact pe_ref h (by decide)
  · rw [ev_la h8 hl hl2, ev_il (X := xs_mg Z Y) h8 hl hl2]
    simp only [xs_bnd_some, xs_lt_eq, Option.bind_some, bh_cs_n, bh_cs_s, if_true, if_false, i32_10, xs_retZ1, xs_retZ0]
    rcases i32_in p2 nf (by omega) with hq | ⟨f, hf, rfl⟩
    · rw [ev_paB h7 hq, ev_ifB (X := xs_mg Z Y) h7 hq]
      simp only [xs_bnd_some, xs_lt_eq, Option.bind_some, bh_cs_n, bh_cs_s, if_true, if_false, i32_10, xs_retZ1, xs_retZ0]
      exact pe_ref h (by decide)
    · rw [ev_pa h7 hn hf, ev_if (X := xs_mg Z Y) h7 hn hf]
      simp only [xs_bnd_some, xs_lt_eq, Option.bind_some, bh_cs_n, bh_cs_s, if_true, if_false, i32_10, xs_retZ1, xs_retZ0]
      rw [ld_ok (show l < 8 by omega) (by decide)]
      simp only [xs_bnd_some, xs_lt_eq, Option.bind_some, bh_cs_n, bh_cs_s, if_true, if_false, i32_10, xs_retZ1, xs_retZ0, mg_34]
      by_cases e : Z 34 l = 0
      · rw [if_pos e, if_pos e, ev_goes (by omega) (by omega), ev_setOut]
        simp only [xs_bnd_some, xs_lt_eq, Option.bind_some, bh_cs_n, bh_cs_s, if_true, if_false, i32_10, xs_retZ1, xs_retZ0]
        rw [ld_ok (show l < 8 by omega) (by decide)]
        simp only [xs_bnd_some, xs_lt_eq, Option.bind_some, bh_cs_n, bh_cs_s, if_true, if_false, i32_10, xs_retZ1, xs_retZ0, mg_36]
        exact PR.ret (h.out hl2 hf)
      · rw [if_neg e, if_neg e]
        exact pe_ref h (by decide)
theorem pe_gang (h : RI nf nl np Z Y) (p1 p2 p3 : Int32) : PR (RI nf nl np) (g_X9_gang p1 p2 p3 Z) (g_X10_gang p1 p2 p3 (xs_mg Z Y)) := by
  obtain ⟨⟨hA, hB, hC, hD, hG, hL, hY, hS, hT⟩, h15, h16⟩ := id h
  have h7 : Z 7 0 = Int32.ofNat nf := hA.2.1.1
  have hn : nf ≤ 16 := hA.1.1
  have key : ∀ (g : Nat) (o : Option Nat), g < 4 → (xs_fr (-1) o = p3) → (p3 = -1 ∨ 0 ≤ p3.toInt ∧ p3.toInt < nf) → PR (RI nf nl np) (g_X9_gang_b32 (Int32.ofNat g) p2 o Z) (g_X10_gang_b27 (Int32.ofNat g) p2 p3 (xs_mg Z Y)) := by
    intro g o hg ho hp
    unfold g_X9_gang_b32 g_X10_gang_b27
    by_cases h1 : 0 ≤ p2
    · by_cases h2 : p2 ≤ 100
      · rw [ev_out0 h1 h2, if_pos h1, if_pos h2, st_ok hg (by decide), mg_up (by decide)]
        simp only [xs_bnd_some, xs_lt_eq, Option.bind_some, bh_cs_n, bh_cs_s, if_true, if_false, i32_10, xs_retZ1, xs_retZ0]
        rw [ix_ok hg (by decide), st_ok hg (by decide), mg_up (by decide), ho]
        simp only [xs_bnd_some, xs_lt_eq, Option.bind_some, bh_cs_n, bh_cs_s, if_true, if_false, i32_10, xs_retZ1, xs_retZ0]
        refine PR.ret ?_
        rw [i32_le] at h1 h2
        refine ⟨⟨hA, hB, hC, hD, fun i hi => ?_, hL, hY, hS, hT⟩, h15, h16⟩
        show (0 ≤ (xs_up Z 31 g p2 31 i).toInt ∧ (xs_up Z 31 g p2 31 i).toInt ≤ 100) ∧ (xs_up Z 32 g p3 32 i = -1 ∨ 0 ≤ (xs_up Z 32 g p3 32 i).toInt ∧ (xs_up Z 32 g p3 32 i).toInt < nf)
        by_cases e : i = g
        · rw [e, xs_up_eq, xs_up_eq]
          exact ⟨⟨h1, h2⟩, hp⟩
        · rw [xs_up_ni e, xs_up_ni e]
          exact hG i hi
      · rw [ev_out6 h1 h2, if_pos h1, if_neg h2]
        simp only [xs_bnd_some, xs_lt_eq, Option.bind_some, bh_cs_n, bh_cs_s, if_true, if_false, i32_10, xs_retZ1, xs_retZ0, i32_m60]
        exact pe_ref h (by decide)
    · rw [ev_out4 h1, if_neg h1]
      simp only [xs_bnd_some, xs_lt_eq, Option.bind_some, bh_cs_n, bh_cs_s, if_true, if_false, i32_10, xs_retZ1, xs_retZ0, i32_m40]
      exact pe_ref h (by decide)
  unfold g_X9_gang g_X10_gang g_X9_gang_b26 g_X10_gang_b21
  rcases i32_in p1 4 (by decide) with hp | ⟨g, hg, rfl⟩
  · rw [ev_isInB (n := 4) (m := 4) rfl hp]
    have hx : ∃ o, g_X9_plotAt p3 Z = some (o, Z) := by
      rcases i32_in p3 nf (by omega) with hq | ⟨f, hf, rfl⟩
      · exact ⟨_, ev_paB h7 hq⟩
      · exact ⟨_, ev_pa h7 hn hf⟩
    obtain ⟨o, ho⟩ := hx
    rw [ho]
    simp only [xs_bnd_some, xs_lt_eq, Option.bind_some, bh_cs_n, bh_cs_s, if_true, if_false, i32_10, xs_retZ1, xs_retZ0]
    rcases hp with q | q
    · rw [if_pos q]
      exact pe_ref h (by decide)
    · by_cases q2 : p1 < 0
      · rw [if_pos q2]
        exact pe_ref h (by decide)
      · rw [if_neg q2, if_pos (show (4 : Int32) ≤ p1 from q)]
        exact pe_ref h (by decide)
  · rw [ev_isIn (n := 4) (m := 4) rfl hg (by decide)]
    have n0 : ¬ Int32.ofNat g < 0 := i32_nneg (by omega)
    have n4 : ¬ (4 : Int32) ≤ Int32.ofNat g := fun q => by have := (i32_ofle (m := 4) (by decide) (by omega)).mp q; omega
    rcases i32_in p3 nf (by omega) with hq | ⟨f, hf, rfl⟩
    · rw [ev_paB h7 hq]
      simp only [xs_bnd_some, xs_lt_eq, Option.bind_some, bh_cs_n, bh_cs_s, if_true, if_false, i32_10, xs_retZ1, xs_retZ0, n0, n4]
      by_cases e : p3 = -1
      · rw [if_pos e, if_pos e]
        exact key g none hg e.symm (Or.inl e)
      · rw [if_neg e, if_neg e, ev_ifB (X := xs_mg Z Y) h7 hq]
        simp only [xs_bnd_some, xs_lt_eq, Option.bind_some, bh_cs_n, bh_cs_s, if_true, if_false, i32_10, xs_retZ1, xs_retZ0]
        exact pe_ref h (by decide)
    · rw [ev_pa h7 hn hf]
      simp only [xs_bnd_some, xs_lt_eq, Option.bind_some, bh_cs_n, bh_cs_s, if_true, if_false, i32_10, xs_retZ1, xs_retZ0, n0, n4]
      have e : ¬ Int32.ofNat f = -1 := fun q => by
        have := i32_nneg (show f < 2147483648 by omega)
        rw [q] at this
        exact this (by decide)
      rw [if_neg e, ev_if (X := xs_mg Z Y) h7 hn hf]
      simp only [xs_bnd_some, xs_lt_eq, Option.bind_some, bh_cs_n, bh_cs_s, if_true, if_false, i32_10, xs_retZ1, xs_retZ0]
      exact key g (some f) hg rfl (Or.inr (by rw [i32_of (by omega)]; omega))
theorem pe_load (h : RI nf nl np Z Y) (p1 p2 : Int32) : PR (RI nf nl np) (g_X9_load p1 p2 Z) (g_X10_load p1 p2 (xs_mg Z Y)) := by
  obtain ⟨⟨hA, hB, hC, hD, hG, hL, hY, hS, hT⟩, h15, h16⟩ := id h
  have h44 : Z 44 0 = Int32.ofNat np := hA.2.1.2.2
  have hn : np ≤ 3000 := hA.1.2.2
  unfold g_X9_load g_X10_load
  rcases i32_in p1 np (by omega) with hp | ⟨j, hj, rfl⟩
  · rw [ev_isInB (n := np) (m := xs_mg Z Y 44 0) h44 hp]
    simp only [xs_bnd_some, xs_lt_eq, Option.bind_some, bh_cs_n, bh_cs_s, if_true, if_false, i32_10, xs_retZ1, xs_retZ0]
    by_cases q : p1 < 0
    · rw [if_pos q]
      exact PR.ret h
    · rw [if_neg q]
      rcases hp with q2 | q2
      · exact absurd q2 q
      · rw [h44, if_neg (fun q3 => by rw [i32_le] at q2; rw [i32_lt] at q3; omega)]
        exact PR.ret h
  · rw [ev_isIn (n := np) (m := xs_mg Z Y 44 0) h44 hj (by omega), if_neg (i32_nneg (by omega)), h44, if_pos ((i32_oflt (by omega) (by omega)).mpr hj), gt_ok h44 hj (by omega)]
    simp only [xs_bnd_some, xs_lt_eq, Option.bind_some, bh_cs_n, bh_cs_s, if_true, if_false, i32_10, xs_retZ1, xs_retZ0]
    have hj2 : j < 3100 := by omega
    by_cases e0 : p2 = 0
    · rw [if_pos e0, if_pos e0, ld_ok hj2 (by decide)]
      obtain ⟨f, hf, ef⟩ := i32_inI (n := nf) (hY.1 j hj).1.1 (hY.1 j hj).1.2
      rw [ef, rf_ok (by have := hA.1.1; omega)]
      simp only [xs_bnd_some, xs_lt_eq, Option.bind_some, bh_cs_n, bh_cs_s, if_true, if_false, i32_10, xs_retZ1, xs_retZ0, mg_41]
      rw [hB.2.2.2 f hf, ef]
      exact PR.ret h
    · rw [if_neg e0, if_neg e0]
      by_cases e1 : p2 = 1
      · rw [if_pos e1, if_pos e1, ld_ok hj2 (by decide)]
        exact PR.ret h
      · rw [if_neg e1, if_neg e1]
        by_cases e2 : p2 = 2
        · rw [if_pos e2, if_pos e2, ld_ok hj2 (by decide)]
          exact PR.ret h
        · rw [if_neg e2, if_neg e2]
          exact PR.ret h
theorem pe_lorryOf (h : RI nf nl np Z Y) (p1 p2 : Int32) : PR (RI nf nl np) (g_X9_lorryOf p1 p2 Z) (g_X10_lorryOf p1 p2 (xs_mg Z Y)) := by
  obtain ⟨⟨hA, hB, hC, hD, hG, hL, hY, hS, hT⟩, h15, h16⟩ := id h
  have h8 : Z 8 0 = Int32.ofNat nl := hA.2.1.2.1
  have hn : nl ≤ 8 := hA.1.2.1
  unfold g_X9_lorryOf g_X10_lorryOf g_X10_lorryOf_b90
  rcases i32_in p1 nl (by omega) with hp | ⟨j, hj, rfl⟩
  · rw [ev_laB h8 hp, ev_ilB (X := xs_mg Z Y) h8 hp]
    simp only [xs_bnd_some, xs_lt_eq, Option.bind_some, bh_cs_n, bh_cs_s, if_true, if_false, i32_10, xs_retZ1, xs_retZ0]
    exact pe_ref h (by decide)
  · rw [ev_la h8 hn hj, ev_il (X := xs_mg Z Y) h8 hn hj]
    simp only [xs_bnd_some, xs_lt_eq, Option.bind_some, bh_cs_n, bh_cs_s, if_true, if_false, i32_10, xs_retZ1, xs_retZ0]
    have hj2 : j < 8 := by omega
    have q := hL j hj
    by_cases e0 : p2 = 0
    · rw [if_pos e0, if_pos e0, ld_ok hj2 (by decide)]
      exact PR.ret h
    rw [if_neg e0, if_neg e0]
    by_cases e1 : p2 = 1
    · rw [if_pos e1, if_pos e1, ld_ok hj2 (by decide)]
      have hcase : Z 35 j = -9 ∨ ∃ f, f < nf ∧ Z 35 j = Int32.ofNat f := by
        rcases q.2.1 with ⟨_, e, _⟩ | ⟨_, e⟩ | ⟨_, e, _⟩
        · exact Or.inl e
        · exact Or.inr (i32_inI e.1 e.2)
        · exact Or.inr (i32_inI e.1 e.2)
      rcases hcase with e | ⟨f, hf, e⟩
      · rw [e, rf_neg (by decide)]
        simp only [xs_bnd_some, xs_lt_eq, Option.bind_some, bh_cs_n, bh_cs_s, if_true, if_false, i32_10, xs_retZ1, xs_retZ0, mg_35]
        rw [e]
        exact PR.ret h
      · rw [e, rf_ok (by have := hA.1.1; omega)]
        simp only [xs_bnd_some, xs_lt_eq, Option.bind_some, bh_cs_n, bh_cs_s, if_true, if_false, i32_10, xs_retZ1, xs_retZ0, mg_35]
        rw [hB.2.2.2 f hf, e]
        exact PR.ret h
    rw [if_neg e1, if_neg e1]
    by_cases e2 : p2 = 2
    · rw [if_pos e2, if_pos e2, ld_ok hj2 (by decide), ld_ok hj2 (by decide)]
      simp only [xs_bnd_some, xs_lt_eq, Option.bind_some, bh_cs_n, bh_cs_s, if_true, if_false, i32_10, xs_retZ1, xs_retZ0, mg_34, mg_36]
      rcases q.2.1 with ⟨a, b, c⟩ | ⟨a, b⟩ | ⟨a, b, c⟩
      · rw [a, c, if_neg (by decide), if_neg (by decide)]
        exact PR.ret h
      · rcases a with a | a
        · rw [a, if_pos rfl]
          exact PR.ret h
        · rw [a, if_neg (by decide), if_pos rfl]
          exact PR.ret h
      · rw [a, c, if_neg (by decide), if_neg (by decide)]
        exact PR.ret h
    rw [if_neg e2, if_neg e2]
    by_cases e3 : p2 = 3
    · rw [if_pos e3, if_pos e3, ld_ok hj2 (by decide)]
      exact PR.ret h
    rw [if_neg e3, if_neg e3]
    by_cases e4 : p2 = 4
    · rw [if_pos e4, if_pos e4, ld_ok hj2 (by decide)]
      exact PR.ret h
    rw [if_neg e4, if_neg e4]
    by_cases e5 : p2 = 5
    · rw [if_pos e5, if_pos e5, ld_ok hj2 (by decide)]
      exact PR.ret h
    rw [if_neg e5, if_neg e5]
    by_cases e6 : p2 = 6
    · rw [if_pos e6, if_pos e6, ld_ok hj2 (by decide)]
      exact PR.ret h
    rw [if_neg e6, if_neg e6]
    exact pe_ref h (by decide)
end PE
