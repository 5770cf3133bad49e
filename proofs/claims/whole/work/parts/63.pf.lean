/-! ===== the pure side: a new field, frost, next, turn ===== -/
section PF
variable {nf nl np : Nat} {Z Y : xs_S}
theorem LO.mono {nf : Nat} {a b c d e f : Int32} (h : LO nf a b c d e f) : LO (nf + 1) a b c d e f := by
  obtain ⟨h1, h2, h3⟩ := h
  refine ⟨h1, ?_, h3⟩
  rcases h2 with h | ⟨h, q⟩ | ⟨h, q, r⟩
  · exact Or.inl h
  · exact Or.inr (Or.inl ⟨h, by omega⟩)
  · exact Or.inr (Or.inr ⟨h, by omega, r⟩)
theorem pe_field (h : RI nf nl np Z Y) (p1 p2 p3 p4 p5 : Int32) (hp5 : p5 = 0 ∨ p5 = 1) : PR RE (g_X9_field p1 p2 p3 p4 p5 Z) (g_X10_field p1 p2 p3 p4 p5 (xs_mg Z Y)) := by
  obtain ⟨⟨hA, hB, hC, hD, hG, hL, hY, hS, hT⟩, h15, h16⟩ := id h
  have h7 : Z 7 0 = Int32.ofNat nf := hA.2.1.1
  have hn : nf ≤ 16 := hA.1.1
  have mono : ∀ Z Y, RI nf nl np Z Y → RE Z Y := fun Z Y h => ⟨nf, nl, np, h⟩
  unfold g_X9_field g_X10_field g_X9_field_b35 g_X10_field_b32 g_X9_field_b75 g_X10_field_b69
  rcases i32_in p1 6 (by decide) with hp | ⟨j, hj, rfl⟩
  · rw [ev_faB hp, ev_isInB (n := 6) (m := 6) rfl hp]
    simp only [xs_bnd_some, xs_lt_eq, Option.bind_some, bh_cs_n, bh_cs_s, if_true, if_false, i32_10, xs_retZ1, xs_retZ0]
    exact (pe_ref h (Or.inl rfl)).mono mono
  · rw [ev_fa hj, ev_isIn (n := 6) (m := 6) rfl hj (by decide)]
    simp only [xs_bnd_some, xs_lt_eq, Option.bind_some, bh_cs_n, bh_cs_s, if_true, if_false, i32_10, xs_retZ1, xs_retZ0]
    by_cases c1 : p2 < 1
    · rw [if_pos c1, if_pos c1]
      exact (pe_ref h (by decide)).mono mono
    rw [if_neg c1, if_neg c1]
    by_cases c2 : p3 < 50
    · rw [if_pos c2, if_pos c2]
      exact (pe_ref h (by decide)).mono mono
    rw [if_neg c2, if_neg c2]
    by_cases c3 : 1 ≤ p4
    · rw [if_pos c3, if_pos c3]
      by_cases c4 : 5000 < p2
      · rw [if_pos c4, if_pos c4]
        exact (pe_ref h (by decide)).mono mono
      rw [if_neg c4, if_neg c4]
      by_cases c5 : 250 < p3
      · rw [if_pos c5, if_pos c5]
        exact (pe_ref h (by decide)).mono mono
      rw [if_neg c5, if_neg c5]
      by_cases c6 : 12 < p4
      · rw [if_pos c6, if_pos c6]
        exact (pe_ref h (by decide)).mono mono
      rw [if_neg c6, if_neg c6]
      by_cases c7 : nf = 16
      · rw [if_neg (show ¬ Z 7 0 < 16 by rw [h7, c7]; decide), if_pos (show xs_mg Z Y 7 0 = 16 by show Z 7 0 = 16; rw [h7, c7]; rfl)]
        exact (pe_ref h (by decide)).mono mono
      · have hf : nf < 16 := by omega
        have n7 : (Z 7 0).toNatClampNeg = nf := by rw [h7]; exact i32_natof (by omega)
        have hT1 := hT.1
        have hT2 := hT.2
        have hA1 := hA.2.2.1
        have hl := hA.1.2.1
        have hg : Z 7 0 < 16 ∧ (0 ≤ Z 90 0 ∧ Z 90 0 < 1000000) ∧ (p5 = 0 ∨ p5 = 1) := by
          refine ⟨?_, ⟨?_, ?_⟩, hp5⟩
          · rw [h7]
            exact (i32_oflt (n := 16) (by omega) (by decide)).mpr hf
          · rw [i32_le]
            show (0 : Int) ≤ _
            omega
          · rw [i32_lt]
            show _ < (1000000 : Int)
            omega
        rw [if_pos hg.1, if_neg (show ¬ xs_mg Z Y 7 0 = 16 by show ¬ Z 7 0 = 16; rw [h7]; intro e; have := (i32_ofeq (n := 16) (by omega) (by decide)).mp e; omega)]
        unfold g_X9_field_new
        rw [if_pos hg]
        have e7 : xs_mg Z Y 7 0 = Int32.ofNat nf := h7
        rw [e7, mg_up (by decide), st_ok hf (by decide), mg_up (by decide)]
        simp only [xs_bnd_some, xs_lt_eq, Option.bind_some, bh_cs_n, bh_cs_s, if_true, if_false, i32_10, xs_retZ1, xs_retZ0]
        rw [st_ok hf (by decide), mg_up (by decide)]
        simp only [xs_bnd_some, xs_lt_eq, Option.bind_some, bh_cs_n, bh_cs_s, if_true, if_false, i32_10, xs_retZ1, xs_retZ0]
        rw [st_ok hf (by decide), mg_up (by decide)]
        simp only [xs_bnd_some, xs_lt_eq, Option.bind_some, bh_cs_n, bh_cs_s, if_true, if_false, i32_10, xs_retZ1, xs_retZ0]
        rw [st_ok hf (by decide), mg_up (by decide)]
        simp only [xs_bnd_some, xs_lt_eq, Option.bind_some, bh_cs_n, bh_cs_s, if_true, if_false, i32_10, xs_retZ1, xs_retZ0]
        rw [stZ_ok hf (by decide) hp5, mg_up (by decide)]
        simp only [xs_bnd_some, xs_lt_eq, Option.bind_some, bh_cs_n, bh_cs_s, if_true, if_false, i32_10, xs_retZ1, xs_retZ0]
        rw [st_ok hf (by decide), mg_up (by decide)]
        simp only [xs_bnd_some, xs_lt_eq, Option.bind_some, bh_cs_n, bh_cs_s, if_true, if_false, i32_10, xs_retZ1, xs_retZ0]
        have hd := hD.1 nf (Nat.le_refl _)
        have hZ : xs_mg (xs_up (xs_up (xs_up (xs_up (xs_up (xs_up (xs_up Z 7 0 (Int32.ofNat nf + 1)) 18 nf (Int32.ofNat j)) 19 nf p2) 20 nf p3) 21 nf p4) 28 nf p5) 24 nf (-9)) Y = xs_mg (xs_nF j p2 p3 p4 p5 Z) Y := by
          unfold xs_nF
          rw [n7, mg_ign (k := 90) (by decide), mg_ign (k := 101) (by decide)]
          rw [xs_up_same (k := 27) (by show Z 27 nf = 0; exact hd.2.2.2.2.1), xs_up_same (k := 26) (by show Z 26 nf = 0; exact hd.2.2.2.1), xs_up_same (k := 25) (by show Z 25 nf = 0; exact hd.2.2.1), xs_up_same (k := 30) (by show Z 30 nf = 0; exact hd.2.2.2.2.2.2), xs_up_same (k := 29) (by show Z 29 nf = 0; exact hd.2.2.2.2.2.1), xs_up_same (k := 23) (by show Z 23 nf = 0; exact hd.2.1), xs_up_same (k := 22) (by show Z 22 nf = 0; exact hd.1), h7]
        rw [hZ, h7]
        have v0 : ∀ k, (k = 22 ∨ k = 23 ∨ k = 29 ∨ k = 30 ∨ k = 25 ∨ k = 26 ∨ k = 27) → xs_nF j p2 p3 p4 p5 Z k nf = 0 := by
          rintro k (rfl | rfl | rfl | rfl | rfl | rfl | rfl) <;> (unfold xs_nF; rw [n7]; simp only [xs_up]; rfl)
        have eni : ∀ k i, i < nf → k ≠ 7 → k ≠ 90 → xs_nF j p2 p3 p4 p5 Z k i = Z k i := fun k i hi a b => xs_nF_ni (by rw [n7]; omega) a b
        refine PR.ret ⟨nf + 1, nl, np, ⟨⟨⟨⟨by omega, hA.1.2.1, hA.1.2.2⟩, ⟨?_, hA.2.1.2⟩, hA.2.2⟩, ⟨hB.1, hB.2.1, hB.2.2.1, fun i hi => ?_⟩, fun i hi => ?_, ⟨fun i hi => ?_, hD.2⟩, fun i hi => ?_, fun i hi => (hL i hi).mono, ⟨fun i hi => ?_, hY.2⟩, ⟨?_, fun f hf6 => ?_⟩, ?_⟩, ?_, ?_⟩⟩
        · show Z 7 0 + 1 = _
          rw [h7]
          exact i32_ofadd1 (by omega)
        · by_cases e : i = nf
          · subst e
            have : xs_nF j p2 p3 p4 p5 Z 101 i = Z 7 0 := by unfold xs_nF; rw [n7, xs_up_ne (by decide), xs_up_eq]
            rw [this]; exact h7
          · rw [eni 101 i (by omega) (by decide) (by decide)]
            exact hB.2.2.2 i (by omega)
        · by_cases e : i = nf
          · subst e
            have v : HP (Int32.ofNat j) p2 p3 p4 0 0 p5 0 0 := by
              rw [i32_lt] at c1 c2 c4 c5 c6
              rw [i32_le] at c3
              have c1 : ¬ p2.toInt < 1 := c1
              have c2 : ¬ p3.toInt < 50 := c2
              have c3 : 1 ≤ p4.toInt := c3
              have c4 : ¬ 5000 < p2.toInt := c4
              have c5 : ¬ 250 < p3.toInt := c5
              have c6 : ¬ 12 < p4.toInt := c6
              have z0 : (0 : Int32).toInt = 0 := by decide
              refine ⟨?_, ?_, ?_, ?_, ?_, hp5, Or.inl rfl, Or.inl rfl⟩
              · rw [i32_of (by omega)]; omega
              · rw [z0]; omega
              · rw [z0]; omega
              · omega
              · omega
            unfold xs_nF
            rw [n7]
            simp only [xs_up]
            exact v
          · have hi3 : i < nf := by omega
            rw [eni 18 i hi3 (by decide) (by decide), eni 19 i hi3 (by decide) (by decide), eni 20 i hi3 (by decide) (by decide), eni 21 i hi3 (by decide) (by decide), eni 22 i hi3 (by decide) (by decide), eni 23 i hi3 (by decide) (by decide), eni 28 i hi3 (by decide) (by decide), eni 29 i hi3 (by decide) (by decide), eni 30 i hi3 (by decide) (by decide)]
            exact hC i hi3
        · have hi2 : i ≠ (Z 7 0).toNatClampNeg := by rw [n7]; omega
          rw [xs_nF_ni hi2 (by decide) (by decide), xs_nF_ni hi2 (by decide) (by decide), xs_nF_ni hi2 (by decide) (by decide), xs_nF_ni hi2 (by decide) (by decide), xs_nF_ni hi2 (by decide) (by decide), xs_nF_ni hi2 (by decide) (by decide), xs_nF_ni hi2 (by decide) (by decide)]
          exact hD.1 i (by omega)
        · have q := hG i hi
          refine ⟨q.1, ?_⟩
          rcases q.2 with e | e
          · exact Or.inl e
          · refine Or.inr ⟨e.1, ?_⟩
            have : (Z 32 i).toInt < nf := e.2
            show (Z 32 i).toInt < ((nf + 1 : Nat) : Int)
            omega
        · have q := hY.1 i hi
          refine ⟨⟨q.1.1, ?_⟩, q.2⟩
          have : (Z 41 i).toInt < nf := q.1.2
          show (Z 41 i).toInt < ((nf + 1 : Nat) : Int)
          omega
        · show Z 61 0 = _
          rw [sI_succ, v0 27 (by decide), Int32.add_zero, hS.1]
          exact sI_congr (fun i hi => (eni 27 i hi (by decide) (by decide)).symm)
        · show Z 62 f = _
          rw [sI_succ]
          have e1 : (if xs_nF j p2 p3 p4 p5 Z 18 nf = Int32.ofNat f then xs_nF j p2 p3 p4 p5 Z 27 nf else 0) = 0 := by
            rw [v0 27 (by decide)]
            exact ite_self _
          rw [e1, Int32.add_zero, hS.2 f hf6]
          refine sI_congr (fun i hi => ?_)
          show _ = if xs_nF j p2 p3 p4 p5 Z 18 i = Int32.ofNat f then xs_nF j p2 p3 p4 p5 Z 27 i else 0
          rw [eni 18 i hi (by decide) (by decide), eni 27 i hi (by decide) (by decide)]
        · have e9 : (Z 90 0 + 1).toInt = (Z 90 0).toInt + 1 := i32_add (b := 1) (by show _ ≤ (Z 90 0).toInt + 1; omega) (by show (Z 90 0).toInt + 1 < _; omega)
          show 0 ≤ (Z 90 0 + 1).toInt ∧ (Z 90 0 + 1).toInt ≤ ((nf + 1 : Nat) : Int) + nl + 8 * (Z 6 0).toInt
          rw [e9]
          omega
        · rw [h15, sI_succ, v0 25 (by decide), Int32.add_zero]
          exact sI_congr (fun i hi => (eni 25 i hi (by decide) (by decide)).symm)
        · rw [h16, sI_succ, v0 26 (by decide), Int32.add_zero]
          exact sI_congr (fun i hi => (eni 26 i hi (by decide) (by decide)).symm)
    · rw [if_neg c3, if_neg c3]
      exact (pe_ref h (by decide)).mono mono
theorem RI.fz (h : RI nf nl np Z Y) {j : Nat} {v : Int32} (hj : j < nf) (hv : v = 0 ∨ v = 1) : RI nf nl np (xs_up Z 30 j v) Y := by
  obtain ⟨⟨hA, hB, hC, hD, hG, hL, hY, hS, hT⟩, h15, h16⟩ := id h
  refine ⟨⟨hA, hB, fun i hi => ?_, ⟨fun i hi => ?_, hD.2⟩, hG, hL, hY, hS, hT⟩, h15, h16⟩
  · show HP (Z 18 i) (Z 19 i) (Z 20 i) (Z 21 i) (Z 22 i) (Z 23 i) (Z 28 i) (Z 29 i) (xs_up Z 30 j v 30 i)
    have q := hC i hi
    by_cases e : i = j
    · rw [e, xs_up_eq]
      rw [e] at q
      exact ⟨q.1, q.2.1, q.2.2.1, q.2.2.2.1, q.2.2.2.2.1, q.2.2.2.2.2.1, q.2.2.2.2.2.2.1, hv⟩
    · rw [xs_up_ni e]
      exact q
  · show Z 22 i = 0 ∧ Z 23 i = 0 ∧ Z 25 i = 0 ∧ Z 26 i = 0 ∧ Z 27 i = 0 ∧ Z 29 i = 0 ∧ xs_up Z 30 j v 30 i = 0
    rw [xs_up_ni (by omega)]
    exact hD.1 i hi
theorem ev_thaw0 {j : Nat} {v : Int32} (h : Z 30 j = 0 ∨ Z 22 j ≤ 0) : g_X6_thaw j v Z = some (0, xs_up Z 30 j 0) := by
  unfold g_X6_thaw g_X6_thaw_b18 g_X6_thaw_b19
  by_cases e : Z 30 j = 0
  · rw [if_pos e, wZ_ok (Or.inl rfl)]
    rfl
  · rw [if_neg e, if_pos (by rcases h with h | h; exact absurd h e; exact h), wZ_ok (Or.inl rfl)]
    rfl
theorem ev_thaw1 {j : Nat} {v : Int32} (h1 : ¬ Z 30 j = 0) (h2 : ¬ Z 22 j ≤ 0) : g_X6_thaw j v Z = some (1, xs_up (xs_up Z 30 j 0) 24 j v) := by
  unfold g_X6_thaw g_X6_thaw_b19
  rw [if_neg h1, if_neg h2, wZ_ok (Or.inl rfl)]
  rfl
theorem HP.z {a b c d e f g h i : Int32} (q : HP a b c d e f g h i) : e ≤ 0 ↔ e = 0 := by
  have := q.2.1.2.1
  rw [i32_le, i32_eq]
  show e.toInt ≤ 0 ↔ e.toInt = 0
  omega
theorem pe_frost0 {N : Nat} {p1 : Int32} (hp : p1 = 0 ∨ p1 = 1) : ∀ (d j n1 n2 : Nat) (c : Int32) (Z Y : xs_S), RI nf nl np Z Y → j + d = nf → d < n1 → d < n2 → PR (RI nf nl np) (g_X9_frost_b24 N n1 p1 c (Int32.ofNat j) Z) (g_X10_frost_b24 N n2 p1 c (Int32.ofNat j) (xs_mg Z Y)) := by
  intro d
  induction d with
  | zero =>
    intro j n1 n2 c Z Y h hj h1 h2
    obtain ⟨m1, rfl⟩ : ∃ m, n1 = m + 1 := ⟨n1 - 1, by omega⟩
    obtain ⟨m2, rfl⟩ : ∃ m, n2 = m + 1 := ⟨n2 - 1, by omega⟩
    have h7 : Z 7 0 = Int32.ofNat nf := h.1.1.2.1.1
    have hn : nf ≤ 16 := h.1.1.1.1
    unfold g_X9_frost_b24 g_X10_frost_b24
    rw [if_pos (ev_le h7 (by omega) (by omega) (by omega)), if_pos (ev_le (v := xs_mg Z Y 7 0) h7 (by omega) (by omega) (by omega))]
    exact PR.ret h
  | succ d ih =>
    intro j n1 n2 c Z Y h hj h1 h2
    obtain ⟨m1, rfl⟩ : ∃ m, n1 = m + 1 := ⟨n1 - 1, by omega⟩
    obtain ⟨m2, rfl⟩ : ∃ m, n2 = m + 1 := ⟨n2 - 1, by omega⟩
    have h7 : Z 7 0 = Int32.ofNat nf := h.1.1.2.1.1
    have hn : nf ≤ 16 := h.1.1.1.1
    have hj16 : j < 16 := by omega
    have hz := (h.1.2.2.1 j (by omega)).z
    have nx := fun c Z Y h => ih (j + 1) m1 m2 c Z Y h (by omega) (by omega) (by omega)
    rw [← i32_ofadd1 (by omega)] at nx
    unfold g_X9_frost_b24 g_X10_frost_b24 g_X9_frost_b75 g_X9_frost_b78 g_X10_frost_b72 g_X10_frost_b117
    rw [if_neg (ev_nle h7 (by omega) (by omega)), if_neg (ev_nle (v := xs_mg Z Y 7 0) h7 (by omega) (by omega)), gt_ok h7 (by omega) (by omega)]
    simp only [xs_bnd_some, xs_lt_eq, Option.bind_some, bh_cs_n, bh_cs_s, if_true, if_false, i32_10, xs_retZ1, xs_retZ0]
    rcases hp with rfl | rfl
    · rw [if_pos rfl, if_pos rfl, if_pos rfl, ld_ok hj16 (by decide)]
      simp only [xs_bnd_some, xs_lt_eq, Option.bind_some, bh_cs_n, bh_cs_s, if_true, if_false, i32_10, xs_retZ1, xs_retZ0, mg_30]
      by_cases e1 : Z 30 j = 0
      · rw [ev_thaw0 (Or.inl e1), xs_up_same e1, if_pos e1]
        simp only [xs_bnd_some, xs_lt_eq, Option.bind_some, bh_cs_n, bh_cs_s, if_true, if_false, i32_10, xs_retZ1, xs_retZ0]
        exact nx c Z Y h
      · rw [if_neg e1, stZ_ok hj16 (by decide) (Or.inl rfl), mg_up (by decide)]
        simp only [xs_bnd_some, xs_lt_eq, Option.bind_some, bh_cs_n, bh_cs_s, if_true, if_false, i32_10, xs_retZ1, xs_retZ0]
        rw [ld_ok hj16 (by decide)]
        simp only [xs_bnd_some, xs_lt_eq, Option.bind_some, bh_cs_n, bh_cs_s, if_true, if_false, i32_10, xs_retZ1, xs_retZ0]
        by_cases e2 : Z 22 j = 0
        · rw [ev_thaw0 (Or.inr (hz.mpr e2)), if_pos (show xs_mg (xs_up Z 30 j 0) Y 22 j = 0 from e2)]
          simp only [xs_bnd_some, xs_lt_eq, Option.bind_some, bh_cs_n, bh_cs_s, if_true, if_false, i32_10, xs_retZ1, xs_retZ0]
          exact nx c _ Y (h.fz (by omega) (Or.inl rfl))
        · rw [ev_thaw1 e1 (fun z => e2 (hz.mp z)), if_neg (show ¬ xs_mg (xs_up Z 30 j 0) Y 22 j = 0 from e2), st_ok hj16 (by decide), mg_up (by decide)]
          simp only [xs_bnd_some, xs_lt_eq, Option.bind_some, bh_cs_n, bh_cs_s, if_true, if_false, i32_10, xs_retZ1, xs_retZ0]
          have h' : RI nf nl np (xs_up (xs_up Z 30 j 0) 24 j (Z 6 0)) Y := h.fz (by omega) (Or.inl rfl)
          exact nx (c + 1) _ Y h'
    · rw [if_neg (by decide), if_neg (by decide), ld_ok hj16 (by decide)]
      simp only [xs_bnd_some, xs_lt_eq, Option.bind_some, bh_cs_n, bh_cs_s, if_true, if_false, i32_10, xs_retZ1, xs_retZ0, mg_22]
      unfold g_X6_freeze
      by_cases e1 : Z 22 j = 0
      · rw [if_pos e1, if_pos (hz.mpr e1)]
        simp only [xs_bnd_some, xs_lt_eq, Option.bind_some, bh_cs_n, bh_cs_s, if_true, if_false, i32_10, xs_retZ1, xs_retZ0]
        exact nx c Z Y h
      · rw [if_neg e1, if_neg (fun z => e1 (hz.mp z)), ld_ok hj16 (by decide)]
        simp only [xs_bnd_some, xs_lt_eq, Option.bind_some, bh_cs_n, bh_cs_s, if_true, if_false, i32_10, xs_retZ1, xs_retZ0, mg_29]
        by_cases e2 : Z 29 j = 0
        · rw [if_pos e2, if_pos e2, wZ_ok (Or.inr rfl), stZ_ok hj16 (by decide) (Or.inr rfl), mg_up (by decide)]
          simp only [xs_bnd_some, xs_lt_eq, Option.bind_some, bh_cs_n, bh_cs_s, if_true, if_false, i32_10, xs_retZ1, xs_retZ0]
          rw [st_ok hj16 (by decide), mg_up (by decide)]
          simp only [xs_bnd_some, xs_lt_eq, Option.bind_some, bh_cs_n, bh_cs_s, if_true, if_false, i32_10, xs_retZ1, xs_retZ0]
          have h' : RI nf nl np (xs_up (xs_up Z 30 j 1) 24 j (-9)) Y := h.fz (by omega) (Or.inr rfl)
          exact nx (c + 1) _ Y h'
        · rw [if_neg e2, if_neg e2]
          simp only [xs_bnd_some, xs_lt_eq, Option.bind_some, bh_cs_n, bh_cs_s, if_true, if_false, i32_10, xs_retZ1, xs_retZ0]
          exact nx c Z Y h
theorem pe_frost {N : Nat} (hN : 4000 ≤ N) (h : RI nf nl np Z Y) (p1 : Int32) (hp : p1 = 0 ∨ p1 = 1) : PR (RI nf nl np) (g_X9_frost N p1 Z) (g_X10_frost N p1 (xs_mg Z Y)) := by
  unfold g_X9_frost g_X10_frost
  by_cases e : Z 17 0 = p1
  · rw [if_pos e, if_pos (show xs_mg Z Y 17 0 = p1 from e)]
    exact pe_ref h (by decide)
  · rw [if_neg e, if_neg (show ¬ xs_mg Z Y 17 0 = p1 from e), wZ_ok hp, wrZ_ok hp, mg_up (by decide)]
    simp only [xs_bnd_some, xs_lt_eq, Option.bind_some, bh_cs_n, bh_cs_s, if_true, if_false, i32_10, xs_retZ1, xs_retZ0]
    have hn : nf ≤ 16 := h.1.1.1.1
    obtain ⟨⟨hA, hR⟩, hr⟩ := h
    have h' : RI nf nl np (xs_up Z 17 0 p1) Y := ⟨⟨⟨hA.1, hA.2.1, hA.2.2.1, hA.2.2.2.1, hA.2.2.2.2.1, hp⟩, hR⟩, hr⟩
    exact pe_frost0 hp nf 0 N N 0 _ Y h' (by omega) (by omega) (by omega)
/-! next -/
def Best (Z : xs_S) (S : Nat → Prop) (o : Option Nat) : Prop := match o with
  | none => ∀ g, ¬ S g
  | some b => S b ∧ ∀ g, S g → OW Z g < OW Z b ∨ OW Z g = OW Z b ∧ b ≤ g
theorem Best.uniq {S : Nat → Prop} {o o' : Option Nat} (h : Best Z S o) (h' : Best Z S o') : o = o' := by
  cases o with
  | none => cases o' with
    | none => rfl
    | some b => exact absurd h'.1 (h b)
  | some a => cases o' with
    | none => exact absurd h.1 (h' a)
    | some b =>
      have q1 := h.2 b h'.1
      have q2 := h'.2 a h.1
      rw [i32_lt, i32_eq] at q1 q2
      have : a = b := by omega
      rw [this]
/-- one more comes to the set -/
theorem Best.step {S S' : Nat → Prop} {o : Option Nat} {f : Nat} (h : Best Z S o) (hS : ∀ g, S' g ↔ S g ∨ g = f) :
    (o = none → Best Z S' (some f)) ∧ (∀ b, o = some b → (OW Z b < OW Z f ∨ OW Z b = OW Z f ∧ f ≤ b) → Best Z S' (some f)) ∧ (∀ b, o = some b → (OW Z f < OW Z b ∨ OW Z f = OW Z b ∧ b ≤ f) → Best Z S' (some b)) := by
  refine ⟨?_, ?_, ?_⟩
  · rintro rfl
    refine ⟨(hS f).mpr (Or.inr rfl), fun g hg => ?_⟩
    rcases (hS g).mp hg with q | q
    · exact absurd q (h g)
    · rw [q]; exact Or.inr ⟨rfl, Nat.le_refl _⟩
  · rintro b rfl hb
    refine ⟨(hS f).mpr (Or.inr rfl), fun g hg => ?_⟩
    rcases (hS g).mp hg with q | q
    · have := h.2 g q
      rw [i32_lt, i32_eq] at this hb ⊢
      omega
    · rw [q]; exact Or.inr ⟨rfl, Nat.le_refl _⟩
  · rintro b rfl hb
    refine ⟨(hS b).mpr (Or.inl h.1), fun g hg => ?_⟩
    rcases (hS g).mp hg with q | q
    · exact h.2 g q
    · rw [q]; exact hb
theorem Best.same {S S' : Nat → Prop} {o : Option Nat} (h : Best Z S o) (hS : ∀ g, S' g ↔ S g) : Best Z S' o := by
  cases o with
  | none => exact fun g q => h g ((hS g).mp q)
  | some b => exact ⟨(hS b).mpr h.1, fun g q => h.2 g ((hS g).mp q)⟩
def SK (nl : Nat) (Z : xs_S) (k : Nat) : Nat → Prop := fun g => ∃ i, i < k ∧ Z 18 i = Int32.ofNat g ∧ LF nl Z i
theorem SK_lt (hC : PC nf Z) {g : Nat} (h : SK nl Z nf g) (hg : g < 2147483648) : g < 6 := by
  obtain ⟨i, hi, e, -⟩ := h
  have := (hC i hi).1
  rw [e, i32_of hg] at this
  omega
theorem ev_mo {N : Nat} (hN : 4000 ≤ N) (h : PI nf nl np Z) : ∀ (d j n : Nat) (o : Option Nat), j + d = nf → d < n → (∀ b, o = some b → b < 6) → Best Z (fun g => g < 6 ∧ SK nl Z j g) o → ∃ o', g_X9_mostOwed_b4 N n o (Int32.ofNat j) Z = some (o', Z) ∧ (∀ b, o' = some b → b < 6) ∧ Best Z (fun g => g < 6 ∧ SK nl Z nf g) o' := by
  obtain ⟨hA, hB, hC, hD, hG, hL, hY, hS, hT⟩ := id h
  have h7 : Z 7 0 = Int32.ofNat nf := hA.2.1.1
  have hn : nf ≤ 16 := hA.1.1
  intro d
  induction d with
  | zero =>
    intro j n o hj h1 ho hb
    obtain ⟨m, rfl⟩ : ∃ m, n = m + 1 := ⟨n - 1, by omega⟩
    unfold g_X9_mostOwed_b4
    rw [if_pos (ev_le h7 (by omega) (by omega) (by omega))]
    have : j = nf := by omega
    subst this
    exact ⟨o, rfl, ho, hb⟩
  | succ d ih =>
    intro j n o hj h1 ho hb
    obtain ⟨m, rfl⟩ : ∃ m, n = m + 1 := ⟨n - 1, by omega⟩
    have hjf : j < nf := by omega
    have hfa := (hC j hjf).1
    obtain ⟨f, hf, ef⟩ := i32_inI (n := 6) hfa.1 hfa.2
    unfold g_X9_mostOwed_b4 g_X9_mostOwed_b57 g_X9_mostOwed_b62
    rw [if_neg (ev_nle h7 (by omega) (by omega)), gt_ok h7 hjf (by omega)]
    simp only [xs_bnd_some, xs_lt_eq, Option.bind_some, bh_cs_n, bh_cs_s, if_true, if_false, i32_10, xs_retZ1, xs_retZ0]
    rw [ev_spare hN hA hjf, i32_ofadd1 (by omega)]
    simp only [xs_bnd_some, xs_lt_eq, Option.bind_some, bh_cs_n, bh_cs_s, if_true, if_false, i32_10, xs_retZ1, xs_retZ0]
    rw [ef, rf_ok (by omega)]
    simp only [xs_bnd_some, xs_lt_eq, Option.bind_some, bh_cs_n, bh_cs_s, if_true, if_false, i32_10, xs_retZ1, xs_retZ0]
    have hsame : ¬ LF nl Z j → ∀ g, (g < 6 ∧ SK nl Z (j + 1) g) ↔ (g < 6 ∧ SK nl Z j g) := by
      intro hl g
      constructor
      · rintro ⟨hg, i, hi, e1, e2⟩
        refine ⟨hg, i, ?_, e1, e2⟩
        by_cases e : i = j
        · rw [e] at e2; exact absurd e2 hl
        · omega
      · rintro ⟨hg, i, hi, e1, e2⟩
        exact ⟨hg, i, by omega, e1, e2⟩
    have hmore : LF nl Z j → ∀ g, (g < 6 ∧ SK nl Z (j + 1) g) ↔ (g < 6 ∧ SK nl Z j g) ∨ g = f := by
      intro hl g
      constructor
      · rintro ⟨hg, i, hi, e1, e2⟩
        by_cases e : i = j
        · rw [e, ef] at e1
          exact Or.inr ((i32_ofeq (by omega) (by omega)).mp e1).symm
        · exact Or.inl ⟨hg, i, by omega, e1, e2⟩
      · rintro (⟨hg, i, hi, e1, e2⟩ | rfl)
        · exact ⟨hg, i, by omega, e1, e2⟩
        · exact ⟨hf, j, by omega, ef, hl⟩
    by_cases hl : LF nl Z j
    · rw [if_pos hl]
      simp only [xs_bnd_some, xs_lt_eq, Option.bind_some, bh_cs_n, bh_cs_s, if_true, if_false, i32_10, xs_retZ1, xs_retZ0]
      have st := hb.step (hmore hl)
      cases o with
      | none =>
        exact ih (j + 1) m (some f) (by omega) (by omega) (fun b hb => by cases hb; exact hf) (st.1 rfl)
      | some a =>
        have ha := ho a rfl
        simp only [xs_bnd_some, xs_lt_eq, Option.bind_some, bh_cs_n, bh_cs_s, if_true, if_false, i32_10, xs_retZ1, xs_retZ0]
        unfold g_X0_comesBefore g_X0_claim
        simp only [xs_bnd_some, xs_lt_eq, Option.bind_some, bh_cs_n, bh_cs_s, if_true, if_false, i32_10, xs_retZ1, xs_retZ0]
        rw [hB.2.2.1 a ha, hB.2.2.1 f hf]
        show ∃ o', xs_bnd (if OW Z a < OW Z f then _ else if OW Z f = OW Z a then _ else _) _ = _ ∧ _
        by_cases c1 : OW Z a < OW Z f
        · rw [if_pos c1]
          simp only [xs_bnd_some, xs_lt_eq, Option.bind_some, bh_cs_n, bh_cs_s, if_true, if_false, i32_10, xs_retZ1, xs_retZ0]
          rw [ef, rf_ok (by omega)]
          exact ih (j + 1) m (some f) (by omega) (by omega) (fun b hb => by cases hb; exact hf) (st.2.1 a rfl (Or.inl c1))
        · rw [if_neg c1]
          by_cases c2 : OW Z f = OW Z a
          · rw [if_pos c2]
            by_cases c3 : a ≤ f
            · rw [if_pos ((i32_ofle (by omega) (by omega)).mpr c3)]
              simp only [xs_bnd_some, xs_lt_eq, Option.bind_some, bh_cs_n, bh_cs_s, if_true, if_false, i32_10, xs_retZ1, xs_retZ0]
              exact ih (j + 1) m (some a) (by omega) (by omega) ho (st.2.2 a rfl (Or.inr ⟨c2, c3⟩))
            · rw [if_neg (fun z => c3 ((i32_ofle (by omega) (by omega)).mp z))]
              simp only [xs_bnd_some, xs_lt_eq, Option.bind_some, bh_cs_n, bh_cs_s, if_true, if_false, i32_10, xs_retZ1, xs_retZ0]
              rw [ef, rf_ok (by omega)]
              exact ih (j + 1) m (some f) (by omega) (by omega) (fun b hb => by cases hb; exact hf) (st.2.1 a rfl (Or.inr ⟨c2.symm, by omega⟩))
          · rw [if_neg c2]
            simp only [xs_bnd_some, xs_lt_eq, Option.bind_some, bh_cs_n, bh_cs_s, if_true, if_false, i32_10, xs_retZ1, xs_retZ0]
            refine ih (j + 1) m (some a) (by omega) (by omega) ho (st.2.2 a rfl (Or.inl ?_))
            rw [i32_lt] at c1 ⊢
            rw [i32_eq] at c2
            omega
    · rw [if_neg hl]
      simp only [xs_bnd_some, xs_lt_eq, Option.bind_some, bh_cs_n, bh_cs_s, if_true, if_false, i32_10, xs_retZ1, xs_retZ0]
      exact ih (j + 1) m o (by omega) (by omega) ho (hb.same (hsame hl))
theorem ev_mostOwed {N : Nat} (hN : 4000 ≤ N) (h : PI nf nl np Z) : ∃ o, g_X9_mostOwed N Z = some (o, Z) ∧ (∀ b, o = some b → b < 6) ∧ Best Z (fun g => g < 6 ∧ SK nl Z nf g) o := by
  unfold g_X9_mostOwed
  exact ev_mo hN h nf 0 N none (by omega) (by have := h.1.1.1; omega) (fun b hb => by cases hb) (fun g q => by obtain ⟨_, i, hi, _⟩ := q; omega)
/-- the reference: whether a farmer has any -/
theorem ev_any {N : Nat} (hN : 4000 ≤ N) (h : PI nf nl np Z) {k5 : Int32 → Int32 → xs_S → Option (Int32 × xs_S)} {x1 : Int32} {f : Nat} (hf : f < 6) : ∀ (d j n : Nat), j + d = nf → d + 1 < n → ¬ SK nl Z j f → (SK nl Z nf f ∧ g_X10_nextOf_b16 N k5 n x1 (Int32.ofNat f) 0 (Int32.ofNat j) (xs_mg Z Y) = g_X10_nextOf_b61 N k5 x1 (Int32.ofNat f) 1 (xs_mg Z Y)) ∨ (¬ SK nl Z nf f ∧ g_X10_nextOf_b16 N k5 n x1 (Int32.ofNat f) 0 (Int32.ofNat j) (xs_mg Z Y) = g_X10_nextOf_b61 N k5 x1 (Int32.ofNat f) 0 (xs_mg Z Y)) := by
  have hA := h.1
  have h7 : xs_mg Z Y 7 0 = Int32.ofNat nf := hA.2.1.1
  have hn : nf ≤ 16 := hA.1.1
  intro d
  induction d with
  | zero =>
    intro j n hj h1 hs
    obtain ⟨m, rfl⟩ : ∃ m, n = m + 1 := ⟨n - 1, by omega⟩
    have : j = nf := by omega
    subst this
    refine Or.inr ⟨hs, ?_⟩
    unfold g_X10_nextOf_b16
    rw [if_pos (ev_le h7 (by omega) (by omega) (by omega))]
  | succ d ih =>
    intro j n hj h1 hs
    obtain ⟨m, rfl⟩ : ∃ m, n = m + 1 := ⟨n - 1, by omega⟩
    have hjf : j < nf := by omega
    have hj16 : j < 16 := by omega
    have hno : ¬ (Z 18 j = Int32.ofNat f ∧ LF nl Z j) → ¬ SK nl Z (j + 1) f := by
      rintro q ⟨i, hi, e1, e2⟩
      by_cases e : i = j
      · rw [e] at e1 e2; exact q ⟨e1, e2⟩
      · exact hs ⟨i, by omega, e1, e2⟩
    unfold g_X10_nextOf_b16 g_X10_nextOf_b53 g_X10_nextOf_b54
    rw [if_neg (ev_nle h7 (by omega) (by omega)), if_pos rfl, ld_ok hj16 (by decide)]
    simp only [xs_bnd_some, xs_lt_eq, Option.bind_some, bh_cs_n, bh_cs_s, if_true, if_false, i32_10, xs_retZ1, xs_retZ0, mg_18]
    by_cases e1 : Z 18 j = Int32.ofNat f
    · rw [if_pos e1, ev_isLeft hN h hjf]
      simp only [xs_bnd_some, xs_lt_eq, Option.bind_some, bh_cs_n, bh_cs_s, if_true, if_false, i32_10, xs_retZ1, xs_retZ0]
      rw [i32_ofadd1 (by omega)]
      by_cases e2 : LF nl Z j
      · rw [if_pos e2]
        simp only [xs_bnd_some, xs_lt_eq, Option.bind_some, bh_cs_n, bh_cs_s, if_true, if_false, i32_10, xs_retZ1, xs_retZ0]
        refine Or.inl ⟨⟨j, hjf, e1, e2⟩, ?_⟩
        obtain ⟨m', rfl⟩ : ∃ m', m = m' + 1 := ⟨m - 1, by omega⟩
        unfold g_X10_nextOf_b16
        by_cases e3 : nf ≤ j + 1
        · rw [if_pos (ev_le h7 (by omega) e3 (by omega))]
        · rw [if_neg (ev_nle h7 (by omega) (by omega)), if_neg (by decide)]
      · rw [if_neg e2]
        simp only [xs_bnd_some, xs_lt_eq, Option.bind_some, bh_cs_n, bh_cs_s, if_true, if_false, i32_10, xs_retZ1, xs_retZ0]
        exact ih (j + 1) m (by omega) (by omega) (hno (fun z => e2 z.2))
    · rw [if_neg e1, i32_ofadd1 (by omega)]
      exact ih (j + 1) m (by omega) (by omega) (hno (fun z => e1 z.1))
theorem ev_nx {N : Nat} (hN : 4000 ≤ N) (h : PI nf nl np Z) : ∀ (d f n : Nat) (o : Option Nat), f + d = 6 → d < n → (∀ b, o = some b → b < f) → Best Z (fun g => g < f ∧ SK nl Z nf g) o → ∃ o', g_X10_nextOf_b5 N n (xs_fr (-9) o) (Int32.ofNat f) (xs_mg Z Y) = some (xs_fr (-9) o', xs_mg Z Y) ∧ Best Z (fun g => g < 6 ∧ SK nl Z nf g) o' := by
  obtain ⟨hA, hB, hC, hD, hG, hL, hY, hS, hT⟩ := id h
  intro d
  induction d with
  | zero =>
    intro f n o hj h1 ho hb
    obtain ⟨m, rfl⟩ : ∃ m, n = m + 1 := ⟨n - 1, by omega⟩
    have : f = 6 := by omega
    subst this
    unfold g_X10_nextOf_b5
    rw [if_pos (by decide)]
    exact ⟨o, rfl, hb⟩
  | succ d ih =>
    intro f n o hj h1 ho hb
    obtain ⟨m, rfl⟩ : ∃ m, n = m + 1 := ⟨n - 1, by omega⟩
    have hf : f < 6 := by omega
    unfold g_X10_nextOf_b5
    rw [if_neg (show ¬ (6 : Int32) ≤ Int32.ofNat f from ev_nle (m := 6) rfl (by decide) hf)]
    have hn : nf ≤ 16 := hA.1.1
    have nx : ∀ o, (∀ b, o = some b → b < f + 1) → Best Z (fun g => g < f + 1 ∧ SK nl Z nf g) o → ∃ o', g_X10_nextOf_b5 N m (xs_fr (-9) o) (Int32.ofNat f + 1) (xs_mg Z Y) = some (xs_fr (-9) o', xs_mg Z Y) ∧ Best Z (fun g => g < 6 ∧ SK nl Z nf g) o' := by
      intro o ho hb
      rw [i32_ofadd1 (by omega)]
      exact ih (f + 1) m o (by omega) (by omega) ho hb
    have ho' : ∀ b, o = some b → b < f + 1 := fun b hb => by have := ho b hb; omega
    rcases ev_any (Y := Y) (k5 := g_X10_nextOf_b5 N m) (x1 := xs_fr (-9) o) hN h hf nf 0 N (by omega) (by omega) (fun q => by obtain ⟨i, hi, _⟩ := q; omega) with ⟨q1, q2⟩ | ⟨q1, q2⟩
    · rw [show (0 : Int32) = Int32.ofNat 0 from rfl] at q2 ⊢
      rw [q2]
      have st := hb.step (S' := fun g => g < f + 1 ∧ SK nl Z nf g) (f := f) (fun g => by
        constructor
        · rintro ⟨a, b⟩
          by_cases e : g = f
          · exact Or.inr e
          · exact Or.inl ⟨by omega, b⟩
        · rintro (⟨a, b⟩ | rfl)
          · exact ⟨by omega, b⟩
          · exact ⟨by omega, q1⟩)
      unfold g_X10_nextOf_b61 g_X10_nextOf_b82 g_X10_nextOf_b84
      rw [if_neg (by decide)]
      cases o with
      | none =>
        rw [if_pos (show xs_fr (-9) none < 0 by decide)]
        exact nx (some f) (fun b hb => by cases hb; omega) (st.1 rfl)
      | some b =>
        have hb6 := ho b rfl
        rw [if_neg (show ¬ xs_fr (-9) (some b) < 0 from i32_nneg (by omega)), ev_owedOf hN hf hA hS]
        simp only [xs_bnd_some, xs_lt_eq, Option.bind_some, bh_cs_n, bh_cs_s, if_true, if_false, i32_10, xs_retZ1, xs_retZ0]
        rw [show xs_fr (-9) (some b) = Int32.ofNat b from rfl, ev_owedOf hN (by omega) hA hS]
        simp only [xs_bnd_some, xs_lt_eq, Option.bind_some, bh_cs_n, bh_cs_s, if_true, if_false, i32_10, xs_retZ1, xs_retZ0]
        by_cases c : OW Z f ≤ OW Z b
        · rw [if_pos c]
          refine nx (some b) ho' (st.2.2 b rfl ?_)
          rw [i32_le] at c
          rw [i32_lt, i32_eq]
          omega
        · rw [if_neg c]
          refine nx (some f) (fun b hb => by cases hb; omega) (st.2.1 b rfl (Or.inl ?_))
          rw [i32_le] at c
          rw [i32_lt]
          omega
    · rw [show (0 : Int32) = Int32.ofNat 0 from rfl] at q2 ⊢
      rw [q2]
      unfold g_X10_nextOf_b61 g_X10_nextOf_b84
      rw [if_pos (show Int32.ofNat 0 = 0 from rfl)]
      refine nx o ho' (hb.same (fun g => ?_))
      constructor
      · rintro ⟨a, b⟩
        refine ⟨?_, b⟩
        by_cases e : g = f
        · rw [e] at b; exact absurd b q1
        · omega
      · rintro ⟨a, b⟩
        exact ⟨by omega, b⟩
theorem ev_nextOf {N : Nat} (hN : 4000 ≤ N) (h : PI nf nl np Z) : ∃ o, g_X9_mostOwed N Z = some (o, Z) ∧ g_X10_nextOf N (xs_mg Z Y) = some (xs_fr (-9) o, xs_mg Z Y) ∧ ∀ b, o = some b → b < 6 := by
  obtain ⟨o, h1, h2, h3⟩ := ev_mostOwed hN h
  obtain ⟨o', q1, q2⟩ := ev_nx (Y := Y) hN h 6 0 N none (by omega) (by omega) (fun b hb => by cases hb) (fun g q => by omega)
  have := h3.uniq q2
  subst this
  exact ⟨o, h1, q1, h2⟩
theorem pe_next {N : Nat} (hN : 4000 ≤ N) (h : RI nf nl np Z Y) : PR (RI nf nl np) (g_X9_next N Z) (g_X10_next N (xs_mg Z Y)) := by
  obtain ⟨o, h1, h2, h3⟩ := ev_nextOf (Y := Y) hN h.1
  unfold g_X9_next g_X10_next
  rw [h1, h2]
  cases o with
  | none => exact PR.ret h
  | some b =>
    simp only [xs_bnd_some, xs_lt_eq, Option.bind_some, bh_cs_n, bh_cs_s, if_true, if_false, i32_10, xs_retZ1, xs_retZ0]
    rw [h.1.2.1.2.2.1 b (h3 b rfl)]
    exact PR.ret h
/-! turn -/
theorem ev_home {N : Nat} (hN : 4000 ≤ N) (hA : PA nf nl np Z) : ∀ (d j n1 n2 : Nat), j + d = nl → d < n1 → d < n2 → (g_X9_firstHome_b2 N n1 (Int32.ofNat j) Z = some (none, Z) ∧ g_X10_turn_b2 N n2 (Int32.ofNat j) (xs_mg Z Y) = g_X10_turn_b25 N (Int32.ofNat nl) (xs_mg Z Y)) ∨ ∃ l, l < nl ∧ g_X9_firstHome_b2 N n1 (Int32.ofNat j) Z = some (some l, Z) ∧ g_X10_turn_b2 N n2 (Int32.ofNat j) (xs_mg Z Y) = g_X10_turn_b25 N (Int32.ofNat l) (xs_mg Z Y) := by
  have h8 : Z 8 0 = Int32.ofNat nl := hA.2.1.2.1
  have h8' : xs_mg Z Y 8 0 = Int32.ofNat nl := hA.2.1.2.1
  have hn : nl ≤ 8 := hA.1.2.1
  intro d
  induction d with
  | zero =>
    intro j n1 n2 hj h1 h2
    obtain ⟨m1, rfl⟩ : ∃ m, n1 = m + 1 := ⟨n1 - 1, by omega⟩
    obtain ⟨m2, rfl⟩ : ∃ m, n2 = m + 1 := ⟨n2 - 1, by omega⟩
    left
    unfold g_X9_firstHome_b2 g_X10_turn_b2
    rw [if_pos (ev_le h8 (by omega) (by omega) (by omega)), if_pos (ev_le h8' (by omega) (by omega) (by omega)), show j = nl by omega]
    exact ⟨rfl, rfl⟩
  | succ d ih =>
    intro j n1 n2 hj h1 h2
    obtain ⟨m1, rfl⟩ : ∃ m, n1 = m + 1 := ⟨n1 - 1, by omega⟩
    obtain ⟨m2, rfl⟩ : ∃ m, n2 = m + 1 := ⟨n2 - 1, by omega⟩
    have hj8 : j < 8 := by omega
    unfold g_X9_firstHome_b2 g_X10_turn_b2
    rw [if_neg (ev_nle h8 (by omega) (by omega)), if_neg (ev_nle h8' (by omega) (by omega)), gt_ok h8 (by omega) (by omega), ld_ok hj8 (by decide)]
    simp only [xs_bnd_some, xs_lt_eq, Option.bind_some, bh_cs_n, bh_cs_s, if_true, if_false, i32_10, xs_retZ1, xs_retZ0, mg_34]
    by_cases e : Z 34 j = 0
    · rw [if_pos e, if_pos e]
      exact Or.inr ⟨j, by omega, rfl, rfl⟩
    · rw [if_neg e, if_neg e, i32_ofadd1 (by omega)]
      exact ih (j + 1) m1 m2 (by omega) (by omega) (by omega)
theorem ev_sw {N : Nat} (hN : 4000 ≤ N) (h : PI nf nl np Z) {l : Nat} {fo : Option Nat} (hfo : ∀ b, fo = some b → b < 6) : ∀ (d j n1 n2 : Nat) (o : Option Nat), j + d = nf → d < n1 → d < n2 → (∀ b, o = some b → b < nf) → ∃ o', (∀ b, o' = some b → b < nf) ∧ g_X9_sweetestOf_b4 N n1 fo o (Int32.ofNat j) Z = some (o', Z) ∧ g_X10_turn_b51 N n2 (Int32.ofNat l) (xs_fr (-9) fo) (xs_fr (-9) o) (Int32.ofNat j) (xs_mg Z Y) = (if xs_fr (-9) o' < 0 then some (xs_fr (-9) o', xs_mg Z Y) else xs_bnd (g_X10_goes (Int32.ofNat l) (xs_fr (-9) o') (xs_mg Z Y)) fun _ X7 => some (xs_fr (-9) o', X7)) := by
  obtain ⟨hA, hB, hC, hD, hG, hL, hY, hS, hT⟩ := id h
  have h7 : Z 7 0 = Int32.ofNat nf := hA.2.1.1
  have h7' : xs_mg Z Y 7 0 = Int32.ofNat nf := hA.2.1.1
  have hn : nf ≤ 16 := hA.1.1
  intro d
  induction d with
  | zero =>
    intro j n1 n2 o hj h1 h2 ho
    obtain ⟨m1, rfl⟩ : ∃ m, n1 = m + 1 := ⟨n1 - 1, by omega⟩
    obtain ⟨m2, rfl⟩ : ∃ m, n2 = m + 1 := ⟨n2 - 1, by omega⟩
    unfold g_X9_sweetestOf_b4 g_X10_turn_b51
    rw [if_pos (ev_le h7 (by omega) (by omega) (by omega)), if_pos (ev_le h7' (by omega) (by omega) (by omega))]
    exact ⟨o, ho, rfl, rfl⟩
  | succ d ih =>
    intro j n1 n2 o hj h1 h2 ho
    obtain ⟨m1, rfl⟩ : ∃ m, n1 = m + 1 := ⟨n1 - 1, by omega⟩
    obtain ⟨m2, rfl⟩ : ∃ m, n2 = m + 1 := ⟨n2 - 1, by omega⟩
    have hjf : j < nf := by omega
    have hj16 : j < 16 := by omega
    have hfa := (hC j hjf).1
    obtain ⟨f, hf, ef⟩ := i32_inI (n := 6) hfa.1 hfa.2
    have nx := fun o ho => ih (j + 1) m1 m2 o (by omega) (by omega) (by omega) ho
    rw [← i32_ofadd1 (by omega)] at nx
    have hsome : ∀ b, some j = some b → b < nf := fun b hb => by cases hb; exact hjf
    unfold g_X9_sweetestOf_b4 g_X10_turn_b51 g_X9_sweetestOf_b62 g_X9_sweetestOf_b65 g_X10_turn_b100 g_X10_turn_b103
    rw [if_neg (ev_nle h7 (by omega) (by omega)), if_neg (ev_nle h7' (by omega) (by omega)), gt_ok h7 hjf (by omega), ld_ok hj16 (by decide)]
    simp only [xs_bnd_some, xs_lt_eq, Option.bind_some, bh_cs_n, bh_cs_s, if_true, if_false, i32_10, xs_retZ1, xs_retZ0, mg_18]
    rw [ef, rf_ok (by omega)]
    have hiff : some f = fo ↔ Int32.ofNat f = xs_fr (-9) fo := by
      cases fo with
      | none =>
        constructor
        · intro e; cases e
        · intro e
          have := i32_nneg (show f < 2147483648 by omega)
          rw [e] at this
          exact absurd (show (-9 : Int32) < 0 by decide) this
      | some b =>
        have hb := hfo b rfl
        constructor
        · intro e; cases e; rfl
        · intro e
          have : f = b := (i32_ofeq (by omega) (by omega)).mp e
          rw [this]
    by_cases e : some f = fo
    · rw [if_pos e, if_pos (hiff.mp e), ev_spare hN hA hjf, ev_isLeft hN h hjf]
      simp only [xs_bnd_some, xs_lt_eq, Option.bind_some, bh_cs_n, bh_cs_s, if_true, if_false, i32_10, xs_retZ1, xs_retZ0]
      by_cases hl : LF nl Z j
      · rw [if_pos hl]
        simp only [xs_bnd_some, xs_lt_eq, Option.bind_some, bh_cs_n, bh_cs_s, if_true, if_false, i32_10, xs_retZ1, xs_retZ0]
        cases o with
        | none =>
          rw [if_pos (show xs_fr (-9) none < 0 by decide)]
          exact nx (some j) hsome
        | some b =>
          have hb := ho b rfl
          rw [if_neg (show ¬ xs_fr (-9) (some b) < 0 from i32_nneg (by omega)), ld_ok hj16 (by decide), show xs_fr (-9) (some b) = Int32.ofNat b from rfl, ld_ok (show b < 16 by omega) (by decide)]
          simp only [xs_bnd_some, xs_lt_eq, Option.bind_some, bh_cs_n, bh_cs_s, if_true, if_false, i32_10, xs_retZ1, xs_retZ0, mg_23]
          by_cases c : Z 23 j ≤ Z 23 b
          · rw [if_pos c, if_pos c]
            exact nx (some b) ho
          · rw [if_neg c, if_neg c]
            exact nx (some j) hsome
      · rw [if_neg hl]
        simp only [xs_bnd_some, xs_lt_eq, Option.bind_some, bh_cs_n, bh_cs_s, if_true, if_false, i32_10, xs_retZ1, xs_retZ0]
        exact nx o ho
    · rw [if_neg e, if_neg (fun z => e (hiff.mpr z))]
      exact nx o ho
theorem pe_turn {N : Nat} (hN : 4000 ≤ N) (h : RI nf nl np Z Y) : PR (RI nf nl np) (g_X9_turn N Z) (g_X10_turn N (xs_mg Z Y)) := by
  have hA := h.1.1
  have hn : nf ≤ 16 := hA.1.1
  have hl8 : nl ≤ 8 := hA.1.2.1
  have h8' : xs_mg Z Y 8 0 = Int32.ofNat nl := hA.2.1.2.1
  unfold g_X9_turn g_X10_turn g_X9_firstHome
  rw [show (0 : Int32) = Int32.ofNat 0 from rfl]
  rcases ev_home (Y := Y) (N := N) hN hA nl 0 N N (by omega) (by omega) (by omega) with ⟨q1, q2⟩ | ⟨l, hl, q1, q2⟩
  · rw [q1, q2]
    unfold g_X10_turn_b25
    rw [if_pos h8'.symm]
    simp only [xs_bnd_some, xs_lt_eq, Option.bind_some, bh_cs_n, bh_cs_s, if_true, if_false, i32_10, xs_retZ1, xs_retZ0]
    exact pe_ref h (by decide)
  · rw [q1, q2]
    unfold g_X10_turn_b25
    rw [if_neg (fun e => by rw [h8'] at e; have := (i32_ofeq (by omega) (by omega)).mp e; omega)]
    simp only [xs_bnd_some, xs_lt_eq, Option.bind_some, bh_cs_n, bh_cs_s, if_true, if_false, i32_10, xs_retZ1, xs_retZ0]
    obtain ⟨fo, a1, a2, a3⟩ := ev_nextOf (Y := Y) hN h.1
    rw [a1, a2]
    simp only [xs_bnd_some, xs_lt_eq, Option.bind_some, bh_cs_n, bh_cs_s, if_true, if_false, i32_10, xs_retZ1, xs_retZ0]
    unfold g_X9_sweetestOf
    obtain ⟨o, b1, b2, b3⟩ := ev_sw (Y := Y) (l := l) hN h.1 a3 nf 0 N N none (by omega) (by omega) (by omega) (fun b hb => by cases hb)
    have b2' : g_X9_sweetestOf_b4 N N fo none 0 Z = some (o, Z) := b2
    have b3' := b3
    rw [show xs_fr (-9) none = -9 from rfl, show Int32.ofNat 0 = 0 from rfl] at b3'
    rw [b2', b3']
    cases o with
    | none =>
      rw [if_pos (show xs_fr (-9) none < 0 by decide)]
      exact PR.ret h
    | some b =>
      have hb := b1 b rfl
      rw [if_neg (show ¬ xs_fr (-9) (some b) < 0 from i32_nneg (by omega)), show xs_fr (-9) (some b) = Int32.ofNat b from rfl, ev_goes (by omega) (by omega)]
      simp only [xs_bnd_some, xs_lt_eq, Option.bind_some, bh_cs_n, bh_cs_s, if_true, if_false, i32_10, xs_retZ1, xs_retZ0]
      rw [ev_setOut]
      simp only [xs_bnd_some, xs_lt_eq, Option.bind_some, bh_cs_n, bh_cs_s, if_true, if_false, i32_10, xs_retZ1, xs_retZ0]
      show PR _ (some (Z 101 b, _)) _
      rw [h.1.2.1.2.2.2 b hb]
      exact PR.ret (h.out hl hb)
end PF
