/-! ===== the three methods that make new objects ===== -/
theorem bh_bnd_some {α β : Type} {a : α} {s : bh_S} {f : α → bh_S → Option β} : bh_bnd (some (a, s)) f = f a s := rfl
theorem bh_K_setI {σ : bh_S} {c a k : Nat} {v : Int32} : bh_K (bh_setI σ c a k v) = bh_K σ := rfl
theorem bh_K_setR {σ : bh_S} {c a k : Nat} {v : Option Nat} : bh_K (bh_setR σ c a k v) = bh_K σ := rfl
theorem bh_I_setR {σ : bh_S} {c a k : Nat} {v : Option Nat} : bh_I (bh_setR σ c a k v) = bh_I σ := rfl
theorem bh_R_setI {σ : bh_S} {c a k : Nat} {v : Int32} : bh_R (bh_setI σ c a k v) = bh_R σ := rfl
theorem bh_I_setI {σ : bh_S} {c a k c' a' k' : Nat} {v : Int32} : bh_I (bh_setI σ c a k v) c' a' k' = if c' = c ∧ a' = a ∧ k' = k then v else bh_I σ c' a' k' := rfl
theorem bh_R_setR {σ : bh_S} {c a k c' a' k' : Nat} {v : Option Nat} : bh_R (bh_setR σ c a k v) c' a' k' = if c' = c ∧ a' = a ∧ k' = k then v else bh_R σ c' a' k' := rfl
theorem bh_newO_eq {σ : bh_S} {c N : Nat} : bh_newO σ c N = some (bh_z σ, bh_new σ c N 0) := rfl
theorem bh_K_new {σ : bh_S} {c N : Nat} : bh_K (bh_new σ c N 0) (bh_z σ) = c := if_pos rfl
theorem cv_ad.z {σ σb σc : bh_S} {l e e' s C C' t N : Nat} (h : cv_ad σ σb σc l e e' s C C' t N) : bh_z σ < bh_z σc := by
  rcases h.1 with ⟨_, _, _, q, _⟩ | ⟨_, _, _, _, _, q, _⟩ <;> omega
/-- the old objects of another kind -/
theorem cv_ad.old {w : Nat → Nat → Nat} {nf nl : Nat} {σ σb σc : bh_S} {Z : xs_S} {l e e' s C C' t N c i : Nat} (h : cv_ad σ σb σc l e e' s C C' t N) (hO : cv_O w nf nl σ Z) (hi : i < cv_cn nf nl c) : bh_K σc (w c i) = c ∧ w c i < bh_z σc ∧ ∀ k, cv_iF c k = true → bh_I σc c (w c i) k = Z (cv_cd c k) i := by
  obtain ⟨q1, q2, q3, q4⟩ := hO c i hi
  have hz := h.z
  refine ⟨by rw [(h.2.1 _ q2).1]; exact q1, by omega, fun k hk => ?_⟩
  obtain ⟨n0, -, -, -, -, n16⟩ := cv_iF_ne hk
  rw [h.2.2.2.2.2.2.1 c _ k n16 (fun z => n0 z.1) (fun z => by omega)]
  exact q4 k hk
theorem cv_ad.oldR {w : Nat → Nat → Nat} {nf nl : Nat} {σ σb σc : bh_S} {Z : xs_S} {l e e' s C C' t N c i k : Nat} (h : cv_ad σ σb σc l e e' s C C' t N) (hO : cv_O w nf nl σ Z) (hi : i < cv_cn nf nl c) (h0 : c ≠ 0) (h16 : c ≠ 16) : bh_R σc c (w c i) k = bh_R σ c (w c i) k := by
  obtain ⟨q1, q2, q3, q4⟩ := hO c i hi
  exact h.2.2.2.2.2.2.2.2.1 c _ k h16 (fun z => h0 z.1) (fun z => by omega)
theorem cv_ad.oldL {w : Nat → Nat → Nat} {nf np : Nat} {lp : Nat → Nat} {σ σb σc : bh_S} {Z : xs_S} {l e e' s C C' t N i : Nat} (h : cv_ad σ σb σc l e e' s C C' t N) (hL : cv_L w nf lp np σ Z) (hi : i < np) : bh_K σc (lp i) = 3 ∧ lp i < bh_z σc ∧ (bh_I σc 3 (lp i) 1 = Z 42 i ∧ bh_I σc 3 (lp i) 2 = Z 43 i) ∧ ∃ j, j < nf ∧ xs_rf (Z 41 i) = some j ∧ bh_R σc 3 (lp i) 0 = some (w 7 j) := by
  obtain ⟨q1, q2, q3, q4, j, q5, q6, q7⟩ := hL i hi
  have hz := h.z
  refine ⟨by rw [(h.2.1 _ q2).1]; exact q1, by omega, ⟨?_, ?_⟩, j, q5, q6, ?_⟩
  · rw [h.2.2.2.2.2.2.1 3 _ 1 (by decide) (fun z => absurd z.1 (by decide)) (fun z => by omega)]
    exact q4.1
  · rw [h.2.2.2.2.2.2.1 3 _ 2 (by decide) (fun z => absurd z.1 (by decide)) (fun z => by omega)]
    exact q4.2
  · rw [h.2.2.2.2.2.2.2.2.1 3 _ 0 (by decide) (fun z => absurd z.1 (by decide)) (fun z => by omega)]
    exact q7
def cv_lp (lp : Nat → Nat) (n z : Nat) : Nat → Nat := fun i => if i = n then z else lp i
theorem cv_lp_eq {lp : Nat → Nat} {n z : Nat} : cv_lp lp n z n = z := if_pos rfl
theorem cv_lp_ne {lp : Nat → Nat} {n z i : Nat} (h : i ≠ n) : cv_lp lp n z i = lp i := if_neg h
/-! a load -/
def xs_nL (p1 : Nat) (Z : xs_S) : xs_S := xs_up (xs_up (xs_up (xs_up (xs_up Z 41 (Z 44 0).toNatClampNeg (Z 35 p1)) 42 (Z 44 0).toNatClampNeg (Z 37 p1)) 43 (Z 44 0).toNatClampNeg (Z 38 p1)) 44 0 (Z 44 0 + 1)) 90 0 (Z 90 0 + 1)
theorem xs_nL_ne {p1 : Nat} {Z : xs_S} {k i : Nat} (h1 : k ≠ 41) (h2 : k ≠ 42) (h3 : k ≠ 43) (h4 : k ≠ 44) (h5 : k ≠ 90) : xs_nL p1 Z k i = Z k i := by
  unfold xs_nL
  rw [xs_up_ne h5, xs_up_ne h4, xs_up_ne h3, xs_up_ne h2, xs_up_ne h1]
theorem xs_nL_ni {p1 : Nat} {Z : xs_S} {k i : Nat} (h1 : i ≠ (Z 44 0).toNatClampNeg) (h4 : k ≠ 44) (h5 : k ≠ 90) : xs_nL p1 Z k i = Z k i := by
  unfold xs_nL
  rw [xs_up_ne h5, xs_up_ne h4, xs_up_ni h1, xs_up_ni h1, xs_up_ni h1]
theorem i32_add1 {a : Int32} (h : 0 ≤ a ∧ a < 1000000) : (a + 1).toNatClampNeg = a.toNatClampNeg + 1 := by
  obtain ⟨h1, h2⟩ := h
  rw [i32_le] at h1
  rw [i32_lt] at h2
  have h1 : (0 : Int) ≤ a.toInt := h1
  have h2 : a.toInt < 1000000 := h2
  have e1 : (1 : Int32).toInt = 1 := by decide
  rw [i32_nat, i32_nat, i32_add]
  · rw [e1]; omega
  · rw [e1]; omega
  · rw [e1]; omega
theorem cv_newL {w : Nat → Nat → Nat} {nf nl mb z1 n1 : Nat} {σ0 : bh_S} {lp : Nat → Nat} {np : Nat} {σ σb : bh_S} {Z : xs_S} {p1 a6 : Nat} (h : cv_R w nf nl mb z1 n1 σ0 lp np σ Z) (hnp : np < 3100) (hg : 0 ≤ Z 90 0 ∧ Z 90 0 < 1000000) (hn : cv_nw σ σb 3 3) (ha6 : a6 < nf) (hrf : xs_rf (Z 35 p1) = some a6) (hR : bh_R σb 3 (bh_z σ) 0 = some (w 7 a6)) (hI1 : bh_I σb 3 (bh_z σ) 1 = Z 37 p1) (hI2 : bh_I σb 3 (bh_z σ) 2 = Z 38 p1) : ∃ σc, f_Jx4a65c_add_9ea2d (w 0 2) (bh_z σ) σb = some (1, σc) ∧ cv_R w nf nl mb z1 n1 σ0 (cv_lp lp np (bh_z σ)) (np + 1) σc (xs_nL p1 Z) := by
  obtain ⟨ea, hO, hV, hC, hA, hS, hL, hQ, hF⟩ := h
  have e44 : Z 44 0 = Int32.ofNat np := (hS.2.2 2 (by decide)).2.1.2
  have n44 : (Z 44 0).toNatClampNeg = np := by rw [e44]; exact i32_natof (by omega)
  obtain ⟨σc, e', C', r1, ha⟩ := cv_add (j := 2) hS hQ (by decide) hn (Or.inl rfl) (fun i hi => ⟨by show bh_K σ (lp i) < 12; rw [(hL i hi).1]; decide, (hL i hi).2.1⟩)
  have hx := cv_ext (w' := w) (nf' := nf) (nl' := nl) (np' := np + 1) (lp' := cv_lp lp np (bh_z σ)) (Z' := xs_nL p1 Z) hO hC hA hS hQ hF (by decide) (Or.inl rfl) (by decide) ha (fun _ _ _ => rfl) ⟨hS.1.1, hS.1.2.1, by omega⟩ ⟨hnp, fun e => absurd rfl e⟩ rfl
    (fun j' hj' hne => by match j', hj', hne with | 0, _, _ => rfl | 1, _, _ => rfl | 2, _, hne => exact absurd rfl hne)
    (fun j' i hj' hi => by
      match j', hj', hi with
      | 0, _, _ => rfl
      | 1, _, _ => rfl
      | 2, _, hi => exact if_neg (Nat.ne_of_lt hi))
    (if_pos rfl)
    (fun j hj i => by
      obtain ⟨p2, p3, p4, p5, p6⟩ := cv_ac_ne j hj
      exact xs_nL_ne (fun e => p3 e.symm) (fun e => p4 e.symm) (fun e => p5 e.symm) (fun e => p2 2 (by decide) e.symm) (fun e => p6 e.symm))
    (by
      show xs_nL p1 Z 44 0 = Int32.ofNat (np + 1)
      unfold xs_nL
      rw [xs_up_ne (by decide), xs_up_eq, e44]
      exact i32_ofadd1 (by omega))
    (fun j' hj' hne => by
      match j', hj', hne with
      | 0, _, _ => exact xs_nL_ne (by decide) (by decide) (by decide) (by decide) (by decide)
      | 1, _, _ => exact xs_nL_ne (by decide) (by decide) (by decide) (by decide) (by decide)
      | 2, _, hne => exact absurd rfl hne)
    (by
      unfold xs_nL
      rw [xs_up_eq]
      exact i32_add1 hg)
  refine ⟨σc, r1, _, ?_, ?_, hx.1, hx.2.1, hx.2.2.1, ?_, hx.2.2.2.1, hx.2.2.2.2⟩
  · intro c i hi
    obtain ⟨q1, q2, q3⟩ := ha.old hO hi
    refine ⟨q1, q2, (hO c i hi).2.2.1, fun k hk => ?_⟩
    obtain ⟨-, p2, p3, p4, p5, p6⟩ := cv_cd_ne (cv_iF_fd hk)
    rw [q3 k hk, xs_nL_ne (fun e => p3 e.symm) (fun e => p4 e.symm) (fun e => p5 e.symm) (fun e => p2 2 (by decide) e.symm) (fun e => p6 e.symm)]
  · intro c k i h1 h2
    obtain ⟨-, p2, p3, p4, p5, p6⟩ := cv_cd_ne (cv_tk_fd h1)
    have hc : c ≠ 0 ∧ c ≠ 16 := by rcases cv_tk_ne h1 with ⟨rfl, rfl⟩ | ⟨rfl, rfl⟩ | ⟨rfl, rfl⟩ <;> decide
    rw [ha.oldR hO h2 hc.1 hc.2, xs_nL_ne (fun e => p3 e.symm) (fun e => p4 e.symm) (fun e => p5 e.symm) (fun e => p2 2 (by decide) e.symm) (fun e => p6 e.symm)]
    exact hV c k i h1 h2
  · intro i hi
    by_cases e : i = np
    · subst e
      have v1 : xs_nL p1 Z 41 i = Z 35 p1 := by
        unfold xs_nL
        rw [n44, xs_up_ne (by decide), xs_up_ne (by decide), xs_up_ne (by decide), xs_up_ne (by decide), xs_up_eq]
      have v2 : xs_nL p1 Z 42 i = Z 37 p1 := by
        unfold xs_nL
        rw [n44, xs_up_ne (by decide), xs_up_ne (by decide), xs_up_ne (by decide), xs_up_eq]
      have v3 : xs_nL p1 Z 43 i = Z 38 p1 := by
        unfold xs_nL
        rw [n44, xs_up_ne (by decide), xs_up_ne (by decide), xs_up_eq]
      have hz := ha.z
      rw [v1, v2, v3]
      refine ⟨?_, ?_, fun j hj => ?_, ⟨?_, ?_⟩, a6, ha6, hrf, ?_⟩
      · rw [cv_lp_eq]; exact ha.2.2.1
      · rw [cv_lp_eq]; exact hz
      · rw [cv_lp_eq]
        intro e
        by_cases e2 : j = i
        · exact e2
        · rw [cv_lp_ne e2] at e
          have := (hL j (by omega)).2.1
          omega
      · rw [cv_lp_eq, ha.2.2.2.2.2.2.2.2.2.2.2.2.2.1]; exact hI1
      · rw [cv_lp_eq, ha.2.2.2.2.2.2.2.2.2.2.2.2.2.1]; exact hI2
      · rw [cv_lp_eq, ha.2.2.2.2.2.2.2.2.2.2.2.2.2.2]; exact hR
    · have hi2 : i < np := by omega
      obtain ⟨q1, q2, q4, q5⟩ := ha.oldL hL hi2
      rw [cv_lp_ne e, xs_nL_ni (by rw [n44]; exact e) (by decide) (by decide), xs_nL_ni (by rw [n44]; exact e) (by decide) (by decide), xs_nL_ni (by rw [n44]; exact e) (by decide) (by decide)]
      refine ⟨q1, q2, fun j hj => ?_, q4, q5⟩
      intro e2
      by_cases e3 : j = np
      · rw [e3, cv_lp_eq] at e2
        have := (hL i hi2).2.1
        omega
      · rw [cv_lp_ne e3] at e2
        exact (hL i hi2).2.2.1 j (by omega) e2
def g_X9_unloadOne_new (p1 : Nat) (Z : xs_S) : Option (Unit × xs_S) :=
  if Z 44 0 < 3100 ∧ 0 ≤ Z 90 0 ∧ Z 90 0 < 1000000 then
    (xs_rf (Z 35 p1)).bind fun _ =>
    xs_bnd (g_X8_take2 (Z 44 0).toNatClampNeg (xs_nL p1 Z)) fun _ Z28 =>
    xs_bnd (g_X9_pay (Z 44 0).toNatClampNeg Z28) fun _ Z32 =>
    xs_lt (xs_up Z32 40 p1 (Z32 40 p1 + 1)) fun Z36 =>
    g_X9_unloadOne_b57 p1 Z36
  else none
set_option maxRecDepth 100000 in
theorem q_X9_unloadOne_new {w : Nat → Nat → Nat} {nf nl mb z1 n1 : Nat} {σ0 : bh_S} (p1 : Nat) (hp1 : p1 < cv_cn nf nl 4) {lp : Nat → Nat} {np : Nat} {σ : bh_S} {Z : xs_S} (h : cv_R w nf nl mb z1 n1 σ0 lp np σ Z) : sm (cv_Gx w nf nl mb z1 n1 σ0) (f_X9_unloadOne_new (w 10 0) (w 4 p1) σ) (g_X9_unloadOne_new p1 Z) := by
  unfold g_X9_unloadOne_new
  by_cases hg : Z 44 0 < 3100 ∧ 0 ≤ Z 90 0 ∧ Z 90 0 < 1000000
  · rw [if_pos hg]
    cases hx : xs_rf (Z 35 p1) with
    | none => exact sm_none
    | some a6 =>
      obtain ⟨ea, hO, hV, hC, hA, hS, hL, hQ, hF⟩ := id h
      have e44 : Z 44 0 = Int32.ofNat np := (hS.2.2 2 (by decide)).2.1.2
      have n44 : (Z 44 0).toNatClampNeg = np := by rw [e44]; exact i32_natof (by have := hS.1; omega)
      have hnp : np < 3100 := by
        have q := hg.1
        rw [e44, i32_lt, i32_of (by have := hS.1; omega)] at q
        have q : (np : Int) < 3100 := q
        omega
      have hv := hV 4 2 p1 (by decide) hp1
      have hRp : bh_R σ 4 (w 4 p1) 2 = some (w 7 a6) := by
        rw [hv.1]
        show (xs_rf (Z 35 p1)).map (w 7) = _
        rw [hx]; rfl
      have ha6 : a6 < nf := hv.2 a6 hx
      have hp := hO 4 p1 hp1
      have hne : w 4 p1 ≠ bh_z σ := by have := hp.2.1; omega
      have h10 := hO 10 0 cv_z10
      have hne10 : w 10 0 ≠ bh_z σ := by have := h10.2.1; omega
      have h9 := hO 9 0 cv_z9
      have hne9 : w 9 0 ≠ bh_z σ := by have := h9.2.1; omega
      have h02 := hS.2.2 2 (by decide)
      have hne0 : w 0 2 ≠ bh_z σ := by have := h02.1.2.1; omega
      have hn0 : cv_nw σ (bh_new σ 3 3 0) 3 3 := cv_nw.new
      have e1 : bh_rdR (bh_new σ 3 3 0) 4 (w 4 p1) 2 = some (some (w 7 a6)) := by
        unfold bh_rdR
        rw [if_pos (show bh_K (bh_new σ 3 3 0) (w 4 p1) = 4 from (if_neg hne).trans hp.1), hn0.2.2.2.2.2.2 4 _ 2 (fun z => absurd z.1 (by decide)), hRp]
      have e2 : bh_rdI (bh_new σ 3 3 0) 4 (w 4 p1) 4 = some (Z 37 p1) := by
        unfold bh_rdI
        rw [if_pos (show bh_K (bh_new σ 3 3 0) (w 4 p1) = 4 from (if_neg hne).trans hp.1), hn0.2.2.2.2.2.1 4 _ 4 (fun z => absurd z.1 (by decide))]
        exact congrArg some (hp.2.2.2 4 rfl)
      have e3 : bh_rdI (bh_new σ 3 3 0) 4 (w 4 p1) 5 = some (Z 38 p1) := by
        unfold bh_rdI
        rw [if_pos (show bh_K (bh_new σ 3 3 0) (w 4 p1) = 4 from (if_neg hne).trans hp.1), hn0.2.2.2.2.2.1 4 _ 5 (fun z => absurd z.1 (by decide))]
        exact congrArg some (hp.2.2.2 5 rfl)
      have e4 : f_X2_init (bh_z σ) (w 7 a6) (Z 37 p1) (Z 38 p1) (bh_new σ 3 3 0) = some ((), bh_setI (bh_setI (bh_setR (bh_new σ 3 3 0) 3 (bh_z σ) 0 (some (w 7 a6))) 3 (bh_z σ) 1 (Z 37 p1)) 3 (bh_z σ) 2 (Z 38 p1)) := by
        simp only [f_X2_init, bh_wrI, bh_wrR, bh_K_setI, bh_K_setR, bh_K_new, if_true, Option.bind_some]
      generalize hb : bh_setI (bh_setI (bh_setR (bh_new σ 3 3 0) 3 (bh_z σ) 0 (some (w 7 a6))) 3 (bh_z σ) 1 (Z 37 p1)) 3 (bh_z σ) 2 (Z 38 p1) = σb at e4
      have hn : cv_nw σ σb 3 3 := by rw [← hb]; exact cv_nw.new.setR.setI.setI
      have e5 : bh_rdR σb 10 (w 10 0) 5 = some (some (w 9 0)) := by
        unfold bh_rdR
        rw [if_pos (by rw [(hn.2.2.2.2.1 _ h10.2.1).1]; exact h10.1), hn.2.2.2.2.2.2 10 _ 5 (fun z => absurd z.1 (by decide)), hC.1 10 5 9 0 rfl]
      have e6 : bh_ck σb (w 9 0) 9 = some () := by
        unfold bh_ck
        rw [if_pos (by rw [(hn.2.2.2.2.1 _ h9.2.1).1]; exact h9.1)]
      have e7 : bh_rdR σb 9 (w 9 0) 0 = some (some (w 0 2)) := by
        unfold bh_rdR
        rw [if_pos (by rw [(hn.2.2.2.2.1 _ h9.2.1).1]; exact h9.1), hn.2.2.2.2.2.2 9 _ 0 (fun z => absurd z.1 (by decide)), hC.1 9 0 0 2 rfl]
      have e8 : bh_ck σb (w 0 2) 0 = some () := by
        unfold bh_ck
        rw [if_pos (by rw [(hn.2.2.2.2.1 _ h02.1.2.1).1]; exact h02.1.1)]
      obtain ⟨σc, r1, h'⟩ := cv_newL (p1 := p1) h hnp hg.2 hn ha6 hx (by rw [← hb]; simp [bh_R_setI, bh_R_setR]) (by rw [← hb]; simp [bh_I_setI]) (by rw [← hb]; simp [bh_I_setI])
      have e9 : f_X8_take (w 9 0) (bh_z σ) σb = f_X8_take2 (w 9 0) (bh_z σ) σc := by
        unfold f_X8_take
        rw [e7]
        simp only [Option.bind_some, e8, r1, bh_bnd_some]
        rfl
      have hlp : (cv_lp lp np (bh_z σ)) np = bh_z σ := cv_lp_eq
      unfold f_X9_unloadOne_new
      simp only [bh_newO_eq, bh_bnd_some, e1, e2, e3, Option.bind_some, e4, e5, e6, e9]
      rw [n44, ← hlp]
      refine sm_call (q_X8_take2 np (Nat.lt_succ_self np) h') ?_
      rintro v27 σ28 _ Z28 ⟨rfl, h⟩
      refine cv_ck h cv_z10 ?_
      refine sm_call (q_X9_pay np (Nat.lt_succ_self np) h) ?_
      rintro v31 σ32 _ Z32 ⟨rfl, h⟩
      refine cv_rdI (d := 40) h hp1 rfl rfl ?_
      refine cv_wrI (d := 40) h hp1 rfl rfl (fun σ36 Z36 h => ?_)
      exact q_X9_unloadOne_b57 p1 hp1 h
  · rw [if_neg hg]
    exact sm_none
