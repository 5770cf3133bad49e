/-! ===== the law's loop ===== -/
section LW0
variable {w : Nat → Nat → Nat} {nf nl mb z1 n1 : Nat} {σ0 σ σ' : bh_S} {lp : Nat → Nat} {np : Nat} {Z X : xs_S} {m : Nat} {rr : Nat → Nat}
theorem mo_R.fr (h : mo_R m rr mb σ X) (hF : cv_F mb σ σ') : mo_R m rr mb σ' X := by
  obtain ⟨⟨h1, h1'⟩, h2, h3, h4⟩ := h
  obtain ⟨f1, f2, f3, f4, f5⟩ := hF
  refine ⟨⟨(f1 m h1').1.trans h1, by omega⟩, fun k hk => ?_, h3, fun k hk hr => ?_⟩
  · obtain ⟨g1, g2, g3, g4, g5, g6⟩ := h2 k hk
    refine ⟨(f5 m k).trans g1, (f1 _ g5).1.trans g2, (f1 _ g5).2.trans g3, g4, by omega, fun i => ?_⟩
    have q : mo_kd k = 11 ∨ mo_kd k = 13 ∨ mo_kd k = 12 ∧ mb ≤ rr k := by
      unfold mo_kd
      split
      · exact Or.inr (Or.inl rfl)
      · exact Or.inr (Or.inr ⟨rfl, g4⟩)
    rw [f4 (mo_kd k) (rr k) i q, g6]
  · rw [f4 11 m k (Or.inl rfl)]
    exact h4 k hk hr
theorem cv_F.rf : cv_F mb σ σ := ⟨fun _ _ => ⟨rfl, rfl⟩, Nat.le_refl _, rfl, fun _ _ _ _ => rfl, fun _ _ => rfl⟩
theorem cv_R.fr (h : cv_R w nf nl mb z1 n1 σ0 lp np σ Z) (hF : mo_F mb σ σ') : cv_R w nf nl mb z1 n1 σ' lp np σ' Z := by
  obtain ⟨ea, hO, hV, hC, hA, hS, hL, hQ, -⟩ := h
  obtain ⟨eK, eR, eL, ez, en, ee, eI⟩ := hF
  have e0 : ∀ a k, bh_I σ' 0 a k = bh_I σ 0 a k := fun a k => eI 0 a k (by decide) (by decide) (fun e => absurd e (by decide))
  have e3 : ∀ a k, bh_I σ' 3 a k = bh_I σ 3 a k := fun a k => eI 3 a k (by decide) (by decide) (fun e => absurd e (by decide))
  refine ⟨ea, fun c i hi => ?_, ?_, ?_, ⟨?_, fun j hj => ?_⟩, ?_, ?_, ?_, cv_F.rf⟩
  · obtain ⟨g1, g2, g3, g4⟩ := hO c i hi
    refine ⟨by rw [eK]; exact g1, by rw [ez]; exact g2, g3, fun k hk => ?_⟩
    have q := cv_iF_ne hk
    rw [eI c _ k q.2.2.1 q.2.2.2.2.1 (fun e => absurd e q.2.2.2.1)]
    exact g4 k hk
  · unfold cv_V
    rw [eR]
    exact hV
  · unfold cv_C
    rw [eR, eK, ez, eL]
    exact hC
  · rw [ez]
    exact hA.1
  · obtain ⟨g1, g2, g3, g4, g5⟩ := hA.2 j hj
    refine ⟨by rw [eK]; exact g1, by rw [eL]; exact g2, g3, g4, fun i => ?_⟩
    rw [eI 12 _ i (by decide) (by decide) (fun _ => g3)]
    exact g5 i
  · unfold cv_S
    simp only [eK, eL, ez, ee, eR, e0]
    exact hS
  · unfold cv_L
    simp only [eK, ez, eR, e3]
    exact hL
  · unfold cv_Q
    rw [ez, en, eL]
    exact hQ
end LW0
theorem sm_mono {α β : Type} {G G' : α → bh_S → β → xs_S → Prop} {fo : Option (α × bh_S)} {go : Option (β × xs_S)} (h : sm G fo go) (hG : ∀ a σ b X, G a σ b X → G' a σ b X) : sm G' fo go := fun b X e => by
  obtain ⟨a, σ', e1, e2⟩ := h b X e
  exact ⟨a, σ', e1, hG _ _ _ _ e2⟩
section LW
variable {w : Nat → Nat → Nat} {nf nl mb z1 n1 : Nat} {σ0 σ σ' : bh_S} {lp : Nat → Nat} {np : Nat} {Z X : xs_S} {a1 a7 : Nat} {rr : Nat → Nat} {N L : Nat} {xs : Nat → Int32}
theorem sm_gw {α : Type} {fo : Option (α × bh_S)} {go : Option (α × xs_S)} (h : sm (cv_G w nf nl mb z1 n1 σ0 lp np) fo go) : sm (cv_Gw w mb z1 n1 σ0) fo go := sm_mono h (fun _ _ _ _ q => ⟨q.1, w, nf, nl, lp, np, rfl, q.2⟩)
theorem sm_gx {α : Type} {fo : Option (α × bh_S)} {go : Option (α × xs_S)} (h : sm (cv_Gx w nf nl mb z1 n1 σ0) fo go) : sm (cv_Gw w mb z1 n1 σ0) fo go := sm_mono h (fun _ _ _ _ q => by
  obtain ⟨q1, lp, np, q2⟩ := q
  exact ⟨q1, w, nf, nl, lp, np, rfl, q2⟩)
/-- what holds between two calls -/
def LI (a1 a7 mb z1 n1 : Nat) (rr : Nat → Nat) (σ : bh_S) : Prop := ∃ (w : Nat → Nat → Nat) (nf nl : Nat) (lp : Nat → Nat) (np : Nat) (Z Y : xs_S), w 10 0 = a1 ∧ cv_R w nf nl mb z1 n1 σ lp np σ Z ∧ mo_R a7 rr mb σ (xs_mg Z Y) ∧ RE Z Y
theorem lw_step {fC fM : bh_S → Option (Int32 × bh_S)} {gC gM : xs_S → Option (Int32 × xs_S)} (h : LI a1 a7 mb z1 n1 rr σ) (hc : ∀ (w : Nat → Nat → Nat) (nf nl : Nat) (lp : Nat → Nat) (np : Nat) (Z : xs_S), w 10 0 = a1 → cv_R w nf nl mb z1 n1 σ lp np σ Z → sm (cv_Gw w mb z1 n1 σ) (fC σ) (gC Z)) (hm : ∀ (σ' : bh_S) (X : xs_S), mo_R a7 rr mb σ' X → sm (mo_G a7 rr mb σ') (fM σ') (gM X)) (hp : ∀ (nf nl np : Nat) (Z Y : xs_S), RI nf nl np Z Y → PR RE (gC Z) (gM (xs_mg Z Y))) : ∃ r σ1 σ2, bh_ck σ a1 10 = some () ∧ fC σ = some (r, σ1) ∧ bh_ck σ1 a7 11 = some () ∧ fM σ1 = some (r, σ2) ∧ LI a1 a7 mb z1 n1 rr σ2 := by
  obtain ⟨w, nf, nl, lp, np, Z, Y, hw, hC, hM, nf2, nl2, np2, hR⟩ := h
  obtain ⟨r, Z', Y', e1, e2, hE⟩ := hp nf2 nl2 np2 Z Y hR
  obtain ⟨a, σ1, ef, ea, w', nf', nl', lp', np', hw', hC'⟩ := hc w nf nl lp np Z hw hC r Z' e1
  subst ea
  have hF : cv_F mb σ σ1 := by
    obtain ⟨_, _, _, _, _, _, _, _, q⟩ := hC'
    exact q
  have hM1 := hM.fr hF
  obtain ⟨a2, σ2, ef2, ea2, hM2, hmF⟩ := hm σ1 (xs_mg Z Y) hM1 a (xs_mg Z' Y') e2
  subst ea2
  have hK : bh_K σ a1 = 10 := by
    obtain ⟨_, hO, _⟩ := hC
    rw [← hw]
    exact (hO 10 0 Nat.zero_lt_one).1
  exact ⟨a2, σ1, σ2, if_pos hK, ef, if_pos hM1.1.1, ef2, w', nf', nl', lp', np', Z', Y', hw'.trans hw, hC'.fr hmF, hM2, hE⟩
theorem sld_ok {k : Nat} (h : k < L) (hL : L ≤ 3072) : bh_sld L xs (Int32.ofNat k) = some (xs k) := by
  unfold bh_sld
  rw [i32_natof (by omega), if_pos]
  rintro (q | q)
  · exact i32_nneg (by omega) q
  · omega
set_option maxHeartbeats 4000000 in
set_option maxRecDepth 100000 in
theorem lw_loop (hN : 4000 ≤ N) (hL : L ≤ 3072) : ∀ (d j n : Nat) (σ : bh_S), j + d = 513 → d < n → LI a1 a7 mb z1 n1 rr σ → ∃ σ', f_L_law_b18 N L xs n a1 a7 (Int32.ofNat (6 * j)) σ = some (1, σ') ∧ LI a1 a7 mb z1 n1 rr σ' := by
  have eL : (Int32.ofNat L - 6).toInt = (L : Int) - 6 := by
    have e6 : (6 : Int32).toInt = 6 := by decide
    rw [i32_sub, i32_of (by omega), e6]
    · rw [i32_of (by omega), e6]; omega
    · rw [i32_of (by omega), e6]; omega
  intro d
  induction d with
  | zero =>
    intro j n σ hj hn hI
    obtain ⟨m, rfl⟩ : ∃ m, n = m + 1 := ⟨n - 1, by omega⟩
    refine ⟨σ, ?_, hI⟩
    rw [f_L_law_b18, if_pos (by rw [i32_lt, eL, i32_of (by omega)]; omega)]
    rfl
  | succ d ih =>
    intro j n σ hj hn hI
    obtain ⟨m, rfl⟩ : ∃ m, n = m + 1 := ⟨n - 1, by omega⟩
    by_cases c : Int32.ofNat L - 6 < Int32.ofNat (6 * j)
    · refine ⟨σ, ?_, hI⟩
      rw [f_L_law_b18, if_pos c]
      rfl
    · have hj6 : 6 * j + 6 ≤ L := by
        rw [i32_lt, eL, i32_of (by omega)] at c
        omega
      have s0 : bh_sld L xs (Int32.ofNat (6 * j)) = some (xs (6 * j)) := sld_ok (by omega) hL
      have s1 : bh_sld L xs (Int32.ofNat (6 * j) + 1) = some (xs (6 * j + 1)) := by
        rw [show (1 : Int32) = Int32.ofNat 1 from rfl, i32_ofadd (by omega)]
        exact sld_ok (by omega) hL
      have s2 : bh_sld L xs (Int32.ofNat (6 * j) + 2) = some (xs (6 * j + 2)) := by
        rw [show (2 : Int32) = Int32.ofNat 2 from rfl, i32_ofadd (by omega)]
        exact sld_ok (by omega) hL
      have s3 : bh_sld L xs (Int32.ofNat (6 * j) + 3) = some (xs (6 * j + 3)) := by
        rw [show (3 : Int32) = Int32.ofNat 3 from rfl, i32_ofadd (by omega)]
        exact sld_ok (by omega) hL
      have s4 : bh_sld L xs (Int32.ofNat (6 * j) + 4) = some (xs (6 * j + 4)) := by
        rw [show (4 : Int32) = Int32.ofNat 4 from rfl, i32_ofadd (by omega)]
        exact sld_ok (by omega) hL
      have s5 : bh_sld L xs (Int32.ofNat (6 * j) + 5) = some (xs (6 * j + 5)) := by
        rw [show (5 : Int32) = Int32.ofNat 5 from rfl, i32_ofadd (by omega)]
        exact sld_ok (by omega) hL
      have nx : ∀ σ', LI a1 a7 mb z1 n1 rr σ' → ∃ σ'', f_L_law_b820 N L xs (f_L_law_b18 N L xs m) a1 a7 (Int32.ofNat (6 * j)) σ' = some (1, σ'') ∧ LI a1 a7 mb z1 n1 rr σ'' := fun σ' h => by
        unfold f_L_law_b820
        rw [show (6 : Int32) = Int32.ofNat 6 from rfl, i32_ofadd (by omega), show 6 * j + 6 = 6 * (j + 1) by omega]
        exact ih (j + 1) m σ' (by omega) (by omega) h
      rw [f_L_law_b18, if_neg c, s0]
      simp only [Option.bind_some]
      by_cases c0 : xs (6 * j) &&& 31 = 0
      · rw [if_pos c0, s1, s2]
        obtain ⟨r, σ1, σ2, k1, e1, k2, e2, hI2⟩ := lw_step (fC := f_X9_share a1 (xs (6 * j + 1)) (xs (6 * j + 2))) (fM := f_X10_share a7 (xs (6 * j + 1)) (xs (6 * j + 2))) (gC := g_X9_share (xs (6 * j + 1)) (xs (6 * j + 2))) (gM := g_X10_share (xs (6 * j + 1)) (xs (6 * j + 2))) hI (fun w nf nl lp np Z hw h => by rw [← hw]; exact sm_gw (q_X9_share (xs (6 * j + 1)) (xs (6 * j + 2)) h)) (fun σ1 X h => q_X10_share (xs (6 * j + 1)) (xs (6 * j + 2)) h mo_F.rf) (fun nf nl np Z Y h => (pe_share h (xs (6 * j + 1)) (xs (6 * j + 2))).mono (fun _ _ q => ⟨_, _, _, q⟩))
        simp only [k1, e1, k2, e2, Option.bind_some, bh_bnd_some, if_true]
        exact nx σ2 hI2
      rw [if_neg c0]
      by_cases c1 : xs (6 * j) &&& 31 = 1
      · rw [if_pos c1, s1, s2, s3, s4, s5]
        simp only [Option.bind_some]
        by_cases q : xs (6 * j + 5) = 0
        · rw [if_pos q]
          unfold f_L_law_b203 f_L_law_b240
          rw [s1, s2, s3, s4, s5]
          obtain ⟨r, σ1, σ2, k1, e1, k2, e2, hI2⟩ := lw_step (fC := f_X9_field a1 (xs (6 * j + 1)) (xs (6 * j + 2)) (xs (6 * j + 3)) (xs (6 * j + 4)) 0) (fM := f_X10_field a7 (xs (6 * j + 1)) (xs (6 * j + 2)) (xs (6 * j + 3)) (xs (6 * j + 4)) 0) (gC := g_X9_field (xs (6 * j + 1)) (xs (6 * j + 2)) (xs (6 * j + 3)) (xs (6 * j + 4)) 0) (gM := g_X10_field (xs (6 * j + 1)) (xs (6 * j + 2)) (xs (6 * j + 3)) (xs (6 * j + 4)) 0) hI (fun w nf nl lp np Z hw h => by rw [← hw]; exact q_X9_field (xs (6 * j + 1)) (xs (6 * j + 2)) (xs (6 * j + 3)) (xs (6 * j + 4)) 0 h) (fun σ1 X h => q_X10_field (xs (6 * j + 1)) (xs (6 * j + 2)) (xs (6 * j + 3)) (xs (6 * j + 4)) 0 h mo_F.rf) (fun nf nl np Z Y h => pe_field h (xs (6 * j + 1)) (xs (6 * j + 2)) (xs (6 * j + 3)) (xs (6 * j + 4)) 0 (Or.inl rfl))
          simp only [k1, e1, k2, e2, Option.bind_some, bh_bnd_some, if_true, if_pos q]
          exact nx σ2 hI2
        · rw [if_neg q]
          unfold f_L_law_b203 f_L_law_b240
          rw [s1, s2, s3, s4, s5]
          obtain ⟨r, σ1, σ2, k1, e1, k2, e2, hI2⟩ := lw_step (fC := f_X9_field a1 (xs (6 * j + 1)) (xs (6 * j + 2)) (xs (6 * j + 3)) (xs (6 * j + 4)) 1) (fM := f_X10_field a7 (xs (6 * j + 1)) (xs (6 * j + 2)) (xs (6 * j + 3)) (xs (6 * j + 4)) 1) (gC := g_X9_field (xs (6 * j + 1)) (xs (6 * j + 2)) (xs (6 * j + 3)) (xs (6 * j + 4)) 1) (gM := g_X10_field (xs (6 * j + 1)) (xs (6 * j + 2)) (xs (6 * j + 3)) (xs (6 * j + 4)) 1) hI (fun w nf nl lp np Z hw h => by rw [← hw]; exact q_X9_field (xs (6 * j + 1)) (xs (6 * j + 2)) (xs (6 * j + 3)) (xs (6 * j + 4)) 1 h) (fun σ1 X h => q_X10_field (xs (6 * j + 1)) (xs (6 * j + 2)) (xs (6 * j + 3)) (xs (6 * j + 4)) 1 h mo_F.rf) (fun nf nl np Z Y h => pe_field h (xs (6 * j + 1)) (xs (6 * j + 2)) (xs (6 * j + 3)) (xs (6 * j + 4)) 1 (Or.inr rfl))
          simp only [k1, e1, k2, e2, Option.bind_some, bh_bnd_some, if_true, if_neg q]
          exact nx σ2 hI2
      rw [if_neg c1]
      by_cases c2 : xs (6 * j) &&& 31 = 2
      · rw [if_pos c2, s1, s2, s3]
        obtain ⟨r, σ1, σ2, k1, e1, k2, e2, hI2⟩ := lw_step (fC := f_X9_gang a1 (xs (6 * j + 1)) (xs (6 * j + 2)) (xs (6 * j + 3))) (fM := f_X10_gang a7 (xs (6 * j + 1)) (xs (6 * j + 2)) (xs (6 * j + 3))) (gC := g_X9_gang (xs (6 * j + 1)) (xs (6 * j + 2)) (xs (6 * j + 3))) (gM := g_X10_gang (xs (6 * j + 1)) (xs (6 * j + 2)) (xs (6 * j + 3))) hI (fun w nf nl lp np Z hw h => by rw [← hw]; exact sm_gw (q_X9_gang (xs (6 * j + 1)) (xs (6 * j + 2)) (xs (6 * j + 3)) h)) (fun σ1 X h => q_X10_gang (xs (6 * j + 1)) (xs (6 * j + 2)) (xs (6 * j + 3)) h mo_F.rf) (fun nf nl np Z Y h => (pe_gang h (xs (6 * j + 1)) (xs (6 * j + 2)) (xs (6 * j + 3))).mono (fun _ _ q => ⟨_, _, _, q⟩))
        simp only [k1, e1, k2, e2, Option.bind_some, bh_bnd_some, if_true]
        exact nx σ2 hI2
      rw [if_neg c2]
      by_cases c3 : xs (6 * j) &&& 31 = 3
      · rw [if_pos c3, s1]
        obtain ⟨r, σ1, σ2, k1, e1, k2, e2, hI2⟩ := lw_step (fC := f_X9_lorry a1 (xs (6 * j + 1))) (fM := f_X10_lorry a7 (xs (6 * j + 1))) (gC := g_X9_lorry (xs (6 * j + 1))) (gM := g_X10_lorry (xs (6 * j + 1))) hI (fun w nf nl lp np Z hw h => by rw [← hw]; exact q_X9_lorry (xs (6 * j + 1)) h) (fun σ1 X h => q_X10_lorry (xs (6 * j + 1)) h mo_F.rf) (fun nf nl np Z Y h => pe_lorry h (xs (6 * j + 1)))
        simp only [k1, e1, k2, e2, Option.bind_some, bh_bnd_some, if_true]
        exact nx σ2 hI2
      rw [if_neg c3]
      by_cases c4 : xs (6 * j) &&& 31 = 4
      · rw [if_pos c4, s1, s2]
        obtain ⟨r, σ1, σ2, k1, e1, k2, e2, hI2⟩ := lw_step (fC := f_X9_send a1 (xs (6 * j + 1)) (xs (6 * j + 2))) (fM := f_X10_send a7 (xs (6 * j + 1)) (xs (6 * j + 2))) (gC := g_X9_send (xs (6 * j + 1)) (xs (6 * j + 2))) (gM := g_X10_send (xs (6 * j + 1)) (xs (6 * j + 2))) hI (fun w nf nl lp np Z hw h => by rw [← hw]; exact sm_gw (q_X9_send (xs (6 * j + 1)) (xs (6 * j + 2)) h)) (fun σ1 X h => q_X10_send (xs (6 * j + 1)) (xs (6 * j + 2)) h mo_F.rf) (fun nf nl np Z Y h => (pe_send h (xs (6 * j + 1)) (xs (6 * j + 2))).mono (fun _ _ q => ⟨_, _, _, q⟩))
        simp only [k1, e1, k2, e2, Option.bind_some, bh_bnd_some, if_true]
        exact nx σ2 hI2
      rw [if_neg c4]
      by_cases c5 : xs (6 * j) &&& 31 = 5
      · rw [if_pos c5]
        obtain ⟨r, σ1, σ2, k1, e1, k2, e2, hI2⟩ := lw_step (fC := f_X9_turn N a1 ) (fM := f_X10_turn N a7 ) (gC := g_X9_turn N ) (gM := g_X10_turn N ) hI (fun w nf nl lp np Z hw h => by rw [← hw]; exact sm_gw (q_X9_turn N  h)) (fun σ1 X h => q_X10_turn N  h mo_F.rf) (fun nf nl np Z Y h => (pe_turn hN h ).mono (fun _ _ q => ⟨_, _, _, q⟩))
        simp only [k1, e1, k2, e2, Option.bind_some, bh_bnd_some, if_true]
        exact nx σ2 hI2
      rw [if_neg c5]
      by_cases c6 : xs (6 * j) &&& 31 = 6
      · rw [if_pos c6, s1, s2]
        obtain ⟨r, σ1, σ2, k1, e1, k2, e2, hI2⟩ := lw_step (fC := f_X9_works a1 (xs (6 * j + 1)) (xs (6 * j + 2))) (fM := f_X10_works a7 (xs (6 * j + 1)) (xs (6 * j + 2))) (gC := g_X9_works (xs (6 * j + 1)) (xs (6 * j + 2))) (gM := g_X10_works (xs (6 * j + 1)) (xs (6 * j + 2))) hI (fun w nf nl lp np Z hw h => by rw [← hw]; exact sm_gw (q_X9_works (xs (6 * j + 1)) (xs (6 * j + 2)) h)) (fun σ1 X h => q_X10_works (xs (6 * j + 1)) (xs (6 * j + 2)) h mo_F.rf) (fun nf nl np Z Y h => (pe_works h (xs (6 * j + 1)) (xs (6 * j + 2))).mono (fun _ _ q => ⟨_, _, _, q⟩))
        simp only [k1, e1, k2, e2, Option.bind_some, bh_bnd_some, if_true]
        exact nx σ2 hI2
      rw [if_neg c6]
      by_cases c7 : xs (6 * j) &&& 31 = 7
      · rw [if_pos c7, s1, s2]
        obtain ⟨r, σ1, σ2, k1, e1, k2, e2, hI2⟩ := lw_step (fC := f_X9_table a1 (xs (6 * j + 1)) (xs (6 * j + 2))) (fM := f_X10_table a7 (xs (6 * j + 1)) (xs (6 * j + 2))) (gC := g_X9_table (xs (6 * j + 1)) (xs (6 * j + 2))) (gM := g_X10_table (xs (6 * j + 1)) (xs (6 * j + 2))) hI (fun w nf nl lp np Z hw h => by rw [← hw]; exact sm_gw (q_X9_table (xs (6 * j + 1)) (xs (6 * j + 2)) h)) (fun σ1 X h => q_X10_table (xs (6 * j + 1)) (xs (6 * j + 2)) h mo_F.rf) (fun nf nl np Z Y h => (pe_table h (xs (6 * j + 1)) (xs (6 * j + 2))).mono (fun _ _ q => ⟨_, _, _, q⟩))
        simp only [k1, e1, k2, e2, Option.bind_some, bh_bnd_some, if_true]
        exact nx σ2 hI2
      rw [if_neg c7]
      by_cases c8 : xs (6 * j) &&& 31 = 8
      · rw [if_pos c8, s1, s2]
        obtain ⟨r, σ1, σ2, k1, e1, k2, e2, hI2⟩ := lw_step (fC := f_X9_warmth a1 (xs (6 * j + 1)) (xs (6 * j + 2))) (fM := f_X10_warmth a7 (xs (6 * j + 1)) (xs (6 * j + 2))) (gC := g_X9_warmth (xs (6 * j + 1)) (xs (6 * j + 2))) (gM := g_X10_warmth (xs (6 * j + 1)) (xs (6 * j + 2))) hI (fun w nf nl lp np Z hw h => by rw [← hw]; exact sm_gw (q_X9_warmth (xs (6 * j + 1)) (xs (6 * j + 2)) h)) (fun σ1 X h => q_X10_warmth (xs (6 * j + 1)) (xs (6 * j + 2)) h mo_F.rf) (fun nf nl np Z Y h => (pe_warmth h (xs (6 * j + 1)) (xs (6 * j + 2))).mono (fun _ _ q => ⟨_, _, _, q⟩))
        simp only [k1, e1, k2, e2, Option.bind_some, bh_bnd_some, if_true]
        exact nx σ2 hI2
      rw [if_neg c8]
      by_cases c9 : xs (6 * j) &&& 31 = 9
      · rw [if_pos c9, s1, s2]
        obtain ⟨r, σ1, σ2, k1, e1, k2, e2, hI2⟩ := lw_step (fC := f_X9_price a1 (xs (6 * j + 1)) (xs (6 * j + 2))) (fM := f_X10_price a7 (xs (6 * j + 1)) (xs (6 * j + 2))) (gC := g_X9_price (xs (6 * j + 1)) (xs (6 * j + 2))) (gM := g_X10_price (xs (6 * j + 1)) (xs (6 * j + 2))) hI (fun w nf nl lp np Z hw h => by rw [← hw]; exact sm_gw (q_X9_price (xs (6 * j + 1)) (xs (6 * j + 2)) h)) (fun σ1 X h => q_X10_price (xs (6 * j + 1)) (xs (6 * j + 2)) h mo_F.rf) (fun nf nl np Z Y h => (pe_price h (xs (6 * j + 1)) (xs (6 * j + 2))).mono (fun _ _ q => ⟨_, _, _, q⟩))
        simp only [k1, e1, k2, e2, Option.bind_some, bh_bnd_some, if_true]
        exact nx σ2 hI2
      rw [if_neg c9]
      by_cases c10 : xs (6 * j) &&& 31 = 10
      · rw [if_pos c10, s1, s2]
        simp only [Option.bind_some]
        by_cases q : xs (6 * j + 2) = 0
        · rw [if_pos q]
          unfold f_L_law_b511 f_L_law_b533
          rw [s1, s2]
          obtain ⟨r, σ1, σ2, k1, e1, k2, e2, hI2⟩ := lw_step (fC := f_X9_cover a1 (xs (6 * j + 1)) 0) (fM := f_X10_cover a7 (xs (6 * j + 1)) 0) (gC := g_X9_cover (xs (6 * j + 1)) 0) (gM := g_X10_cover (xs (6 * j + 1)) 0) hI (fun w nf nl lp np Z hw h => by rw [← hw]; exact sm_gw (q_X9_cover (xs (6 * j + 1)) 0 h)) (fun σ1 X h => q_X10_cover (xs (6 * j + 1)) 0 h mo_F.rf) (fun nf nl np Z Y h => (pe_cover h (xs (6 * j + 1)) 0 (Or.inl rfl)).mono (fun _ _ q => ⟨_, _, _, q⟩))
          simp only [k1, e1, k2, e2, Option.bind_some, bh_bnd_some, if_true, if_pos q]
          exact nx σ2 hI2
        · rw [if_neg q]
          unfold f_L_law_b511 f_L_law_b533
          rw [s1, s2]
          obtain ⟨r, σ1, σ2, k1, e1, k2, e2, hI2⟩ := lw_step (fC := f_X9_cover a1 (xs (6 * j + 1)) 1) (fM := f_X10_cover a7 (xs (6 * j + 1)) 1) (gC := g_X9_cover (xs (6 * j + 1)) 1) (gM := g_X10_cover (xs (6 * j + 1)) 1) hI (fun w nf nl lp np Z hw h => by rw [← hw]; exact sm_gw (q_X9_cover (xs (6 * j + 1)) 1 h)) (fun σ1 X h => q_X10_cover (xs (6 * j + 1)) 1 h mo_F.rf) (fun nf nl np Z Y h => (pe_cover h (xs (6 * j + 1)) 1 (Or.inr rfl)).mono (fun _ _ q => ⟨_, _, _, q⟩))
          simp only [k1, e1, k2, e2, Option.bind_some, bh_bnd_some, if_true, if_neg q]
          exact nx σ2 hI2
      rw [if_neg c10]
      by_cases c11 : xs (6 * j) &&& 31 = 11
      · rw [if_pos c11, s1]
        simp only [Option.bind_some]
        by_cases q : xs (6 * j + 1) = 0
        · rw [if_pos q]
          unfold f_L_law_b555 f_L_law_b572
          rw [s1]
          obtain ⟨r, σ1, σ2, k1, e1, k2, e2, hI2⟩ := lw_step (fC := f_X9_frost N a1 0) (fM := f_X10_frost N a7 0) (gC := g_X9_frost N 0) (gM := g_X10_frost N 0) hI (fun w nf nl lp np Z hw h => by rw [← hw]; exact sm_gw (q_X9_frost N 0 h)) (fun σ1 X h => q_X10_frost N 0 h mo_F.rf) (fun nf nl np Z Y h => (pe_frost hN h 0 (Or.inl rfl)).mono (fun _ _ q => ⟨_, _, _, q⟩))
          simp only [k1, e1, k2, e2, Option.bind_some, bh_bnd_some, if_true, if_pos q]
          exact nx σ2 hI2
        · rw [if_neg q]
          unfold f_L_law_b555 f_L_law_b572
          rw [s1]
          obtain ⟨r, σ1, σ2, k1, e1, k2, e2, hI2⟩ := lw_step (fC := f_X9_frost N a1 1) (fM := f_X10_frost N a7 1) (gC := g_X9_frost N 1) (gM := g_X10_frost N 1) hI (fun w nf nl lp np Z hw h => by rw [← hw]; exact sm_gw (q_X9_frost N 1 h)) (fun σ1 X h => q_X10_frost N 1 h mo_F.rf) (fun nf nl np Z Y h => (pe_frost hN h 1 (Or.inr rfl)).mono (fun _ _ q => ⟨_, _, _, q⟩))
          simp only [k1, e1, k2, e2, Option.bind_some, bh_bnd_some, if_true, if_neg q]
          exact nx σ2 hI2
      rw [if_neg c11]
      by_cases c12 : xs (6 * j) &&& 31 = 12
      · rw [if_pos c12, s1]
        obtain ⟨r, σ1, σ2, k1, e1, k2, e2, hI2⟩ := lw_step (fC := f_X9_hours N a1 (xs (6 * j + 1))) (fM := f_X10_hours N a7 (xs (6 * j + 1))) (gC := g_X9_hours N (xs (6 * j + 1))) (gM := g_X10_hours N (xs (6 * j + 1))) hI (fun w nf nl lp np Z hw h => by rw [← hw]; exact sm_gx (q_X9_hours N (xs (6 * j + 1)) h)) (fun σ1 X h => q_X10_hours N (xs (6 * j + 1)) h mo_F.rf) (fun nf nl np Z Y h => pe_hours hN h (xs (6 * j + 1)))
        simp only [k1, e1, k2, e2, Option.bind_some, bh_bnd_some, if_true]
        exact nx σ2 hI2
      rw [if_neg c12]
      by_cases c13 : xs (6 * j) &&& 31 = 13
      · rw [if_pos c13, s1]
        obtain ⟨r, σ1, σ2, k1, e1, k2, e2, hI2⟩ := lw_step (fC := f_X9_owed a1 (xs (6 * j + 1))) (fM := f_X10_owed N a7 (xs (6 * j + 1))) (gC := g_X9_owed (xs (6 * j + 1))) (gM := g_X10_owed N (xs (6 * j + 1))) hI (fun w nf nl lp np Z hw h => by rw [← hw]; exact sm_gw (q_X9_owed (xs (6 * j + 1)) h)) (fun σ1 X h => q_X10_owed N (xs (6 * j + 1)) h mo_F.rf) (fun nf nl np Z Y h => (pe_owed hN h (xs (6 * j + 1))).mono (fun _ _ q => ⟨_, _, _, q⟩))
        simp only [k1, e1, k2, e2, Option.bind_some, bh_bnd_some, if_true]
        exact nx σ2 hI2
      rw [if_neg c13]
      by_cases c14 : xs (6 * j) &&& 31 = 14
      · rw [if_pos c14]
        obtain ⟨r, σ1, σ2, k1, e1, k2, e2, hI2⟩ := lw_step (fC := f_X9_next N a1 ) (fM := f_X10_next N a7 ) (gC := g_X9_next N ) (gM := g_X10_next N ) hI (fun w nf nl lp np Z hw h => by rw [← hw]; exact sm_gw (q_X9_next N  h)) (fun σ1 X h => q_X10_next N  h mo_F.rf) (fun nf nl np Z Y h => (pe_next hN h ).mono (fun _ _ q => ⟨_, _, _, q⟩))
        simp only [k1, e1, k2, e2, Option.bind_some, bh_bnd_some, if_true]
        exact nx σ2 hI2
      rw [if_neg c14]
      by_cases c15 : xs (6 * j) &&& 31 = 15
      · rw [if_pos c15]
        obtain ⟨r, σ1, σ2, k1, e1, k2, e2, hI2⟩ := lw_step (fC := f_X9_best N a1 ) (fM := f_X10_best N a7 ) (gC := g_X9_best N ) (gM := g_X10_best N ) hI (fun w nf nl lp np Z hw h => by rw [← hw]; exact sm_gw (q_X9_best N  h)) (fun σ1 X h => q_X10_best N  h mo_F.rf) (fun nf nl np Z Y h => (pe_best hN h ).mono (fun _ _ q => ⟨_, _, _, q⟩))
        simp only [k1, e1, k2, e2, Option.bind_some, bh_bnd_some, if_true]
        exact nx σ2 hI2
      rw [if_neg c15]
      by_cases c16 : xs (6 * j) &&& 31 = 16
      · rw [if_pos c16, s1]
        obtain ⟨r, σ1, σ2, k1, e1, k2, e2, hI2⟩ := lw_step (fC := f_X9_order N a1 (xs (6 * j + 1))) (fM := f_X10_order N a7 (xs (6 * j + 1))) (gC := g_X9_order N (xs (6 * j + 1))) (gM := g_X10_order N (xs (6 * j + 1))) hI (fun w nf nl lp np Z hw h => by rw [← hw]; exact sm_gw (q_X9_order N (xs (6 * j + 1)) h)) (fun σ1 X h => q_X10_order N (xs (6 * j + 1)) h mo_F.rf) (fun nf nl np Z Y h => (pe_order hN h (xs (6 * j + 1))).mono (fun _ _ q => ⟨_, _, _, q⟩))
        simp only [k1, e1, k2, e2, Option.bind_some, bh_bnd_some, if_true]
        exact nx σ2 hI2
      rw [if_neg c16]
      by_cases c17 : xs (6 * j) &&& 31 = 17
      · rw [if_pos c17, s1, s2]
        obtain ⟨r, σ1, σ2, k1, e1, k2, e2, hI2⟩ := lw_step (fC := f_X9_fieldOf N a1 (xs (6 * j + 1)) (xs (6 * j + 2))) (fM := f_X10_fieldOf N a7 (xs (6 * j + 1)) (xs (6 * j + 2))) (gC := g_X9_fieldOf N (xs (6 * j + 1)) (xs (6 * j + 2))) (gM := g_X10_fieldOf N (xs (6 * j + 1)) (xs (6 * j + 2))) hI (fun w nf nl lp np Z hw h => by rw [← hw]; exact sm_gw (q_X9_fieldOf N (xs (6 * j + 1)) (xs (6 * j + 2)) h)) (fun σ1 X h => q_X10_fieldOf N (xs (6 * j + 1)) (xs (6 * j + 2)) h mo_F.rf) (fun nf nl np Z Y h => (pe_fieldOf hN h (xs (6 * j + 1)) (xs (6 * j + 2))).mono (fun _ _ q => ⟨_, _, _, q⟩))
        simp only [k1, e1, k2, e2, Option.bind_some, bh_bnd_some, if_true]
        exact nx σ2 hI2
      rw [if_neg c17]
      by_cases c18 : xs (6 * j) &&& 31 = 18
      · rw [if_pos c18, s1, s2]
        obtain ⟨r, σ1, σ2, k1, e1, k2, e2, hI2⟩ := lw_step (fC := f_X9_lorryOf a1 (xs (6 * j + 1)) (xs (6 * j + 2))) (fM := f_X10_lorryOf a7 (xs (6 * j + 1)) (xs (6 * j + 2))) (gC := g_X9_lorryOf (xs (6 * j + 1)) (xs (6 * j + 2))) (gM := g_X10_lorryOf (xs (6 * j + 1)) (xs (6 * j + 2))) hI (fun w nf nl lp np Z hw h => by rw [← hw]; exact sm_gw (q_X9_lorryOf (xs (6 * j + 1)) (xs (6 * j + 2)) h)) (fun σ1 X h => q_X10_lorryOf (xs (6 * j + 1)) (xs (6 * j + 2)) h mo_F.rf) (fun nf nl np Z Y h => (pe_lorryOf h (xs (6 * j + 1)) (xs (6 * j + 2))).mono (fun _ _ q => ⟨_, _, _, q⟩))
        simp only [k1, e1, k2, e2, Option.bind_some, bh_bnd_some, if_true]
        exact nx σ2 hI2
      rw [if_neg c18]
      by_cases c19 : xs (6 * j) &&& 31 = 19
      · rw [if_pos c19, s1, s2]
        obtain ⟨r, σ1, σ2, k1, e1, k2, e2, hI2⟩ := lw_step (fC := f_X9_load a1 (xs (6 * j + 1)) (xs (6 * j + 2))) (fM := f_X10_load a7 (xs (6 * j + 1)) (xs (6 * j + 2))) (gC := g_X9_load (xs (6 * j + 1)) (xs (6 * j + 2))) (gM := g_X10_load (xs (6 * j + 1)) (xs (6 * j + 2))) hI (fun w nf nl lp np Z hw h => by rw [← hw]; exact sm_gw (q_X9_load (xs (6 * j + 1)) (xs (6 * j + 2)) h)) (fun σ1 X h => q_X10_load (xs (6 * j + 1)) (xs (6 * j + 2)) h mo_F.rf) (fun nf nl np Z Y h => (pe_load h (xs (6 * j + 1)) (xs (6 * j + 2))).mono (fun _ _ q => ⟨_, _, _, q⟩))
        simp only [k1, e1, k2, e2, Option.bind_some, bh_bnd_some, if_true]
        exact nx σ2 hI2
      rw [if_neg c19]
      by_cases c20 : xs (6 * j) &&& 31 = 20
      · rw [if_pos c20, s1]
        obtain ⟨r, σ1, σ2, k1, e1, k2, e2, hI2⟩ := lw_step (fC := f_X9_coins a1 (xs (6 * j + 1))) (fM := f_X10_coins a7 (xs (6 * j + 1))) (gC := g_X9_coins (xs (6 * j + 1))) (gM := g_X10_coins (xs (6 * j + 1))) hI (fun w nf nl lp np Z hw h => by rw [← hw]; exact sm_gw (q_X9_coins (xs (6 * j + 1)) h)) (fun σ1 X h => q_X10_coins (xs (6 * j + 1)) h mo_F.rf) (fun nf nl np Z Y h => (pe_coins h (xs (6 * j + 1))).mono (fun _ _ q => ⟨_, _, _, q⟩))
        simp only [k1, e1, k2, e2, Option.bind_some, bh_bnd_some, if_true]
        exact nx σ2 hI2
      rw [if_neg c20]
      by_cases c21 : xs (6 * j) &&& 31 = 21
      · rw [if_pos c21, s1]
        obtain ⟨r, σ1, σ2, k1, e1, k2, e2, hI2⟩ := lw_step (fC := f_X9_count N a1 (xs (6 * j + 1))) (fM := f_X10_count N a7 (xs (6 * j + 1))) (gC := g_X9_count N (xs (6 * j + 1))) (gM := g_X10_count N (xs (6 * j + 1))) hI (fun w nf nl lp np Z hw h => by rw [← hw]; exact sm_gw (q_X9_count N (xs (6 * j + 1)) h)) (fun σ1 X h => q_X10_count N (xs (6 * j + 1)) h mo_F.rf) (fun nf nl np Z Y h => (pe_count hN h (xs (6 * j + 1))).mono (fun _ _ q => ⟨_, _, _, q⟩))
        simp only [k1, e1, k2, e2, Option.bind_some, bh_bnd_some, if_true]
        exact nx σ2 hI2
      rw [if_neg c21]
      exact nx σ hI
end LW
