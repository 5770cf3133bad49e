/-! a field, a lorry -/
def cv_w (w : Nat → Nat → Nat) (t n z : Nat) : Nat → Nat → Nat := fun c i => if c = t ∧ i = n then z else w c i
theorem cv_w_eq {w : Nat → Nat → Nat} {t n z : Nat} : cv_w w t n z t n = z := if_pos ⟨rfl, rfl⟩
theorem cv_w_ne {w : Nat → Nat → Nat} {t n z c i : Nat} (h : c ≠ t) : cv_w w t n z c i = w c i := if_neg (fun q => h q.1)
theorem cv_w_ni {w : Nat → Nat → Nat} {t n z c i : Nat} (h : i ≠ n) : cv_w w t n z c i = w c i := if_neg (fun q => h q.2)
theorem cv_w_fn {w : Nat → Nat → Nat} {t n z c : Nat} (h : c ≠ t) : cv_w w t n z c = w c := funext (fun _ => cv_w_ne h)
theorem cv_map_lt {o : Option Nat} {f g : Nat → Nat} {n : Nat} (ho : ∀ j, o = some j → j < n) (h : ∀ j, j < n → f j = g j) : o.map f = o.map g := by
  cases o with
  | none => rfl
  | some j => exact congrArg some (h j (ho j rfl))
theorem cv_cn_f {nf nl c : Nat} (h : c ≠ 7) : cv_cn (nf + 1) nl c = cv_cn nf nl c := by
  unfold cv_cn
  split <;> first | rfl | exact absurd rfl h
theorem cv_cn_l {nf nl c : Nat} (h : c ≠ 4) : cv_cn nf (nl + 1) c = cv_cn nf nl c := by
  unfold cv_cn
  split <;> first | rfl | exact absurd rfl h
def xs_nF (a5 : Nat) (p2 p3 p4 p5 : Int32) (Z : xs_S) : xs_S :=
  xs_up (xs_up (xs_up (xs_up (xs_up (xs_up (xs_up (xs_up (xs_up (xs_up (xs_up (xs_up (xs_up (xs_up (xs_up (xs_up Z 7 0 (Z 7 0 + 1)) 18 (Z 7 0).toNatClampNeg (Int32.ofNat a5)) 19 (Z 7 0).toNatClampNeg p2) 20 (Z 7 0).toNatClampNeg p3) 21 (Z 7 0).toNatClampNeg p4) 28 (Z 7 0).toNatClampNeg p5) 24 (Z 7 0).toNatClampNeg (-9)) 22 (Z 7 0).toNatClampNeg 0) 23 (Z 7 0).toNatClampNeg 0) 29 (Z 7 0).toNatClampNeg 0) 30 (Z 7 0).toNatClampNeg 0) 25 (Z 7 0).toNatClampNeg 0) 26 (Z 7 0).toNatClampNeg 0) 27 (Z 7 0).toNatClampNeg 0) 101 (Z 7 0).toNatClampNeg (Z 7 0)) 90 0 (Z 90 0 + 1)
theorem xs_nF_ne {a5 : Nat} {p2 p3 p4 p5 : Int32} {Z : xs_S} {k i : Nat} (h : ∀ k', k' < 14 → k ≠ cv_cd 7 k') (h4 : k ≠ 7) (h5 : k ≠ 90) : xs_nF a5 p2 p3 p4 p5 Z k i = Z k i := by
  unfold xs_nF
  rw [xs_up_ne h5, xs_up_ne (show k ≠ 101 from h 0 (by decide)), xs_up_ne (show k ≠ 27 from h 13 (by decide)), xs_up_ne (show k ≠ 26 from h 12 (by decide)), xs_up_ne (show k ≠ 25 from h 11 (by decide)), xs_up_ne (show k ≠ 30 from h 9 (by decide)), xs_up_ne (show k ≠ 29 from h 8 (by decide)), xs_up_ne (show k ≠ 23 from h 7 (by decide)), xs_up_ne (show k ≠ 22 from h 6 (by decide)), xs_up_ne (show k ≠ 24 from h 10 (by decide)), xs_up_ne (show k ≠ 28 from h 4 (by decide)), xs_up_ne (show k ≠ 21 from h 3 (by decide)), xs_up_ne (show k ≠ 20 from h 2 (by decide)), xs_up_ne (show k ≠ 19 from h 5 (by decide)), xs_up_ne (show k ≠ 18 from h 1 (by decide)), xs_up_ne h4]
theorem xs_nF_ni {a5 : Nat} {p2 p3 p4 p5 : Int32} {Z : xs_S} {k i : Nat} (h : i ≠ (Z 7 0).toNatClampNeg) (h4 : k ≠ 7) (h5 : k ≠ 90) : xs_nF a5 p2 p3 p4 p5 Z k i = Z k i := by
  unfold xs_nF
  rw [xs_up_ne h5, xs_up_ni h, xs_up_ni h, xs_up_ni h, xs_up_ni h, xs_up_ni h, xs_up_ni h, xs_up_ni h, xs_up_ni h, xs_up_ni h, xs_up_ni h, xs_up_ni h, xs_up_ni h, xs_up_ni h, xs_up_ni h, xs_up_ne h4]
def g_X9_field_new (a5 : Nat) (p2 p3 p4 p5 : Int32) (Z : xs_S) : Option (Int32 × xs_S) :=
  if Z 7 0 < 16 ∧ (0 ≤ Z 90 0 ∧ Z 90 0 < 1000000) ∧ (p5 = 0 ∨ p5 = 1) then some (Z 7 0, xs_nF a5 p2 p3 p4 p5 Z) else none
theorem cv_fd7 : ∀ k', k' < 14 → cv_fd 7 k' = true := by decide
theorem cv_fd4 : ∀ k', k' < 8 → cv_fd 4 k' = true := by decide
theorem cv_cd7 {c k k' : Nat} (h : cv_fd c k = true) (hc : c ≠ 7) (hk' : k' < 14) : cv_cd c k ≠ cv_cd 7 k' := fun e => hc (cv_cd_inj h (cv_fd7 k' hk') e).1
theorem cv_newF {w : Nat → Nat → Nat} {nf nl mb z1 n1 : Nat} {σ0 : bh_S} {lp : Nat → Nat} {np : Nat} {σ σb : bh_S} {Z : xs_S} {a5 : Nat} {p2 p3 p4 p5 : Int32} (h : cv_R w nf nl mb z1 n1 σ0 lp np σ Z) (hnf : nf < 16) (hg : 0 ≤ Z 90 0 ∧ Z 90 0 < 1000000) (hn : cv_nw σ σb 7 14) (ha5 : a5 < 6) (hR : bh_R σb 7 (bh_z σ) 1 = some (w 1 a5)) (hI : ∀ k, cv_iF 7 k = true → bh_I σb 7 (bh_z σ) k = xs_nF a5 p2 p3 p4 p5 Z (cv_cd 7 k) nf) : ∃ σc, f_Jx4a65c_add_9ea2d (w 0 0) (bh_z σ) σb = some (1, σc) ∧ cv_R (cv_w w 7 nf (bh_z σ)) (nf + 1) nl mb z1 n1 σ0 lp np σc (xs_nF a5 p2 p3 p4 p5 Z) := by
  obtain ⟨ea, hO, hV, hC, hA, hS, hL, hQ, hF⟩ := h
  have e7 : Z 7 0 = Int32.ofNat nf := (hS.2.2 0 (by decide)).2.1.2
  have n7 : (Z 7 0).toNatClampNeg = nf := by rw [e7]; exact i32_natof (by omega)
  obtain ⟨σc, e', C', r1, ha⟩ := cv_add (j := 0) hS hQ (by decide) hn (Or.inr (Or.inr rfl)) (fun i hi => ⟨by show bh_K σ (w 7 i) < 12; rw [(hO 7 i hi).1]; decide, (hO 7 i hi).2.1⟩)
  have hlc : ∀ k, (k = 8 ∨ k = 44 ∨ k = 41 ∨ k = 42 ∨ k = 43) → ∀ k', k' < 14 → k ≠ cv_cd 7 k' := by
    rintro k (rfl | rfl | rfl | rfl | rfl) <;> decide
  have hx := cv_ext (w' := cv_w w 7 nf (bh_z σ)) (nf' := nf + 1) (nl' := nl) (np' := np) (lp' := lp) (Z' := xs_nF a5 p2 p3 p4 p5 Z) hO hC hA hS hQ hF (by decide) (Or.inr (Or.inr rfl)) (by decide) ha (fun _ _ hc => cv_w_ne hc) ⟨by omega, hS.1.2.1, hS.1.2.2⟩ ⟨show nf < 3100 by omega, fun _ => hnf⟩ rfl
    (fun j' hj' hne => by match j', hj', hne with | 0, _, hne => exact absurd rfl hne | 1, _, _ => rfl | 2, _, _ => rfl)
    (fun j' i hj' hi => by
      match j', hj', hi with
      | 0, _, hi => exact cv_w_ni (Nat.ne_of_lt hi)
      | 1, _, _ => exact cv_w_ne (by decide)
      | 2, _, hi => rfl)
    cv_w_eq
    (fun j hj i => by
      obtain ⟨p2, p3, p4, p5, p6⟩ := cv_ac_ne j hj
      exact xs_nF_ne (fun k' hk' e => (cv_cd_ne (cv_fd7 k' hk')).1 j hj e) (fun e => p2 0 (by decide) e.symm) (fun e => p6 e.symm))
    (by
      show xs_nF a5 p2 p3 p4 p5 Z 7 0 = Int32.ofNat (nf + 1)
      unfold xs_nF
      rw [xs_up_ne (by decide), xs_up_ne (by decide), xs_up_ne (by decide), xs_up_ne (by decide), xs_up_ne (by decide), xs_up_ne (by decide), xs_up_ne (by decide), xs_up_ne (by decide), xs_up_ne (by decide), xs_up_ne (by decide), xs_up_ne (by decide), xs_up_ne (by decide), xs_up_ne (by decide), xs_up_ne (by decide), xs_up_ne (by decide), xs_up_eq, e7]
      exact i32_ofadd1 (by omega))
    (fun j' hj' hne => by
      match j', hj', hne with
      | 0, _, hne => exact absurd rfl hne
      | 1, _, _ => exact xs_nF_ne (hlc 8 (by decide)) (by decide) (by decide)
      | 2, _, _ => exact xs_nF_ne (hlc 44 (by decide)) (by decide) (by decide))
    (by
      unfold xs_nF
      rw [xs_up_eq]
      exact i32_add1 hg)
  have hz := ha.z
  refine ⟨σc, r1, _, ?_, ?_, hx.1, hx.2.1, hx.2.2.1, ?_, hx.2.2.2.1, hx.2.2.2.2⟩
  · intro c i hi
    by_cases hc : c = 7
    · subst hc
      have hi : i < nf + 1 := hi
      by_cases e : i = nf
      · subst e
        rw [cv_w_eq]
        refine ⟨ha.2.2.1, hz, fun j hj e => ?_, fun k hk => ?_⟩
        · by_cases e2 : j = i
          · exact e2
          · rw [cv_w_ni e2] at e
            have := (hO 7 j (show j < i by have : j < i + 1 := hj; omega)).2.1
            omega
        · rw [ha.2.2.2.2.2.2.2.2.2.2.2.2.2.1]
          exact hI k hk
      · have hi2 : i < cv_cn nf nl 7 := show i < nf by omega
        obtain ⟨q1, q2, q3⟩ := ha.old hO hi2
        rw [cv_w_ni e]
        refine ⟨q1, q2, fun j hj e2 => ?_, fun k hk => ?_⟩
        · by_cases e3 : j = nf
          · rw [e3, cv_w_eq] at e2
            have := (hO 7 i hi2).2.1
            omega
          · rw [cv_w_ni e3] at e2
            exact (hO 7 i hi2).2.2.1 j (show j < nf by have : j < nf + 1 := hj; omega) e2
        · rw [q3 k hk, xs_nF_ni (by rw [n7]; exact e)]
          · intro e4
            exact (cv_cd_ne (cv_iF_fd hk)).2.1 0 (by decide) e4.symm
          · intro e4
            exact (cv_cd_ne (cv_iF_fd hk)).2.2.2.2.2 e4.symm
    · rw [cv_cn_f hc] at hi
      obtain ⟨q1, q2, q3⟩ := ha.old hO hi
      rw [cv_w_ne hc]
      refine ⟨q1, q2, fun j hj e2 => ?_, fun k hk => ?_⟩
      · rw [cv_w_ne hc] at e2
        rw [cv_cn_f hc] at hj
        exact (hO c i hi).2.2.1 j hj e2
      · rw [q3 k hk, xs_nF_ne (fun k' hk' => cv_cd7 (cv_iF_fd hk) hc hk')]
        · intro e4
          exact (cv_cd_ne (cv_iF_fd hk)).2.1 0 (by decide) e4.symm
        · intro e4
          exact (cv_cd_ne (cv_iF_fd hk)).2.2.2.2.2 e4.symm
  · intro c k i h1 h2
    have hc : c ≠ 0 ∧ c ≠ 16 := by rcases cv_tk_ne h1 with ⟨rfl, rfl⟩ | ⟨rfl, rfl⟩ | ⟨rfl, rfl⟩ <;> decide
    have k7 : cv_cd c k ≠ 7 := fun e4 => (cv_cd_ne (cv_tk_fd h1)).2.1 0 (by decide) e4.symm
    have k90 : cv_cd c k ≠ 90 := fun e4 => (cv_cd_ne (cv_tk_fd h1)).2.2.2.2.2 e4.symm
    by_cases hc7 : c = 7
    · subst hc7
      have hk1 : k = 1 := by rcases cv_tk_ne h1 with ⟨_, rfl⟩ | ⟨e, _⟩ | ⟨e, _⟩ <;> first | rfl | exact absurd e (by decide)
      subst hk1
      have h2 : i < nf + 1 := h2
      show bh_R σc 7 (cv_w w 7 nf (bh_z σ) 7 i) 1 = (xs_rf (xs_nF a5 p2 p3 p4 p5 Z 18 i)).map (cv_w w 7 nf (bh_z σ) 1) ∧ ∀ j, xs_rf (xs_nF a5 p2 p3 p4 p5 Z 18 i) = some j → j < 6
      rw [cv_w_fn (c := 1) (by decide)]
      by_cases e : i = nf
      · subst e
        have v : xs_nF a5 p2 p3 p4 p5 Z 18 i = xs_fr (-1) (some a5) := by
          unfold xs_nF
          rw [n7, xs_up_ne (by decide), xs_up_ne (by decide), xs_up_ne (by decide), xs_up_ne (by decide), xs_up_ne (by decide), xs_up_ne (by decide), xs_up_ne (by decide), xs_up_ne (by decide), xs_up_ne (by decide), xs_up_ne (by decide), xs_up_ne (by decide), xs_up_ne (by decide), xs_up_ne (by decide), xs_up_ne (by decide), xs_up_eq]
          rfl
        rw [cv_w_eq, v, xs_rf_fr (by decide) (fun j hj => by cases hj; omega), ha.2.2.2.2.2.2.2.2.2.2.2.2.2.2]
        exact ⟨hR, fun j hj => by cases hj; exact ha5⟩
      · have hi2 : i < cv_cn nf nl 7 := show i < nf by omega
        rw [cv_w_ni e, ha.oldR hO hi2 hc.1 hc.2, xs_nF_ni (k := 18) (by rw [n7]; exact e) (by decide) (by decide)]
        exact hV 7 1 i h1 hi2
    · rw [cv_cn_f hc7] at h2
      have ht : cv_tk c k = 7 := by
        rcases cv_tk_ne h1 with ⟨rfl, rfl⟩ | ⟨rfl, rfl⟩ | ⟨rfl, rfl⟩
        · exact absurd rfl hc7
        · rfl
        · rfl
      have hv := hV c k i h1 h2
      rw [ht] at hv ⊢
      have e1 : xs_nF a5 p2 p3 p4 p5 Z (cv_cd c k) i = Z (cv_cd c k) i := xs_nF_ne (fun k' hk' => cv_cd7 (cv_tk_fd h1) hc7 hk') k7 k90
      rw [cv_w_ne hc7, ha.oldR hO h2 hc.1 hc.2, e1, hv.1]
      refine ⟨cv_map_lt hv.2 (fun j hj => (cv_w_ni (Nat.ne_of_lt hj)).symm), fun j hj => ?_⟩
      have : j < nf := hv.2 j hj
      show j < nf + 1
      omega
  · intro i hi
    obtain ⟨q1, q2, q4, j, q5, q6, q7⟩ := ha.oldL hL hi
    rw [xs_nF_ne (hlc 41 (by decide)) (by decide) (by decide), xs_nF_ne (hlc 42 (by decide)) (by decide) (by decide), xs_nF_ne (hlc 43 (by decide)) (by decide) (by decide)]
    exact ⟨q1, q2, (hL i hi).2.2.1, q4, j, by omega, q6, by rw [cv_w_ni (Nat.ne_of_lt q5)]; exact q7⟩
set_option maxRecDepth 100000 in
theorem q_X9_field_new {w : Nat → Nat → Nat} {nf nl mb z1 n1 : Nat} {σ0 : bh_S} {lp : Nat → Nat} {np : Nat} (a5 : Nat) (p2 p3 p4 p5 : Int32) (ha5 : a5 < cv_cn nf nl 1) {σ : bh_S} {Z : xs_S} (h : cv_R w nf nl mb z1 n1 σ0 lp np σ Z) : sm (cv_Gw w mb z1 n1 σ0) (f_X9_field_new (w 0 0) (w 1 a5) (Z 7 0) p2 p3 p4 p5 σ) (g_X9_field_new a5 p2 p3 p4 p5 Z) := by
  unfold g_X9_field_new
  by_cases hg : Z 7 0 < 16 ∧ (0 ≤ Z 90 0 ∧ Z 90 0 < 1000000) ∧ (p5 = 0 ∨ p5 = 1)
  · rw [if_pos hg]
    obtain ⟨ea, hO, hV, hC, hA, hS, hL, hQ, hF⟩ := id h
    have e7 : Z 7 0 = Int32.ofNat nf := (hS.2.2 0 (by decide)).2.1.2
    have n7 : (Z 7 0).toNatClampNeg = nf := by rw [e7]; exact i32_natof (by have := hS.1; omega)
    have hnf : nf < 16 := by
      have q := hg.1
      rw [e7, i32_lt, i32_of (by have := hS.1; omega)] at q
      have q : (nf : Int) < 16 := q
      omega
    have h00 := hS.2.2 0 (by decide)
    have e4 : f_X6_init (bh_z σ) (Z 7 0) (w 1 a5) p2 p3 p4 p5 (bh_new σ 7 14 0) = some ((), bh_setI (bh_setI (bh_setI (bh_setI (bh_setR (bh_setI (bh_setI (bh_setI (bh_setI (bh_setI (bh_setI (bh_setI (bh_setI (bh_setI (bh_new σ 7 14 0) 7 (bh_z σ) 6 0) 7 (bh_z σ) 7 0) 7 (bh_z σ) 8 0) 7 (bh_z σ) 9 0) 7 (bh_z σ) 10 (-9)) 7 (bh_z σ) 11 0) 7 (bh_z σ) 12 0) 7 (bh_z σ) 13 0) 7 (bh_z σ) 0 (Z 7 0)) 7 (bh_z σ) 1 (some (w 1 a5))) 7 (bh_z σ) 5 p2) 7 (bh_z σ) 2 p3) 7 (bh_z σ) 3 p4) 7 (bh_z σ) 4 p5) := by
      simp only [f_X6_init, bh_wrI, bh_wrR, bh_wrZ, bh_K_setI, bh_K_setR, bh_K_new, if_true, Option.bind_some, true_and, hg.2.2, true_or]
    generalize hb : bh_setI (bh_setI (bh_setI (bh_setI (bh_setR (bh_setI (bh_setI (bh_setI (bh_setI (bh_setI (bh_setI (bh_setI (bh_setI (bh_setI (bh_new σ 7 14 0) 7 (bh_z σ) 6 0) 7 (bh_z σ) 7 0) 7 (bh_z σ) 8 0) 7 (bh_z σ) 9 0) 7 (bh_z σ) 10 (-9)) 7 (bh_z σ) 11 0) 7 (bh_z σ) 12 0) 7 (bh_z σ) 13 0) 7 (bh_z σ) 0 (Z 7 0)) 7 (bh_z σ) 1 (some (w 1 a5))) 7 (bh_z σ) 5 p2) 7 (bh_z σ) 2 p3) 7 (bh_z σ) 3 p4) 7 (bh_z σ) 4 p5 = σb at e4
    have hn : cv_nw σ σb 7 14 := by rw [← hb]; exact cv_nw.new.setI.setI.setI.setI.setI.setI.setI.setI.setI.setR.setI.setI.setI.setI
    have e8 : bh_ck σb (w 0 0) 0 = some () := by
      unfold bh_ck
      rw [if_pos (by rw [(hn.2.2.2.2.1 _ h00.1.2.1).1]; exact h00.1.1)]
    obtain ⟨σc, r1, h'⟩ := cv_newF (a5 := a5) (p2 := p2) (p3 := p3) (p4 := p4) (p5 := p5) h hnf hg.2.1 hn ha5 (by rw [← hb]; simp [bh_R_setI, bh_R_setR]) (fun k hk => by
      have hk14 : k < 14 := (cv_fd_lt (cv_iF_fd hk)).2
      rw [← hb]
      unfold xs_nF
      rw [n7]
      match k, hk14, hk with
      | 0, _, _ => simp [bh_I_setI, bh_I_setR, cv_cd, xs_up]
      | 1, _, hk => exact absurd hk (by decide)
      | 2, _, _ => simp [bh_I_setI, bh_I_setR, cv_cd, xs_up]
      | 3, _, _ => simp [bh_I_setI, bh_I_setR, cv_cd, xs_up]
      | 4, _, _ => simp [bh_I_setI, bh_I_setR, cv_cd, xs_up]
      | 5, _, _ => simp [bh_I_setI, bh_I_setR, cv_cd, xs_up]
      | 6, _, _ => simp [bh_I_setI, bh_I_setR, cv_cd, xs_up]
      | 7, _, _ => simp [bh_I_setI, bh_I_setR, cv_cd, xs_up]
      | 8, _, _ => simp [bh_I_setI, bh_I_setR, cv_cd, xs_up]
      | 9, _, _ => simp [bh_I_setI, bh_I_setR, cv_cd, xs_up]
      | 10, _, _ => simp [bh_I_setI, bh_I_setR, cv_cd, xs_up]
      | 11, _, _ => simp [bh_I_setI, bh_I_setR, cv_cd, xs_up]
      | 12, _, _ => simp [bh_I_setI, bh_I_setR, cv_cd, xs_up]
      | 13, _, _ => simp [bh_I_setI, bh_I_setR, cv_cd, xs_up])
    unfold f_X9_field_new
    simp only [bh_newO_eq, bh_bnd_some, e4, Option.bind_some, e8, r1]
    exact sm_ret ⟨rfl, _, _, _, _, _, cv_w_ne (by decide), h'⟩
  · rw [if_neg hg]
    exact sm_none
def xs_nO (p1 : Int32) (Z : xs_S) : xs_S :=
  xs_up (xs_up (xs_up (xs_up (xs_up (xs_up (xs_up (xs_up (xs_up (xs_up Z 33 (Z 8 0).toNatClampNeg p1) 35 (Z 8 0).toNatClampNeg (-9)) 36 (Z 8 0).toNatClampNeg (-9)) 8 0 (Z 8 0 + 1)) 34 (Z 8 0).toNatClampNeg 0) 37 (Z 8 0).toNatClampNeg 0) 38 (Z 8 0).toNatClampNeg 0) 39 (Z 8 0).toNatClampNeg 0) 40 (Z 8 0).toNatClampNeg 0) 90 0 (Z 90 0 + 1)
theorem xs_nO_ne {p1 : Int32} {Z : xs_S} {k i : Nat} (h : ∀ k', k' < 8 → k ≠ cv_cd 4 k') (h4 : k ≠ 8) (h5 : k ≠ 90) : xs_nO p1 Z k i = Z k i := by
  unfold xs_nO
  rw [xs_up_ne h5, xs_up_ne (show k ≠ 40 from h 7 (by decide)), xs_up_ne (show k ≠ 39 from h 6 (by decide)), xs_up_ne (show k ≠ 38 from h 5 (by decide)), xs_up_ne (show k ≠ 37 from h 4 (by decide)), xs_up_ne (show k ≠ 34 from h 1 (by decide)), xs_up_ne h4, xs_up_ne (show k ≠ 36 from h 3 (by decide)), xs_up_ne (show k ≠ 35 from h 2 (by decide)), xs_up_ne (show k ≠ 33 from h 0 (by decide))]
theorem xs_nO_ni {p1 : Int32} {Z : xs_S} {k i : Nat} (h : i ≠ (Z 8 0).toNatClampNeg) (h4 : k ≠ 8) (h5 : k ≠ 90) : xs_nO p1 Z k i = Z k i := by
  unfold xs_nO
  rw [xs_up_ne h5, xs_up_ni h, xs_up_ni h, xs_up_ni h, xs_up_ni h, xs_up_ni h, xs_up_ne h4, xs_up_ni h, xs_up_ni h, xs_up_ni h]
theorem cv_cd4 {c k k' : Nat} (h : cv_fd c k = true) (hc : c ≠ 4) (hk' : k' < 8) : cv_cd c k ≠ cv_cd 4 k' := fun e => hc (cv_cd_inj h (cv_fd4 k' hk') e).1
theorem cv_newO {w : Nat → Nat → Nat} {nf nl mb z1 n1 : Nat} {σ0 : bh_S} {lp : Nat → Nat} {np : Nat} {σ σb : bh_S} {Z : xs_S} {p1 : Int32} (h : cv_R w nf nl mb z1 n1 σ0 lp np σ Z) (hnl : nl < 8) (hg : 0 ≤ Z 90 0 ∧ Z 90 0 < 1000000) (hn : cv_nw σ σb 4 8) (hR : bh_R σb 4 (bh_z σ) 2 = none) (hI : ∀ k, cv_iF 4 k = true → bh_I σb 4 (bh_z σ) k = xs_nO p1 Z (cv_cd 4 k) nl) : ∃ σc, f_Jx4a65c_add_9ea2d (w 0 1) (bh_z σ) σb = some (1, σc) ∧ cv_R (cv_w w 4 nl (bh_z σ)) nf (nl + 1) mb z1 n1 σ0 lp np σc (xs_nO p1 Z) := by
  obtain ⟨ea, hO, hV, hC, hA, hS, hL, hQ, hF⟩ := h
  have e8 : Z 8 0 = Int32.ofNat nl := (hS.2.2 1 (by decide)).2.1.2
  have n8 : (Z 8 0).toNatClampNeg = nl := by rw [e8]; exact i32_natof (by omega)
  obtain ⟨σc, e', C', r1, ha⟩ := cv_add (j := 1) hS hQ (by decide) hn (Or.inr (Or.inl rfl)) (fun i hi => ⟨by show bh_K σ (w 4 i) < 12; rw [(hO 4 i hi).1]; decide, (hO 4 i hi).2.1⟩)
  have hlc : ∀ k, (k = 7 ∨ k = 44 ∨ k = 41 ∨ k = 42 ∨ k = 43) → ∀ k', k' < 8 → k ≠ cv_cd 4 k' := by
    rintro k (rfl | rfl | rfl | rfl | rfl) <;> decide
  have hx := cv_ext (w' := cv_w w 4 nl (bh_z σ)) (nf' := nf) (nl' := nl + 1) (np' := np) (lp' := lp) (Z' := xs_nO p1 Z) hO hC hA hS hQ hF (by decide) (Or.inr (Or.inl rfl)) (by decide) ha (fun _ _ hc => cv_w_ne hc) ⟨hS.1.1, by omega, hS.1.2.2⟩ ⟨show nl < 3100 by omega, fun _ => show nl < 16 by omega⟩ rfl
    (fun j' hj' hne => by match j', hj', hne with | 0, _, _ => rfl | 1, _, hne => exact absurd rfl hne | 2, _, _ => rfl)
    (fun j' i hj' hi => by
      match j', hj', hi with
      | 0, _, _ => exact cv_w_ne (by decide)
      | 1, _, hi => exact cv_w_ni (Nat.ne_of_lt hi)
      | 2, _, hi => rfl)
    cv_w_eq
    (fun j hj i => by
      obtain ⟨p2, p3, p4, p5, p6⟩ := cv_ac_ne j hj
      exact xs_nO_ne (fun k' hk' e => (cv_cd_ne (cv_fd4 k' hk')).1 j hj e) (fun e => p2 1 (by decide) e.symm) (fun e => p6 e.symm))
    (by
      show xs_nO p1 Z 8 0 = Int32.ofNat (nl + 1)
      unfold xs_nO
      rw [xs_up_ne (by decide), xs_up_ne (by decide), xs_up_ne (by decide), xs_up_ne (by decide), xs_up_ne (by decide), xs_up_ne (by decide), xs_up_eq, e8]
      exact i32_ofadd1 (by omega))
    (fun j' hj' hne => by
      match j', hj', hne with
      | 0, _, _ => exact xs_nO_ne (hlc 7 (by decide)) (by decide) (by decide)
      | 1, _, hne => exact absurd rfl hne
      | 2, _, _ => exact xs_nO_ne (hlc 44 (by decide)) (by decide) (by decide))
    (by
      unfold xs_nO
      rw [xs_up_eq]
      exact i32_add1 hg)
  have hz := ha.z
  refine ⟨σc, r1, _, ?_, ?_, hx.1, hx.2.1, hx.2.2.1, ?_, hx.2.2.2.1, hx.2.2.2.2⟩
  · intro c i hi
    by_cases hc : c = 4
    · subst hc
      have hi : i < nl + 1 := hi
      by_cases e : i = nl
      · subst e
        rw [cv_w_eq]
        refine ⟨ha.2.2.1, hz, fun j hj e => ?_, fun k hk => ?_⟩
        · by_cases e2 : j = i
          · exact e2
          · rw [cv_w_ni e2] at e
            have := (hO 4 j (show j < i by have : j < i + 1 := hj; omega)).2.1
            omega
        · rw [ha.2.2.2.2.2.2.2.2.2.2.2.2.2.1]
          exact hI k hk
      · have hi2 : i < cv_cn nf nl 4 := show i < nl by omega
        obtain ⟨q1, q2, q3⟩ := ha.old hO hi2
        rw [cv_w_ni e]
        refine ⟨q1, q2, fun j hj e2 => ?_, fun k hk => ?_⟩
        · by_cases e3 : j = nl
          · rw [e3, cv_w_eq] at e2
            have := (hO 4 i hi2).2.1
            omega
          · rw [cv_w_ni e3] at e2
            exact (hO 4 i hi2).2.2.1 j (show j < nl by have : j < nl + 1 := hj; omega) e2
        · rw [q3 k hk, xs_nO_ni (by rw [n8]; exact e)]
          · intro e4
            exact (cv_cd_ne (cv_iF_fd hk)).2.1 1 (by decide) e4.symm
          · intro e4
            exact (cv_cd_ne (cv_iF_fd hk)).2.2.2.2.2 e4.symm
    · rw [cv_cn_l hc] at hi
      obtain ⟨q1, q2, q3⟩ := ha.old hO hi
      rw [cv_w_ne hc]
      refine ⟨q1, q2, fun j hj e2 => ?_, fun k hk => ?_⟩
      · rw [cv_w_ne hc] at e2
        rw [cv_cn_l hc] at hj
        exact (hO c i hi).2.2.1 j hj e2
      · rw [q3 k hk, xs_nO_ne (fun k' hk' => cv_cd4 (cv_iF_fd hk) hc hk')]
        · intro e4
          exact (cv_cd_ne (cv_iF_fd hk)).2.1 1 (by decide) e4.symm
        · intro e4
          exact (cv_cd_ne (cv_iF_fd hk)).2.2.2.2.2 e4.symm
  · intro c k i h1 h2
    have hc : c ≠ 0 ∧ c ≠ 16 := by rcases cv_tk_ne h1 with ⟨rfl, rfl⟩ | ⟨rfl, rfl⟩ | ⟨rfl, rfl⟩ <;> decide
    have k8 : cv_cd c k ≠ 8 := fun e4 => (cv_cd_ne (cv_tk_fd h1)).2.1 1 (by decide) e4.symm
    have k90 : cv_cd c k ≠ 90 := fun e4 => (cv_cd_ne (cv_tk_fd h1)).2.2.2.2.2 e4.symm
    have ht4 : cv_tk c k ≠ 4 := by
      rcases cv_tk_ne h1 with ⟨rfl, rfl⟩ | ⟨rfl, rfl⟩ | ⟨rfl, rfl⟩ <;> decide
    rw [cv_w_fn ht4, cv_cn_l ht4]
    by_cases hc4 : c = 4
    · subst hc4
      have hk1 : k = 2 := by rcases cv_tk_ne h1 with ⟨e, _⟩ | ⟨e, _⟩ | ⟨_, rfl⟩ <;> first | rfl | exact absurd e (by decide)
      subst hk1
      have h2 : i < nl + 1 := h2
      by_cases e : i = nl
      · subst e
        have v : xs_nO p1 Z (cv_cd 4 2) i = -9 := by
          show xs_nO p1 Z 35 i = -9
          unfold xs_nO
          rw [n8, xs_up_ne (by decide), xs_up_ne (by decide), xs_up_ne (by decide), xs_up_ne (by decide), xs_up_ne (by decide), xs_up_ne (by decide), xs_up_ne (by decide), xs_up_ne (by decide), xs_up_eq]
        have v2 : xs_rf (-9) = none := by decide
        rw [cv_w_eq, v, v2, ha.2.2.2.2.2.2.2.2.2.2.2.2.2.2]
        exact ⟨hR, fun j hj => by cases hj⟩
      · have hi2 : i < cv_cn nf nl 4 := show i < nl by omega
        rw [cv_w_ni e, ha.oldR hO hi2 hc.1 hc.2, xs_nO_ni (by rw [n8]; exact e) k8 k90]
        exact hV 4 2 i h1 hi2
    · rw [cv_cn_l hc4] at h2
      have e1 : xs_nO p1 Z (cv_cd c k) i = Z (cv_cd c k) i := xs_nO_ne (fun k' hk' => cv_cd4 (cv_tk_fd h1) hc4 hk') k8 k90
      rw [cv_w_ne hc4, ha.oldR hO h2 hc.1 hc.2, e1]
      exact hV c k i h1 h2
  · intro i hi
    obtain ⟨q1, q2, q4, j, q5, q6, q7⟩ := ha.oldL hL hi
    rw [xs_nO_ne (hlc 41 (by decide)) (by decide) (by decide), xs_nO_ne (hlc 42 (by decide)) (by decide) (by decide), xs_nO_ne (hlc 43 (by decide)) (by decide) (by decide)]
    exact ⟨q1, q2, (hL i hi).2.2.1, q4, j, q5, q6, by rw [cv_w_ne (by decide)]; exact q7⟩
def g_X9_lorry_new (p1 : Int32) (Z : xs_S) : Option (Int32 × xs_S) :=
  if Z 8 0 < 8 ∧ 0 ≤ Z 90 0 ∧ Z 90 0 < 1000000 then some (xs_nO p1 Z 8 0 - 1, xs_nO p1 Z) else none
set_option maxRecDepth 100000 in
theorem q_X9_lorry_new {w : Nat → Nat → Nat} {nf nl mb z1 n1 : Nat} {σ0 : bh_S} {lp : Nat → Nat} {np : Nat} (p1 : Int32) {σ : bh_S} {Z : xs_S} (h : cv_R w nf nl mb z1 n1 σ0 lp np σ Z) : sm (cv_Gw w mb z1 n1 σ0) (f_X9_lorry_new (w 10 0) (w 0 1) p1 σ) (g_X9_lorry_new p1 Z) := by
  unfold g_X9_lorry_new
  by_cases hg : Z 8 0 < 8 ∧ 0 ≤ Z 90 0 ∧ Z 90 0 < 1000000
  · rw [if_pos hg]
    obtain ⟨ea, hO, hV, hC, hA, hS, hL, hQ, hF⟩ := id h
    have e8 : Z 8 0 = Int32.ofNat nl := (hS.2.2 1 (by decide)).2.1.2
    have n8 : (Z 8 0).toNatClampNeg = nl := by rw [e8]; exact i32_natof (by have := hS.1; omega)
    have hnl : nl < 8 := by
      have q := hg.1
      rw [e8, i32_lt, i32_of (by have := hS.1; omega)] at q
      have q : (nl : Int) < 8 := q
      omega
    have h00 := hS.2.2 1 (by decide)
    have e4 : f_X3_init (bh_z σ) p1 (bh_new σ 4 8 0) = some ((), bh_setI (bh_setI (bh_setI (bh_setI (bh_setI (bh_setI (bh_setR (bh_setI (bh_new σ 4 8 0) 4 (bh_z σ) 1 0) 4 (bh_z σ) 2 none) 4 (bh_z σ) 3 (-9)) 4 (bh_z σ) 4 0) 4 (bh_z σ) 5 0) 4 (bh_z σ) 6 0) 4 (bh_z σ) 7 0) 4 (bh_z σ) 0 p1) := by
      simp only [f_X3_init, bh_wrI, bh_wrR, bh_wrZ, bh_K_setI, bh_K_setR, bh_K_new, if_true, Option.bind_some]
    generalize hb : bh_setI (bh_setI (bh_setI (bh_setI (bh_setI (bh_setI (bh_setR (bh_setI (bh_new σ 4 8 0) 4 (bh_z σ) 1 0) 4 (bh_z σ) 2 none) 4 (bh_z σ) 3 (-9)) 4 (bh_z σ) 4 0) 4 (bh_z σ) 5 0) 4 (bh_z σ) 6 0) 4 (bh_z σ) 7 0) 4 (bh_z σ) 0 p1 = σb at e4
    have hn : cv_nw σ σb 4 8 := by rw [← hb]; exact cv_nw.new.setI.setR.setI.setI.setI.setI.setI.setI
    have e9 : bh_ck σb (w 0 1) 0 = some () := by
      unfold bh_ck
      rw [if_pos (by rw [(hn.2.2.2.2.1 _ h00.1.2.1).1]; exact h00.1.1)]
    obtain ⟨σc, r1, h'⟩ := cv_newO (p1 := p1) h hnl hg.2 hn (by rw [← hb]; simp [bh_R_setI, bh_R_setR]) (fun k hk => by
      have hk14 : k < 8 := by
        rcases Nat.lt_or_ge k 8 with q | q
        · exact q
        · have : cv_iF 4 k = false := by unfold cv_iF; simp [cv_nk]; omega
          rw [this] at hk; cases hk
      rw [← hb]
      unfold xs_nO
      rw [n8]
      match k, hk14, hk with
      | 0, _, _ => simp [bh_I_setI, bh_I_setR, cv_cd, xs_up]
      | 1, _, _ => simp [bh_I_setI, bh_I_setR, cv_cd, xs_up]
      | 2, _, hk => exact absurd hk (by decide)
      | 3, _, _ => simp [bh_I_setI, bh_I_setR, cv_cd, xs_up]
      | 4, _, _ => simp [bh_I_setI, bh_I_setR, cv_cd, xs_up]
      | 5, _, _ => simp [bh_I_setI, bh_I_setR, cv_cd, xs_up]
      | 6, _, _ => simp [bh_I_setI, bh_I_setR, cv_cd, xs_up]
      | 7, _, _ => simp [bh_I_setI, bh_I_setR, cv_cd, xs_up])
    have w10 : cv_w w 4 nl (bh_z σ) 10 0 = w 10 0 := cv_w_ne (by decide)
    unfold f_X9_lorry_new
    simp only [bh_newO_eq, bh_bnd_some, e4, Option.bind_some, e9, r1]
    rw [← w10]
    refine cv_rdC (t := 0) (j := 1) h' cv_z10 rfl ?_
    refine sm_nn ?_
    refine cv_ck0 h' (by decide) ?_
    refine cv_size (d := 8) h' (by decide) rfl ?_
    exact sm_ret ⟨rfl, _, _, _, _, _, w10, h'⟩
  · rw [if_neg hg]
    exact sm_none
