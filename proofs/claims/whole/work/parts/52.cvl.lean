/-! ===== the lists: the first goes, one more comes ===== -/
theorem li_remove {σ : bh_S} {l e s : Nat} (h0 : bh_K σ l = 0) (h1 : bh_I σ 0 l 2 = Int32.ofNat s) (h2 : bh_R σ 0 l 1 = some e) (h3 : bh_K σ e = 16) (h4 : s ≤ bh_L σ e) (hs : 0 < s) (hs2 : s ≤ 100000) (hy : ∀ i, i < s → ∃ y, bh_R σ 16 e i = some y ∧ bh_K σ y < 12) : ∃ (v : Option Nat) (σ' : bh_S), f_Jx4a65c_remove_915e3 l 0 σ = some (v, σ') ∧ bh_K σ' = bh_K σ ∧ bh_L σ' = bh_L σ ∧ bh_z σ' = bh_z σ ∧ bh_n σ' = bh_n σ ∧ bh_e σ' = bh_e σ ∧ (∀ c a k, ¬ (c = 0 ∧ a = l) → bh_I σ' c a k = bh_I σ c a k) ∧ bh_I σ' 0 l 2 = Int32.ofNat (s - 1) ∧ (∀ c a k, ¬ (c = 16 ∧ a = e) → bh_R σ' c a k = bh_R σ c a k) ∧ ∀ i, i < s - 1 → bh_R σ' 16 e i = bh_R σ 16 e (i + 1) := by
  have z0 : ¬ (0 : Int32) < 0 := by decide
  have e0 : (0 : Int32).toNatClampNeg = 0 := rfl
  have hlt : (0 : Int32) < Int32.ofNat s := by
    rw [i32_lt, i32_of (by omega)]
    show (0 : Int) < _
    omega
  have e1 : f_J15_checkIndex_7cf53 0 (Int32.ofNat s) σ = some (0, σ) := by
    unfold f_J15_checkIndex_7cf53 f_J3_checkIndex_8e157
    rw [if_neg z0, if_pos hlt]
    rfl
  have hss : Int32.ofNat s - 1 = Int32.ofNat (s - 1) := by
    obtain ⟨m, rfl⟩ : ∃ m, s = m + 1 := ⟨s - 1, by omega⟩
    exact i32_ofsub1 (by omega)
  have hg : ∃ v, bh_ldR σ 16 e 0 = some v := by
    unfold bh_ldR
    have hq : ¬ ((0 : Int32) < 0 ∨ bh_L σ e ≤ (0 : Int32).toNatClampNeg) := by
      rintro (q | q)
      · exact z0 q
      · rw [e0] at q; omega
    rw [if_pos ⟨h3, hq⟩]
    exact ⟨_, rfl⟩
  obtain ⟨v, hv⟩ := hg
  have key : ∃ σ', f_Jx4a65c_fastRemove_b59b0 l e 0 σ = some ((), σ') ∧ bh_K σ' = bh_K σ ∧ bh_L σ' = bh_L σ ∧ bh_z σ' = bh_z σ ∧ bh_n σ' = bh_n σ ∧ bh_e σ' = bh_e σ ∧ (∀ c a k, ¬ (c = 0 ∧ a = l) → bh_I σ' c a k = bh_I σ c a k) ∧ bh_I σ' 0 l 2 = Int32.ofNat (s - 1) ∧ (∀ c a k, ¬ (c = 16 ∧ a = e) → bh_R σ' c a k = bh_R σ c a k) ∧ ∀ i, i < s - 1 → bh_R σ' 16 e i = bh_R σ 16 e (i + 1) := by
    unfold f_Jx4a65c_fastRemove_b59b0 bh_rdI
    rw [if_pos h0]
    show ∃ σ', ((bh_wrI σ 0 l 0 (bh_I σ 0 l 0 + 1)).bind _) = _ ∧ _
    unfold bh_wrI
    rw [if_pos h0]
    show ∃ σ', ((if bh_K σ l = 0 then some (if 0 = 0 ∧ l = l ∧ 2 = 0 then bh_I σ 0 l 0 + 1 else bh_I σ 0 l 2) else none).bind _) = _ ∧ _
    rw [if_pos h0, if_neg (fun z => absurd z.2.2 (by decide)), h1]
    show ∃ σ', (if Int32.ofNat s - 1 ≤ 0 then f_Jx4a65c_fastRemove_b59b0_b34 l e (Int32.ofNat s - 1) (bh_setI σ 0 l 0 (bh_I σ 0 l 0 + 1)) else _) = _ ∧ _
    rw [hss]
    have b34 : ∀ σ1 : bh_S, bh_K σ1 = bh_K σ → bh_L σ1 = bh_L σ → f_Jx4a65c_fastRemove_b59b0_b34 l e (Int32.ofNat (s - 1)) σ1 = some ((), bh_setR (bh_setI σ1 0 l 2 (Int32.ofNat (s - 1))) 16 e (s - 1) none) := by
      intro σ1 hK hL
      unfold f_Jx4a65c_fastRemove_b59b0_b34 bh_wrI
      rw [if_pos (by rw [hK]; exact h0)]
      show (bh_stR (bh_setI σ1 0 l 2 (Int32.ofNat (s - 1))) 16 e (Int32.ofNat (s - 1)) none).bind _ = _
      unfold bh_stR
      have hn : (Int32.ofNat (s - 1)).toNatClampNeg = s - 1 := i32_natof (by omega)
      have hq : bh_K (bh_setI σ1 0 l 2 (Int32.ofNat (s - 1))) e = 16 ∧ ¬ (Int32.ofNat (s - 1) < 0 ∨ bh_L (bh_setI σ1 0 l 2 (Int32.ofNat (s - 1))) e ≤ (Int32.ofNat (s - 1)).toNatClampNeg) ∧ bh_mayLie (bh_setI σ1 0 l 2 (Int32.ofNat (s - 1))) 16 none = true := by
        refine ⟨by show bh_K σ1 e = 16; rw [hK]; exact h3, ?_, rfl⟩
        rintro (q | q)
        · exact i32_nneg (by omega) q
        · rw [hn] at q
          have : bh_L σ1 e ≤ s - 1 := q
          rw [hL] at this
          omega
      rw [if_pos hq, hn]
      rfl
    by_cases hz : Int32.ofNat (s - 1) ≤ 0
    · rw [if_pos hz, b34 (bh_setI σ 0 l 0 (bh_I σ 0 l 0 + 1)) rfl rfl]
      refine ⟨_, rfl, rfl, rfl, rfl, rfl, rfl, ?_, ?_, ?_, ?_⟩
      · intro c a k hn
        show (if c = 0 ∧ a = l ∧ k = 2 then Int32.ofNat (s - 1) else if c = 0 ∧ a = l ∧ k = 0 then bh_I σ 0 l 0 + 1 else bh_I σ c a k) = _
        rw [if_neg (fun z => hn ⟨z.1, z.2.1⟩), if_neg (fun z => hn ⟨z.1, z.2.1⟩)]
      · show (if 0 = 0 ∧ l = l ∧ 2 = 2 then Int32.ofNat (s - 1) else _) = _
        rw [if_pos ⟨rfl, rfl, rfl⟩]
      · intro c a k hn
        show (if c = 16 ∧ a = e ∧ k = s - 1 then none else bh_R σ c a k) = _
        rw [if_neg (fun z => hn ⟨z.1, z.2.1⟩)]
      · intro i hi
        rw [i32_le, i32_of (by omega)] at hz
        have : ((s - 1 : Nat) : Int) ≤ 0 := hz
        omega
    · rw [if_neg hz]
      have e01 : (0 : Int32) + 1 = 1 := by decide
      have e02 : Int32.ofNat (s - 1) - 0 = Int32.ofNat (s - 1) := by
        have : (0 : Int32).toInt = 0 := by decide
        apply i32_ext
        rw [i32_sub]
        · rw [this]; omega
        · rw [this, i32_of (by omega)]; omega
        · rw [this, i32_of (by omega)]; omega
      rw [e01, e02]
      have hn : (Int32.ofNat (s - 1)).toNatClampNeg = s - 1 := i32_natof (by omega)
      have n1 : (1 : Int32).toNatClampNeg = 1 := rfl
      have ha : bh_acp (bh_setI σ 0 l 0 (bh_I σ 0 l 0 + 1)) e 1 e 0 (Int32.ofNat (s - 1)) = some (bh_setRow (bh_setI σ 0 l 0 (bh_I σ 0 l 0 + 1)) 16 e (va_cpy (bh_R σ 16 e) (bh_R σ 16 e) 1 0 (s - 1))) := by
        unfold bh_acp
        rw [if_pos, hn, n1, e0]
        · rfl
        · refine ⟨⟨h3, h3⟩, ⟨by decide, by decide, i32_nneg (by omega)⟩, ⟨?_, ?_, ?_, ?_⟩, ?_⟩
          · rw [hn, n1]; show 1 + (s - 1) ≤ bh_L σ e; omega
          · rw [hn, e0]; show 0 + (s - 1) ≤ bh_L σ e; omega
          · show 0 < bh_L σ e; omega
          · show 0 < bh_L σ e; omega
          · rw [hn, n1, List.all_eq_true]
            intro i hi
            obtain ⟨y, hy1, hy2⟩ := hy (1 + i) (by have := List.mem_range.mp hi; omega)
            show (match bh_R σ 16 e (1 + i) with | none => true | some y => decide (bh_K σ y < 12)) = true
            rw [hy1]
            exact decide_eq_true hy2
      rw [ha]
      show ∃ σ', (f_Jx4a65c_fastRemove_b59b0_b34 l e (Int32.ofNat (s - 1)) (bh_setRow (bh_setI σ 0 l 0 (bh_I σ 0 l 0 + 1)) 16 e (va_cpy (bh_R σ 16 e) (bh_R σ 16 e) 1 0 (s - 1)))) = _ ∧ _
      rw [b34 (bh_setRow (bh_setI σ 0 l 0 (bh_I σ 0 l 0 + 1)) 16 e (va_cpy (bh_R σ 16 e) (bh_R σ 16 e) 1 0 (s - 1))) rfl rfl]
      refine ⟨_, rfl, rfl, rfl, rfl, rfl, rfl, ?_, ?_, ?_, ?_⟩
      · intro c a k hn
        show (if c = 0 ∧ a = l ∧ k = 2 then Int32.ofNat (s - 1) else if c = 0 ∧ a = l ∧ k = 0 then bh_I σ 0 l 0 + 1 else bh_I σ c a k) = _
        rw [if_neg (fun z => hn ⟨z.1, z.2.1⟩), if_neg (fun z => hn ⟨z.1, z.2.1⟩)]
      · show (if 0 = 0 ∧ l = l ∧ 2 = 2 then Int32.ofNat (s - 1) else _) = _
        rw [if_pos ⟨rfl, rfl, rfl⟩]
      · intro c a k hn
        show (if c = 16 ∧ a = e ∧ k = s - 1 then none else if c = 16 ∧ a = e then _ else bh_R σ c a k) = _
        rw [if_neg (fun z => hn ⟨z.1, z.2.1⟩), if_neg hn]
      · intro i hi
        show (if 16 = 16 ∧ e = e ∧ i = s - 1 then none else if 16 = 16 ∧ e = e then (if 0 ≤ i ∧ i < 0 + (s - 1) then bh_R σ 16 e (1 + (i - 0)) else bh_R σ 16 e i) else bh_R σ 16 e i) = _
        rw [if_neg (fun z => by omega), if_pos ⟨rfl, rfl⟩, if_pos ⟨by omega, by omega⟩]
        congr 1
        omega
  obtain ⟨σ', k1, k2⟩ := key
  refine ⟨v, σ', ?_, k2⟩
  unfold f_Jx4a65c_remove_915e3 bh_rdI
  rw [if_pos h0, h1]
  show bh_bnd (f_J15_checkIndex_7cf53 0 (Int32.ofNat s) σ) _ = _
  rw [e1]
  show (bh_rdR σ 0 l 1).bind _ = _
  unfold bh_rdR
  rw [if_pos h0, h2]
  show (bh_ldR σ 16 e 0).bind _ = _
  rw [hv]
  show (bh_ck σ l 0).bind _ = _
  unfold bh_ck
  rw [if_pos h0]
  show bh_bnd (f_Jx4a65c_fastRemove_b59b0 l e 0 σ) _ = _
  rw [k1]
  rfl
section CVL
variable {α β : Type} {G : α → bh_S → β → xs_S → Prop} {go : Option (β × xs_S)} {w : Nat → Nat → Nat} {nf nl : Nat} {mb z1 n1 : Nat} {σ0 : bh_S} {lp : Nat → Nat} {np : Nat} {σ : bh_S} {Z : xs_S} {c i k d t j n : Nat}
theorem cv_rm {f : Option Nat → bh_S → Option (α × bh_S)} {g : xs_S → Option (β × xs_S)} (h : cv_R w nf nl mb z1 n1 σ0 lp np σ Z) (kk : ∀ (v : Option Nat) (lp : Nat → Nat) (np : Nat) (σ1 : bh_S) (Z1 : xs_S), cv_R w nf nl mb z1 n1 σ0 lp np σ1 Z1 → sm G (f v σ1) (g Z1)) : sm G (bh_bnd (f_Jx4a65c_remove_915e3 (w 0 2) 0 σ) f) ((xs_rm Z).bind g) := by
  obtain ⟨ea, hO, hV, hC, hA, hS, hL, hQ, hF⟩ := h
  unfold xs_rm
  by_cases hp : 0 < Z 44 0
  · rw [if_pos hp]
    obtain ⟨g1, g2, g3, g4, g5, g6, g7, g8, g9⟩ := hS.2.2 2 (by decide)
    have hnp : np ≤ 3100 := hS.1.2.2
    have e44 : Z 44 0 = Int32.ofNat np := g2.2
    have hnp0 : 0 < np := by
      rw [e44, i32_lt, i32_of (by omega)] at hp
      have : (0 : Int) < np := hp
      omega
    have e45 : xs_sh Z 44 0 = Z 44 0 - 1 := if_pos ⟨rfl, rfl⟩
    have n44 : (Z 44 0).toNatClampNeg = np := by rw [e44]; exact i32_natof (by omega)
    obtain ⟨v, σ', r1, rK, rL, rz, rn, re, rI, rs, rR, rr⟩ := li_remove (s := np) g1.1 (g2.1.trans g2.2) g3 g4 g6 hnp0 (by omega) (fun i hi => ⟨lp i, g7 i hi, by rw [(hL i hi).1]; decide⟩)
    rw [r1]
    refine kk v (fun i => lp (i + 1)) (np - 1) σ' (xs_sh Z) ⟨ea, ?_, ?_, ?_, ?_, ?_, ?_, ?_, ?_⟩
    · intro c' i' hi'
      obtain ⟨q1, q2, q3, q4⟩ := hO c' i' hi'
      rw [rK, rz]
      refine ⟨q1, q2, q3, fun k' hk' => ?_⟩
      obtain ⟨n0, -⟩ := cv_iF_ne hk'
      obtain ⟨-, p2, p3, p4, p5, -⟩ := cv_cd_ne (cv_iF_fd hk')
      have p44 : cv_cd c' k' ≠ 44 := fun e => p2 2 (by decide) e.symm
      rw [rI _ _ _ (fun z => n0 z.1), q4 k' hk']
      unfold xs_sh
      rw [if_neg (fun z => p44 z.1), if_neg (fun z => by rcases z.1 with e | e | e <;> omega)]
    · intro c' k' i' h1 h2
      obtain ⟨-, p2, p3, p4, p5, -⟩ := cv_cd_ne (cv_tk_fd h1)
      have p44 : cv_cd c' k' ≠ 44 := fun e => p2 2 (by decide) e.symm
      have e1 : xs_sh Z (cv_cd c' k') i' = Z (cv_cd c' k') i' := by
        unfold xs_sh
        rw [if_neg (fun z => p44 z.1), if_neg (fun z => by rcases z.1 with e | e | e <;> omega)]
      have n16 : c' ≠ 16 := by rcases cv_tk_ne h1 with ⟨rfl, rfl⟩ | ⟨rfl, rfl⟩ | ⟨rfl, rfl⟩ <;> decide
      rw [e1, rR _ _ _ (fun z => n16 z.1)]
      exact hV c' k' i' h1 h2
    · obtain ⟨q1, q2, q3, q4⟩ := hC
      unfold cv_C
      rw [rK, rL, rz]
      refine ⟨fun c' k' t' j' h' => ?_, ⟨q2.1, q2.2.1, q2.2.2.1, fun i' hi' => ?_⟩, ⟨q3.1, q3.2.1, q3.2.2.1, fun i' hi' => ?_⟩, ⟨q4.1, q4.2.1, q4.2.2.1, fun i' hi' => ?_⟩⟩
      · rw [rR _ _ _ (fun z => by obtain ⟨rfl, -⟩ := z; cases h')]
        exact q1 c' k' t' j' h'
      · rw [rR _ _ _ (fun z => absurd z.1 (by decide))]
        exact q2.2.2.2 i' hi'
      · rw [rR _ _ _ (fun z => absurd z.1 (by decide))]
        exact q3.2.2.2 i' hi'
      · rw [rR _ _ _ (fun z => absurd z.1 (by decide))]
        exact q4.2.2.2 i' hi'
    · unfold cv_A
      rw [rK, rL, rz]
      refine ⟨hA.1, fun j hj => ?_⟩
      obtain ⟨q1, q2, q3, q4, q5⟩ := hA.2 j hj
      refine ⟨q1, q2, q3, q4, fun i' => ?_⟩
      obtain ⟨p2, p3, p4, p5, -⟩ := cv_ac_ne j hj
      have p44 : cv_ac j ≠ 44 := fun e => p2 2 (by decide) e.symm
      rw [rI _ _ _ (fun z => absurd z.1 (by decide)), q5]
      unfold xs_sh
      rw [if_neg (fun z => p44 z.1), if_neg (fun z => by rcases z.1 with e | e | e <;> omega)]
    · unfold cv_S
      rw [rK, rL, rz, re]
      refine ⟨⟨hS.1.1, hS.1.2.1, by omega⟩, hS.2.1, fun j hj => ?_⟩
      obtain ⟨q1, q2, q3, q4, q5, q6, q7, q8, q9⟩ := hS.2.2 j hj
      have hR0 : bh_R σ' 0 (w 0 j) 1 = some (ea j) := by rw [rR _ _ _ (fun z => absurd z.1 (by decide))]; exact q3
      by_cases hj2 : j = 2
      · subst hj2
        refine ⟨q1, ⟨?_, ?_⟩, hR0, q4, q5, ?_, fun i' hi' => ?_, q8, q9⟩
        · rw [rs]
          show _ = xs_sh Z 44 0
          rw [e45, e44]
          obtain ⟨m, rfl⟩ : ∃ m, np = m + 1 := ⟨np - 1, by omega⟩
          exact (i32_ofsub1 (by omega)).symm
        · show xs_sh Z 44 0 = Int32.ofNat (np - 1)
          rw [e45, e44]
          obtain ⟨m, rfl⟩ : ∃ m, np = m + 1 := ⟨np - 1, by omega⟩
          exact i32_ofsub1 (by omega)
        · show np - 1 ≤ _
          have : np ≤ bh_L σ (ea 2) := q6
          omega
        · have hi2 : i' < np - 1 := hi'
          rw [rr i' hi2]
          exact q7 (i' + 1) (show i' + 1 < np by omega)
      · have hnn : cv_n nf nl (np - 1) j = cv_n nf nl np j ∧ cv_el w (fun i => lp (i + 1)) j = cv_el w lp j ∧ cv_lc j ≠ 44 ∧ cv_lc j ≠ 41 ∧ cv_lc j ≠ 42 ∧ cv_lc j ≠ 43 := by
          match j, hj, hj2 with
          | 0, _, _ => exact ⟨rfl, rfl, by decide, by decide, by decide, by decide⟩
          | 1, _, _ => exact ⟨rfl, rfl, by decide, by decide, by decide, by decide⟩
          | j + 2, hj, hj2 => omega
        obtain ⟨e1, e2, e3, e4, e5, e6⟩ := hnn
        have e7 : xs_sh Z (cv_lc j) 0 = Z (cv_lc j) 0 := by
          unfold xs_sh
          rw [if_neg (fun z => e3 z.1), if_neg (fun z => by rcases z.1 with e | e | e <;> omega)]
        have hne : w 0 j ≠ w 0 2 := fun e => hj2 ((hS.2.2 2 (by decide)).1.2.2 j hj e)
        have hee : ea j ≠ ea 2 ∨ bh_L σ (ea j) = 0 := by
          by_cases hl : bh_L σ (ea 2) = 0
          · have : np ≤ bh_L σ (ea 2) := g6
            omega
          · exact Or.inl (fun e => hj2 (g9 hl j hj e))
        rw [e1, e2, e7]
        refine ⟨q1, ⟨?_, q2.2⟩, hR0, q4, q5, q6, fun i' hi' => ?_, q8, q9⟩
        · rw [rI _ _ _ (fun z => hne z.2)]
          exact q2.1
        · rcases hee with e | e
          · rw [rR _ _ _ (fun z => e z.2)]
            exact q7 i' hi'
          · omega
    · intro i' hi'
      have hi2 : i' + 1 < np := by omega
      obtain ⟨q1, q2, q3, ⟨q4, q4'⟩, j', q5, q6, q7⟩ := hL (i' + 1) hi2
      rw [rK, rz]
      have sh : ∀ k, k = 41 ∨ k = 42 ∨ k = 43 → xs_sh Z k i' = Z k (i' + 1) := by
        intro k hk
        unfold xs_sh
        rw [if_neg (fun z => by omega), if_pos ⟨hk, by rw [n44]; exact hi2⟩]
      rw [sh 41 (Or.inl rfl), sh 42 (Or.inr (Or.inl rfl)), sh 43 (Or.inr (Or.inr rfl)), rI _ _ _ (fun z => absurd z.1 (by decide)), rI _ _ _ (fun z => absurd z.1 (by decide)), rR _ _ _ (fun z => absurd z.1 (by decide))]
      exact ⟨q1, q2, fun j hj e => by have := q3 (j + 1) (by omega) e; omega, ⟨q4, q4'⟩, j', q5, q6, q7⟩
    · unfold cv_Q
      rw [rL, rz, rn]
      have e1 : xs_sh Z 90 0 = Z 90 0 := rfl
      rw [e1]
      exact hQ
    · obtain ⟨q1, q2, q3, q4, q5⟩ := hF
      unfold cv_F
      rw [rK, rL, rz, re]
      refine ⟨q1, q2, q3, fun c a k hc => ?_, fun a k => ?_⟩
      · rw [rI _ _ _ (fun z => by rcases hc with e | e | e <;> omega)]
        exact q4 c a k hc
      · rw [rR _ _ _ (fun z => absurd z.1 (by decide))]
        exact q5 a k
  · rw [if_neg hp]
    exact sm_none
end CVL
