theorem li_gr0 : (List.range 5001).all (fun C => Int32.ofNat C + bh_max (Int32.ofNat (C + 1) - Int32.ofNat C) (Int32.ofNat C >>> (1 &&& 31)) == Int32.ofNat (C + max 1 (C / 2))) = true := by decide +kernel
theorem li_gr {C : Nat} (h : C ≤ 5000) : Int32.ofNat C + bh_max (Int32.ofNat (C + 1) - Int32.ofNat C) (Int32.ofNat C >>> (1 &&& 31)) = Int32.ofNat (C + max 1 (C / 2)) := by
  have := List.all_eq_true.mp li_gr0 C (List.mem_range.mpr (by omega))
  exact eq_of_beq this
/-- what a list's add leaves behind -/
def li_A (σ σ' : bh_S) (l e e' a s C C' : Nat) : Prop :=
  (e' = e ∧ C' = C ∧ s < C ∧ bh_z σ' = bh_z σ ∧ bh_n σ' = bh_n σ ∨ e' = bh_z σ ∧ s = C ∧ C' ≤ C + C / 2 + 10 ∧ C < C' ∧ 4 * C ≤ 3 * C' ∧ bh_z σ' = bh_z σ + 1 ∧ bh_n σ' = bh_n σ + C') ∧
  (∀ x, x < bh_z σ → bh_K σ' x = bh_K σ x ∧ bh_L σ' x = bh_L σ x) ∧ bh_K σ' e' = 16 ∧ bh_L σ' e' = C' ∧ bh_e σ' = bh_e σ ∧
  (∀ c x k, c ≠ 16 → ¬ (c = 0 ∧ x = l) → bh_I σ' c x k = bh_I σ c x k) ∧ bh_I σ' 0 l 2 = Int32.ofNat (s + 1) ∧
  (∀ c x k, c ≠ 16 → ¬ (c = 0 ∧ x = l ∧ k = 1) → bh_R σ' c x k = bh_R σ c x k) ∧ bh_R σ' 0 l 1 = some e' ∧ (∀ x k, x < bh_z σ → x ≠ e' → bh_R σ' 16 x k = bh_R σ 16 x k) ∧ (∀ i, i < s → bh_R σ' 16 e' i = bh_R σ 16 e i) ∧ bh_R σ' 16 e' s = some a
theorem li_grow {σ : bh_S} {l e s C : Nat} (h0 : bh_K σ l = 0) (h1 : bh_I σ 0 l 2 = Int32.ofNat s) (h2 : bh_R σ 0 l 1 = some e) (h3 : bh_K σ e = 16) (hC : bh_L σ e = C) (h4 : s = C) (hC2 : C ≤ 5000) (hz : C = 0 → e = bh_e σ) (hl : l < bh_z σ) (he : e < bh_z σ) (hy : ∀ i, i < s → ∃ y, bh_R σ 16 e i = some y ∧ bh_K σ y < 12 ∧ y < bh_z σ) : ∃ (σ' : bh_S) (C' : Nat), f_Jx4a65c_grow_d5877 l σ = some (some (bh_z σ), σ') ∧ (C' ≤ C + C / 2 + 10 ∧ C < C' ∧ 4 * C ≤ 3 * C' ∧ bh_z σ' = bh_z σ + 1 ∧ bh_n σ' = bh_n σ + C') ∧ (∀ x, x < bh_z σ → bh_K σ' x = bh_K σ x ∧ bh_L σ' x = bh_L σ x) ∧ bh_K σ' (bh_z σ) = 16 ∧ bh_L σ' (bh_z σ) = C' ∧ bh_e σ' = bh_e σ ∧ (∀ c x k, c ≠ 16 → bh_I σ' c x k = bh_I σ c x k) ∧ (∀ c x k, c ≠ 16 → ¬ (c = 0 ∧ x = l ∧ k = 1) → bh_R σ' c x k = bh_R σ c x k) ∧ bh_R σ' 0 l 1 = some (bh_z σ) ∧ (∀ x k, x < bh_z σ → bh_R σ' 16 x k = bh_R σ 16 x k) ∧ (∀ i, i < s → bh_R σ' 16 (bh_z σ) i = bh_R σ 16 e i) := by
  subst h4
  have hadd : Int32.ofNat s + 1 = Int32.ofNat (s + 1) := i32_ofadd1 (by omega)
  unfold f_Jx4a65c_grow_d5877 bh_rdI
  rw [if_pos h0, h1]
  show ∃ σ' C', ((bh_ck σ l 0).bind _) = _ ∧ _
  unfold bh_ck
  rw [if_pos h0]
  show ∃ σ' C', bh_bnd (f_Jx4a65c_grow_92f84 l (Int32.ofNat s + 1) σ) _ = _ ∧ _
  rw [hadd]
  have hlz : l ≠ bh_z σ := by omega
  have hez : e ≠ bh_z σ := by omega
  by_cases hs : s = 0
  · subst hs
    have ee := hz rfl
    have hg : f_Jx4a65c_grow_92f84 l (Int32.ofNat (0 + 1)) σ = some (some (bh_z σ), bh_setR (bh_new σ 16 10 10) 0 l 1 (some (bh_z σ))) := by
      unfold f_Jx4a65c_grow_92f84 bh_rdR
      rw [if_pos h0, h2]
      show ((bh_len σ 16 e).bind _) = _
      unfold bh_len
      rw [if_pos h3, hC]
      simp only [Option.bind_some]
      rw [if_neg (show ¬ (0 : Int32) < Int32.ofNat 0 by decide), if_pos (show some e = some (bh_e σ) by rw [ee])]
      show bh_bnd (some (bh_z σ, bh_new σ 16 10 10)) _ = _
      show ((bh_wrR (bh_new σ 16 10 10) 0 l 1 (some (bh_z σ))).bind _) = _
      unfold bh_wrR
      rw [if_pos (by show (if l = bh_z σ then 16 else bh_K σ l) = 0; rw [if_neg hlz]; exact h0)]
      rfl
    rw [hg]
    refine ⟨_, 10, rfl, ⟨by omega, by omega, by omega, rfl, rfl⟩, ?_, ?_, ?_, rfl, ?_, ?_, ?_, ?_, ?_⟩
    · intro x hx
      have hxz : x ≠ bh_z σ := by omega
      exact ⟨if_neg hxz, if_neg hxz⟩
    · exact if_pos rfl
    · exact if_pos rfl
    · intro c x k hc
      exact if_neg (fun z => hc z.1)
    · intro c x k hc hn
      show (if c = 0 ∧ x = l ∧ k = 1 then some (bh_z σ) else if c = 16 ∧ x = bh_z σ then none else bh_R σ c x k) = _
      rw [if_neg hn, if_neg (fun z => hc z.1)]
    · show (if 0 = 0 ∧ l = l ∧ 1 = 1 then some (bh_z σ) else _) = _
      rw [if_pos ⟨rfl, rfl, rfl⟩]
    · intro x k hx
      show (if 16 = 0 ∧ x = l ∧ k = 1 then some (bh_z σ) else if 16 = 16 ∧ x = bh_z σ then none else bh_R σ 16 x k) = _
      rw [if_neg (fun z => absurd z.1 (by decide)), if_neg (fun z => by omega)]
    · intro i hi
      omega
  · have hgr := li_gr hC2
    have hCp : s + max 1 (s / 2) ≤ s + s / 2 + 1 := by omega
    generalize hD : s + max 1 (s / 2) = D at hgr hCp
    have hD2 : s < D ∧ 4 * s ≤ 3 * D ∧ D ≤ 8000 := by omega
    have hnl : f_J8_newLength_cabcc (Int32.ofNat s) (Int32.ofNat (s + 1) - Int32.ofNat s) (Int32.ofNat s >>> (1 &&& 31)) σ = some (Int32.ofNat D, σ) := by
      unfold f_J8_newLength_cabcc
      rw [hgr, if_neg, if_neg]
      · rw [i32_lt, i32_of (by omega)]
        show ¬ (2147483639 : Int) < _
        omega
      · rw [i32_le, i32_of (by omega)]
        show ¬ (_ : Int) ≤ 0
        omega
    have hDn : (Int32.ofNat D).toNatClampNeg = D := i32_natof (by omega)
    have hsn : (Int32.ofNat s).toNatClampNeg = s := i32_natof (by omega)
    have hmin : bh_min (Int32.ofNat s) (Int32.ofNat D) = Int32.ofNat s := by
      unfold bh_min
      rw [if_neg]
      rw [i32_oflt (by omega) (by omega)]
      omega
    have e00 : (0 : Int32).toNatClampNeg = 0 := rfl
    have hcp : f_J7_copyOf_1904c e (Int32.ofNat D) σ = some (some (bh_z σ), bh_setRow (bh_new σ 16 D D) 16 (bh_z σ) (va_cpy (bh_R (bh_new σ 16 D D) 16 e) (bh_R (bh_new σ 16 D D) 16 (bh_z σ)) 0 0 s)) := by
      unfold f_J7_copyOf_1904c bh_ck
      rw [if_pos h3]
      show bh_bnd (f_J7_copyOf_6403c e (Int32.ofNat D) σ) _ = _
      have hcc : f_J7_copyOf_6403c e (Int32.ofNat D) σ = some (some (bh_z σ), bh_setRow (bh_new σ 16 D D) 16 (bh_z σ) (va_cpy (bh_R (bh_new σ 16 D D) 16 e) (bh_R (bh_new σ 16 D D) 16 (bh_z σ)) 0 0 s)) := by
        unfold f_J7_copyOf_6403c bh_newA
        rw [if_pos ⟨i32_nneg (by omega), by rw [hDn]; omega⟩, hDn]
        show ((bh_len (bh_new σ 16 D D) 16 e).bind _) = _
        unfold bh_len
        have k1 : bh_K (bh_new σ 16 D D) e = 16 := (if_neg hez).trans h3
        have l1 : bh_L (bh_new σ 16 D D) e = s := (if_neg hez).trans hC
        have k2 : bh_K (bh_new σ 16 D D) (bh_z σ) = 16 := if_pos rfl
        have l2 : bh_L (bh_new σ 16 D D) (bh_z σ) = D := if_pos rfl
        rw [if_pos k1, l1]
        show ((bh_acp (bh_new σ 16 D D) e 0 (bh_z σ) 0 (bh_min (Int32.ofNat s) (Int32.ofNat D))).bind _) = _
        rw [hmin]
        unfold bh_acp
        rw [if_pos, hsn, e00]
        · rfl
        · refine ⟨⟨k1, k2⟩, ⟨by decide, by decide, i32_nneg (by omega)⟩, ⟨?_, ?_, ?_, ?_⟩, ?_⟩
          · rw [hsn, e00, l1]; omega
          · rw [hsn, e00, l2]; omega
          · rw [l2]; omega
          · rw [l1]; omega
          · rw [hsn, e00, List.all_eq_true]
            intro i hi
            obtain ⟨y, hy1, hy2, hy3⟩ := hy i (List.mem_range.mp hi)
            have er : bh_R (bh_new σ 16 D D) 16 e (0 + i) = some y := by
              show (if 16 = 16 ∧ e = bh_z σ then none else bh_R σ 16 e (0 + i)) = _
              rw [if_neg (fun z => hez z.2), Nat.zero_add]
              exact hy1
            rw [er]
            show decide ((if y = bh_z σ then 16 else bh_K σ y) < 12) = true
            rw [if_neg (by omega)]
            exact decide_eq_true hy2
      rw [hcc]
      rfl
    have hg : f_Jx4a65c_grow_92f84 l (Int32.ofNat (s + 1)) σ = some (some (bh_z σ), bh_setR (bh_setRow (bh_new σ 16 D D) 16 (bh_z σ) (va_cpy (bh_R (bh_new σ 16 D D) 16 e) (bh_R (bh_new σ 16 D D) 16 (bh_z σ)) 0 0 s)) 0 l 1 (some (bh_z σ))) := by
      unfold f_Jx4a65c_grow_92f84 bh_rdR
      rw [if_pos h0, h2]
      show ((bh_len σ 16 e).bind _) = _
      unfold bh_len
      rw [if_pos h3, hC]
      show (if (0 : Int32) < Int32.ofNat s then f_Jx4a65c_grow_92f84_b20 l (Int32.ofNat (s + 1)) (Int32.ofNat s) σ else _) = _
      rw [if_pos (by rw [i32_lt, i32_of (by omega)]; show (0 : Int) < _; omega)]
      unfold f_Jx4a65c_grow_92f84_b20
      rw [hnl]
      show ((bh_rdR σ 0 l 1).bind _) = _
      unfold bh_rdR
      rw [if_pos h0, h2]
      show bh_bnd (f_J7_copyOf_1904c e (Int32.ofNat D) σ) _ = _
      rw [hcp]
      show ((bh_wrR (bh_setRow (bh_new σ 16 D D) 16 (bh_z σ) (va_cpy (bh_R (bh_new σ 16 D D) 16 e) (bh_R (bh_new σ 16 D D) 16 (bh_z σ)) 0 0 s)) 0 l 1 (some (bh_z σ))).bind _) = _
      unfold bh_wrR
      rw [if_pos (by show (if l = bh_z σ then 16 else bh_K σ l) = 0; rw [if_neg hlz]; exact h0)]
      rfl
    rw [hg]
    refine ⟨_, D, rfl, ⟨by omega, by omega, by omega, rfl, rfl⟩, ?_, ?_, ?_, rfl, ?_, ?_, ?_, ?_, ?_⟩
    · intro x hx
      have hxz : x ≠ bh_z σ := by omega
      exact ⟨if_neg hxz, if_neg hxz⟩
    · exact if_pos rfl
    · exact if_pos rfl
    · intro c x k hc
      exact if_neg (fun z => hc z.1)
    · intro c x k hc hn
      show (if c = 0 ∧ x = l ∧ k = 1 then some (bh_z σ) else if c = 16 ∧ x = bh_z σ then _ else if c = 16 ∧ x = bh_z σ then none else bh_R σ c x k) = _
      rw [if_neg hn, if_neg (fun z => hc z.1), if_neg (fun z => hc z.1)]
    · show (if 0 = 0 ∧ l = l ∧ 1 = 1 then some (bh_z σ) else _) = _
      rw [if_pos ⟨rfl, rfl, rfl⟩]
    · intro x k hx
      show (if 16 = 0 ∧ x = l ∧ k = 1 then some (bh_z σ) else if 16 = 16 ∧ x = bh_z σ then _ else if 16 = 16 ∧ x = bh_z σ then none else bh_R σ 16 x k) = _
      rw [if_neg (fun z => absurd z.1 (by decide)), if_neg (fun z => by omega), if_neg (fun z => by omega)]
    · intro i hi
      show (if 16 = 0 ∧ bh_z σ = l ∧ i = 1 then some (bh_z σ) else if 16 = 16 ∧ bh_z σ = bh_z σ then (if 0 ≤ i ∧ i < 0 + s then (if 16 = 16 ∧ e = bh_z σ then none else bh_R σ 16 e (0 + (i - 0))) else _) else _) = _
      rw [if_neg (fun z => absurd z.1 (by decide)), if_pos ⟨rfl, rfl⟩, if_pos ⟨by omega, by omega⟩, if_neg (fun z => hez z.2)]
      congr 1
      omega
theorem li_add {σ : bh_S} {l e a s C : Nat} (h0 : bh_K σ l = 0) (h1 : bh_I σ 0 l 2 = Int32.ofNat s) (h2 : bh_R σ 0 l 1 = some e) (h3 : bh_K σ e = 16) (hC : bh_L σ e = C) (h4 : s ≤ C) (hC2 : C ≤ 5000) (hz : C = 0 → e = bh_e σ) (hl : l < bh_z σ) (he : e < bh_z σ) (hy : ∀ i, i < s → ∃ y, bh_R σ 16 e i = some y ∧ bh_K σ y < 12 ∧ y < bh_z σ) (ha : bh_K σ a < 12) (ha2 : a < bh_z σ) : ∃ (σ' : bh_S) (e' C' : Nat), f_Jx4a65c_add_9ea2d l a σ = some (1, σ') ∧ li_A σ σ' l e e' a s C C' := by
  have hadd : Int32.ofNat s + 1 = Int32.ofNat (s + 1) := i32_ofadd1 (by omega)
  have hsn : (Int32.ofNat s).toNatClampNeg = s := i32_natof (by omega)
  have b11 : ∀ (σ1 : bh_S) (e1 : Nat), bh_K σ1 l = 0 → bh_K σ1 e1 = 16 → s < bh_L σ1 e1 → bh_K σ1 a < 12 → f_Jx4a65c_add_72be8_b11 l a (some e1) (Int32.ofNat s) σ1 = some ((), bh_setI (bh_setR σ1 16 e1 s (some a)) 0 l 2 (Int32.ofNat (s + 1))) := by
    intro σ1 e1 q0 q1 q2 q3
    unfold f_Jx4a65c_add_72be8_b11
    show ((bh_stR σ1 16 e1 (Int32.ofNat s) (some a)).bind _) = _
    unfold bh_stR
    rw [if_pos, hsn]
    · show ((bh_wrI (bh_setR σ1 16 e1 s (some a)) 0 l 2 (Int32.ofNat s + 1)).bind _) = _
      unfold bh_wrI
      rw [if_pos (show bh_K (bh_setR σ1 16 e1 s (some a)) l = 0 from q0), hadd]
      rfl
    · refine ⟨q1, ?_, ?_⟩
      · rintro (q | q)
        · exact i32_nneg (by omega) q
        · rw [hsn] at q; omega
      · show ((16 == 14 && bh_K σ1 a == 1) || (16 == 15 && bh_K σ1 a == 2) || (16 == 16 && decide (bh_K σ1 a < 12))) = true
        rw [decide_eq_true q3]
        simp
  unfold f_Jx4a65c_add_9ea2d bh_rdI
  rw [if_pos h0]
  show ∃ σ' e' C', ((bh_wrI σ 0 l 0 (bh_I σ 0 l 0 + 1)).bind _) = _ ∧ _
  unfold bh_wrI
  rw [if_pos h0]
  show ∃ σ' e' C', ((bh_rdR (bh_setI σ 0 l 0 (bh_I σ 0 l 0 + 1)) 0 l 1).bind _) = _ ∧ _
  unfold bh_rdR
  rw [if_pos (show bh_K (bh_setI σ 0 l 0 (bh_I σ 0 l 0 + 1)) l = 0 from h0)]
  show ∃ σ' e' C', ((if bh_K σ l = 0 then some (if 0 = 0 ∧ l = l ∧ 2 = 0 then bh_I σ 0 l 0 + 1 else bh_I σ 0 l 2) else none).bind _) = _ ∧ _
  rw [if_pos h0, if_neg (fun z => absurd z.2.2 (by decide)), h1, show bh_R (bh_setI σ 0 l 0 (bh_I σ 0 l 0 + 1)) 0 l 1 = some e from h2]
  show ∃ σ' e' C', ((bh_ck (bh_setI σ 0 l 0 (bh_I σ 0 l 0 + 1)) l 0).bind _) = _ ∧ _
  unfold bh_ck
  rw [if_pos (show bh_K (bh_setI σ 0 l 0 (bh_I σ 0 l 0 + 1)) l = 0 from h0)]
  show ∃ σ' e' C', bh_bnd (f_Jx4a65c_add_72be8 l a e (Int32.ofNat s) (bh_setI σ 0 l 0 (bh_I σ 0 l 0 + 1))) _ = _ ∧ _
  generalize hσ3 : bh_setI σ 0 l 0 (bh_I σ 0 l 0 + 1) = σ3
  have K3 : bh_K σ3 = bh_K σ := by rw [← hσ3]; rfl
  have L3 : bh_L σ3 = bh_L σ := by rw [← hσ3]; rfl
  have R3 : bh_R σ3 = bh_R σ := by rw [← hσ3]; rfl
  have z3 : bh_z σ3 = bh_z σ := by rw [← hσ3]; rfl
  have n3 : bh_n σ3 = bh_n σ := by rw [← hσ3]; rfl
  have e3 : bh_e σ3 = bh_e σ := by rw [← hσ3]; rfl
  have I3 : ∀ c x k, ¬ (c = 0 ∧ x = l) → bh_I σ3 c x k = bh_I σ c x k := by
    intro c x k hn
    rw [← hσ3]
    exact if_neg (fun z => hn ⟨z.1, z.2.1⟩)
  have I32 : bh_I σ3 0 l 2 = Int32.ofNat s := by
    rw [← hσ3, ← h1]
    exact if_neg (fun z => absurd z.2.2 (by decide))
  unfold f_Jx4a65c_add_72be8 bh_len
  rw [if_pos (show bh_K σ3 e = 16 by rw [K3]; exact h3), L3, hC]
  show ∃ σ' e' C', bh_bnd (if Int32.ofNat s = Int32.ofNat C then _ else f_Jx4a65c_add_72be8_b11 l a (some e) (Int32.ofNat s) σ3) _ = _ ∧ _
  by_cases hsC : s = C
  · rw [if_pos (by rw [hsC])]
    unfold bh_ck
    rw [if_pos (show bh_K σ3 l = 0 by rw [K3]; exact h0)]
    obtain ⟨σ6, C', q1, q2, q3, q4, q5, q6, q7, q8, q9, q10, q11⟩ := li_grow (σ := σ3) (l := l) (e := e) (s := s) (C := C) (by rw [K3]; exact h0) I32 (by rw [R3]; exact h2) (by rw [K3]; exact h3) (by rw [L3]; exact hC) hsC hC2 (by rw [e3]; exact hz) (by rw [z3]; exact hl) (by rw [z3]; exact he) (by rw [R3, K3, z3]; exact hy)
    show ∃ σ' e' C', bh_bnd (bh_bnd (f_Jx4a65c_grow_d5877 l σ3) _) _ = _ ∧ _
    rw [q1]
    show ∃ σ' e' C', bh_bnd (f_Jx4a65c_add_72be8_b11 l a (some (bh_z σ3)) (Int32.ofNat s) σ6) _ = _ ∧ _
    rw [z3] at q2 q3 q4 q5 q9 q10 q11 ⊢
    rw [b11 σ6 (bh_z σ) (by rw [(q3 l hl).1, K3]; exact h0) q4 (by rw [q5]; omega) (by rw [(q3 a ha2).1, K3]; exact ha)]
    refine ⟨bh_setI (bh_setR σ6 16 (bh_z σ) s (some a)) 0 l 2 (Int32.ofNat (s + 1)), bh_z σ, C', rfl, Or.inr ⟨rfl, hsC, q2.1, q2.2.1, q2.2.2.1, q2.2.2.2.1, ?_⟩, ?_, q4, q5, ?_, ?_, ?_, ?_, ?_, ?_, ?_, ?_⟩
    · have := q2.2.2.2.2
      rw [n3] at this
      exact this
    · intro x hx
      have := q3 x hx
      rw [K3, L3] at this
      exact this
    · exact q6.trans e3
    · intro c x k hc hn
      show (if c = 0 ∧ x = l ∧ k = 2 then _ else bh_I σ6 c x k) = _
      rw [if_neg (fun z => hn ⟨z.1, z.2.1⟩), q7 c x k hc, I3 c x k hn]
    · show (if 0 = 0 ∧ l = l ∧ 2 = 2 then Int32.ofNat (s + 1) else _) = _
      rw [if_pos ⟨rfl, rfl, rfl⟩]
    · intro c x k hc hn
      show (if c = 16 ∧ x = bh_z σ ∧ k = s then some a else bh_R σ6 c x k) = _
      rw [if_neg (fun z => hc z.1), q8 c x k hc hn, R3]
    · show (if 0 = 16 ∧ l = bh_z σ ∧ 1 = s then some a else bh_R σ6 0 l 1) = _
      rw [if_neg (fun z => absurd z.1 (by decide))]
      exact q9
    · intro x k hx hne
      show (if 16 = 16 ∧ x = bh_z σ ∧ k = s then some a else bh_R σ6 16 x k) = _
      rw [if_neg (fun z => hne z.2.1), q10 x k hx, R3]
    · intro i hi
      show (if 16 = 16 ∧ bh_z σ = bh_z σ ∧ i = s then some a else bh_R σ6 16 (bh_z σ) i) = _
      rw [if_neg (fun z => by omega), q11 i hi, R3]
    · show (if 16 = 16 ∧ bh_z σ = bh_z σ ∧ s = s then some a else _) = _
      rw [if_pos ⟨rfl, rfl, rfl⟩]
  · rw [if_neg (fun h => hsC ((i32_ofeq (by omega) (by omega)).mp h))]
    rw [b11 σ3 e (by rw [K3]; exact h0) (by rw [K3]; exact h3) (by rw [L3, hC]; omega) (by rw [K3]; exact ha)]
    refine ⟨bh_setI (bh_setR σ3 16 e s (some a)) 0 l 2 (Int32.ofNat (s + 1)), e, C, rfl, Or.inl ⟨rfl, rfl, by omega, z3, n3⟩, ?_, ?_, ?_, e3, ?_, ?_, ?_, ?_, ?_, ?_, ?_⟩
    · intro x hx
      exact ⟨congrFun K3 x, congrFun L3 x⟩
    · exact (congrFun K3 e).trans h3
    · exact (congrFun L3 e).trans hC
    · intro c x k hc hn
      show (if c = 0 ∧ x = l ∧ k = 2 then _ else bh_I σ3 c x k) = _
      rw [if_neg (fun z => hn ⟨z.1, z.2.1⟩), I3 c x k hn]
    · show (if 0 = 0 ∧ l = l ∧ 2 = 2 then Int32.ofNat (s + 1) else _) = _
      rw [if_pos ⟨rfl, rfl, rfl⟩]
    · intro c x k hc hn
      show (if c = 16 ∧ x = e ∧ k = s then some a else bh_R σ3 c x k) = _
      rw [if_neg (fun z => hc z.1), R3]
    · show (if 0 = 16 ∧ l = e ∧ 1 = s then some a else bh_R σ3 0 l 1) = _
      rw [if_neg (fun z => absurd z.1 (by decide)), R3]
      exact h2
    · intro x k hx hne
      show (if 16 = 16 ∧ x = e ∧ k = s then some a else bh_R σ3 16 x k) = _
      rw [if_neg (fun z => hne z.2.1), R3]
    · intro i hi
      show (if 16 = 16 ∧ e = e ∧ i = s then some a else bh_R σ3 16 e i) = _
      rw [if_neg (fun z => by omega), R3]
    · show (if 16 = 16 ∧ e = e ∧ s = s then some a else _) = _
      rw [if_pos ⟨rfl, rfl, rfl⟩]
