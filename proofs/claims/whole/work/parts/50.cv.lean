/-! ===== second level: the class over a plain memory (code, index) ===== -/
def xs_rf (v : Int32) : Option Nat := if v < 0 then none else some v.toNatClampNeg
def xs_fr (d : Int32) (o : Option Nat) : Int32 := match o with
  | none => d
  | some j => Int32.ofNat j
def xs_ix (n : Nat) (i : Int32) : Option Nat := if ¬ (i < 0 ∨ n ≤ i.toNatClampNeg) then some i.toNatClampNeg else none
def xs_gt (Z : xs_S) (k : Nat) (i : Int32) : Option Nat := if i < 0 then none else if i < Z k 0 then some i.toNatClampNeg else none
def xs_wZ (Z : xs_S) (k i : Nat) (v : Int32) : Option xs_S := if v = 0 ∨ v = 1 then some (xs_up Z k i v) else none
/-- the first load goes -/
def xs_sh (Z : xs_S) : xs_S := fun k i => if k = 44 ∧ i = 0 then Z 44 0 - 1 else if (k = 41 ∨ k = 42 ∨ k = 43) ∧ i + 1 < (Z 44 0).toNatClampNeg then Z k (i + 1) else Z k i
def xs_rm (Z : xs_S) : Option xs_S := if 0 < Z 44 0 then some (xs_sh Z) else none
def cv_cn (nf nl c : Nat) : Nat := match c with
  | 1 => 6
  | 2 => 4
  | 4 => nl
  | 5 => 1
  | 6 => 1
  | 7 => nf
  | 8 => 1
  | 9 => 1
  | 10 => 1
  | _ => 0
def cv_nk (c : Nat) : Nat := match c with
  | 1 => 4
  | 2 => 2
  | 4 => 8
  | 5 => 5
  | 6 => 7
  | 7 => 14
  | 9 => 4
  | 10 => 12
  | _ => 0
def cv_iF (c k : Nat) : Bool := decide (k < cv_nk c) && !bh_isR c k
/-- the kind that a changing reference points to -/
def cv_tk (c k : Nat) : Nat := if c = 7 ∧ k = 1 then 1 else if c = 2 ∧ k = 1 then 7 else if c = 4 ∧ k = 2 then 7 else 0
def cv_cd (c k : Nat) : Nat := match c with
  | 1 => (match k with | 0 => 100 | 1 => 1 | 2 => 2 | _ => 62)
  | 2 => 31 + k
  | 4 => 33 + k
  | 5 => 10 + k
  | 6 => 62 + k
  | 7 => (match k with | 0 => 101 | 1 => 18 | 2 => 20 | 3 => 21 | 4 => 28 | 5 => 19 | 6 => 22 | 7 => 23 | 8 => 29 | 9 => 30 | 10 => 24 | 11 => 25 | 12 => 26 | _ => 27)
  | 9 => (match k with | 1 => 9 | 2 => 60 | _ => 61)
  | 10 => (match k with | 10 => 17 | _ => 6)
  | _ => 999
/-- references that never change -/
def cv_ct (c k : Nat) : Option (Nat × Nat) := match c with
  | 6 => (match k with | 0 => some (12, 4) | 1 => some (17, 0) | 2 => some (12, 5) | 3 => some (12, 6) | 4 => some (12, 7) | _ => none)
  | 8 => (match k with | 0 => some (12, 2) | 1 => some (12, 3) | _ => none)
  | 9 => (match k with | 0 => some (0, 2) | _ => none)
  | 10 => (match k with | 0 => some (14, 0) | 1 => some (0, 0) | 2 => some (15, 0) | 3 => some (0, 1) | 4 => some (8, 0) | 5 => some (9, 0) | 6 => some (5, 0) | 7 => some (6, 0) | 8 => some (12, 0) | 9 => some (12, 1) | _ => none)
  | _ => none
def cv_ac (j : Nat) : Nat := match j with
  | 0 => 5
  | 1 => 0
  | 2 => 3
  | 3 => 4
  | 4 => 63
  | 5 => 64
  | 6 => 65
  | 7 => 66
  | j + 8 => 70 + j
def cv_al (j : Nat) : Nat := match j with
  | 0 => 10
  | 1 => 7
  | 2 => 100
  | 3 => 10
  | 4 => 8
  | 5 => 256
  | 6 => 256
  | 7 => 256
  | _ + 8 => 101
def cv_lc (j : Nat) : Nat := match j with
  | 0 => 7
  | 1 => 8
  | _ => 44
def cv_fd (c k : Nat) : Bool := cv_iF c k || cv_tk c k != 0
theorem cv_fd_lt {c k : Nat} (h : cv_fd c k = true) : c < 11 ∧ k < 14 := by
  unfold cv_fd cv_iF cv_tk at h
  by_cases hc : c < 11
  · refine ⟨hc, ?_⟩
    rcases Nat.lt_or_ge k 14 with hk | hk
    · exact hk
    · exfalso
      have e1 : cv_nk c ≤ 14 := by unfold cv_nk; split <;> decide
      have e2 : ¬ k < cv_nk c := by omega
      have e3 : ¬ k = 1 := by omega
      have e4 : ¬ k = 2 := by omega
      simp [e2, e3, e4] at h
  · exfalso
    have e1 : cv_nk c = 0 := by
      unfold cv_nk
      split <;> first | rfl | (exfalso; omega)
    have e2 : ¬ c = 7 := by omega
    have e3 : ¬ c = 2 := by omega
    have e4 : ¬ c = 4 := by omega
    simp [e1, e2, e3, e4] at h
theorem cv_chk1 : ((List.range 11).all fun c => (List.range 14).all fun k => !cv_fd c k || ((List.range 11).all fun c' => (List.range 14).all fun k' => !cv_fd c' k' || cv_cd c k != cv_cd c' k' || (c == c' && k == k'))) = true := by decide +kernel
theorem cv_cd_inj0 (c : Nat) (hc : c < 11) (k : Nat) (hk : k < 14) (h : cv_fd c k = true) (c' : Nat) (hc' : c' < 11) (k' : Nat) (hk' : k' < 14) (h' : cv_fd c' k' = true) (e : cv_cd c k = cv_cd c' k') : c = c' ∧ k = k' := by
  have q := List.all_eq_true.mp (List.all_eq_true.mp cv_chk1 c (List.mem_range.mpr hc)) k (List.mem_range.mpr hk)
  rw [h, Bool.not_true, Bool.false_or] at q
  have q := List.all_eq_true.mp (List.all_eq_true.mp q c' (List.mem_range.mpr hc')) k' (List.mem_range.mpr hk')
  rw [h', e] at q
  simpa using q
theorem cv_cd_inj {c k c' k' : Nat} (h : cv_fd c k = true) (h' : cv_fd c' k' = true) (e : cv_cd c k = cv_cd c' k') : c = c' ∧ k = k' :=
  cv_cd_inj0 c (cv_fd_lt h).1 k (cv_fd_lt h).2 h c' (cv_fd_lt h').1 k' (cv_fd_lt h').2 h' e
theorem cv_chk2 : ((List.range 11).all fun c => (List.range 14).all fun k => !cv_fd c k || ((List.range 16).all (fun j => cv_ac j != cv_cd c k) && (List.range 3).all (fun j => cv_lc j != cv_cd c k) && 41 != cv_cd c k && 42 != cv_cd c k && 43 != cv_cd c k && 90 != cv_cd c k)) = true := by decide +kernel
theorem cv_cd_ne0 (c : Nat) (hc : c < 11) (k : Nat) (hk : k < 14) (h : cv_fd c k = true) : (∀ j, j < 16 → cv_ac j ≠ cv_cd c k) ∧ (∀ j, j < 3 → cv_lc j ≠ cv_cd c k) ∧ 41 ≠ cv_cd c k ∧ 42 ≠ cv_cd c k ∧ 43 ≠ cv_cd c k ∧ 90 ≠ cv_cd c k := by
  have q := List.all_eq_true.mp (List.all_eq_true.mp cv_chk2 c (List.mem_range.mpr hc)) k (List.mem_range.mpr hk)
  rw [h, Bool.not_true, Bool.false_or] at q
  simp only [Bool.and_eq_true, List.all_eq_true, List.mem_range, bne_iff_ne] at q
  exact ⟨q.1.1.1.1.1, q.1.1.1.1.2, q.1.1.1.2, q.1.1.2, q.1.2, q.2⟩
theorem cv_cd_ne {c k : Nat} (h : cv_fd c k = true) : (∀ j, j < 16 → cv_ac j ≠ cv_cd c k) ∧ (∀ j, j < 3 → cv_lc j ≠ cv_cd c k) ∧ 41 ≠ cv_cd c k ∧ 42 ≠ cv_cd c k ∧ 43 ≠ cv_cd c k ∧ 90 ≠ cv_cd c k :=
  cv_cd_ne0 c (cv_fd_lt h).1 k (cv_fd_lt h).2 h
theorem cv_ac_inj : ∀ j, j < 16 → ∀ j', j' < 16 → cv_ac j = cv_ac j' → j = j' := by decide +kernel
theorem cv_ac_ne : ∀ j, j < 16 → (∀ j', j' < 3 → cv_lc j' ≠ cv_ac j) ∧ 41 ≠ cv_ac j ∧ 42 ≠ cv_ac j ∧ 43 ≠ cv_ac j ∧ 90 ≠ cv_ac j := by decide +kernel
theorem cv_iF_fd {c k : Nat} (h : cv_iF c k = true) : cv_fd c k = true := by unfold cv_fd; rw [h]; rfl
theorem cv_tk_fd {c k : Nat} (h : cv_tk c k ≠ 0) : cv_fd c k = true := by
  unfold cv_fd
  have : (cv_tk c k != 0) = true := by simpa using h
  rw [this, Bool.or_true]
theorem cv_iF_ne {c k : Nat} (h : cv_iF c k = true) : c ≠ 0 ∧ c ≠ 3 ∧ c ≠ 11 ∧ c ≠ 12 ∧ c ≠ 13 ∧ c ≠ 16 := by
  refine ⟨?_, ?_, ?_, ?_, ?_, ?_⟩ <;> (rintro rfl; revert h; unfold cv_iF; simp [cv_nk])
theorem cv_tk_ne {c k : Nat} (h : cv_tk c k ≠ 0) : c = 7 ∧ k = 1 ∨ c = 2 ∧ k = 1 ∨ c = 4 ∧ k = 2 := by
  unfold cv_tk at h
  split at h
  · exact Or.inl (by assumption)
  · split at h
    · exact Or.inr (Or.inl (by assumption))
    · split at h
      · exact Or.inr (Or.inr (by assumption))
      · exact absurd rfl h
/-- how many: fields, lorries, loads -/
def cv_n (nf nl np j : Nat) : Nat := match j with
  | 0 => nf
  | 1 => nl
  | _ => np
def cv_el (w : Nat → Nat → Nat) (lp : Nat → Nat) (j : Nat) : Nat → Nat := match j with
  | 0 => w 7
  | 1 => w 4
  | _ => lp
section CVD
variable (w : Nat → Nat → Nat) (nf nl : Nat) (mb z1 n1 : Nat) (σ0 : bh_S) (lp : Nat → Nat) (np : Nat) (ea : Nat → Nat) (σ : bh_S) (Z : xs_S)
def cv_O : Prop := ∀ c i, i < cv_cn nf nl c → bh_K σ (w c i) = c ∧ w c i < bh_z σ ∧ (∀ j, j < cv_cn nf nl c → w c j = w c i → j = i) ∧ ∀ k, cv_iF c k = true → bh_I σ c (w c i) k = Z (cv_cd c k) i
def cv_V : Prop := ∀ c k i, cv_tk c k ≠ 0 → i < cv_cn nf nl c → bh_R σ c (w c i) k = (xs_rf (Z (cv_cd c k) i)).map (w (cv_tk c k)) ∧ ∀ j, xs_rf (Z (cv_cd c k) i) = some j → j < cv_cn nf nl (cv_tk c k)
def cv_C : Prop := (∀ c k t j, cv_ct c k = some (t, j) → bh_R σ c (w c 0) k = some (w t j)) ∧
  (bh_K σ (w 14 0) = 14 ∧ w 14 0 < bh_z σ ∧ bh_L σ (w 14 0) = 6 ∧ ∀ i, i < 6 → bh_R σ 14 (w 14 0) i = some (w 1 i)) ∧
  (bh_K σ (w 15 0) = 15 ∧ w 15 0 < bh_z σ ∧ bh_L σ (w 15 0) = 4 ∧ ∀ i, i < 4 → bh_R σ 15 (w 15 0) i = some (w 2 i)) ∧
  (bh_K σ (w 17 0) = 17 ∧ w 17 0 < bh_z σ ∧ bh_L σ (w 17 0) = 8 ∧ ∀ i, i < 8 → bh_R σ 17 (w 17 0) i = some (w 12 (i + 8)))
def cv_A : Prop := mb ≤ bh_z σ ∧ ∀ j, j < 16 → bh_K σ (w 12 j) = 12 ∧ bh_L σ (w 12 j) = cv_al j ∧ w 12 j < mb ∧ (∀ j', j' < 16 → w 12 j' = w 12 j → j' = j) ∧ ∀ i, bh_I σ 12 (w 12 j) i = Z (cv_ac j) i
def cv_S : Prop := (nf ≤ 16 ∧ nl ≤ 8 ∧ np ≤ 3100) ∧ (bh_K σ (bh_e σ) = 16 ∧ bh_L σ (bh_e σ) = 0 ∧ bh_e σ < bh_z σ) ∧ ∀ j, j < 3 → (bh_K σ (w 0 j) = 0 ∧ w 0 j < bh_z σ ∧ (∀ j', j' < 3 → w 0 j' = w 0 j → j' = j)) ∧ (bh_I σ 0 (w 0 j) 2 = Z (cv_lc j) 0 ∧ Z (cv_lc j) 0 = Int32.ofNat (cv_n nf nl np j)) ∧ bh_R σ 0 (w 0 j) 1 = some (ea j) ∧ bh_K σ (ea j) = 16 ∧ ea j < bh_z σ ∧ cv_n nf nl np j ≤ bh_L σ (ea j) ∧ (∀ i, i < cv_n nf nl np j → bh_R σ 16 (ea j) i = some (cv_el w lp j i)) ∧ (bh_L σ (ea j) = 0 → ea j = bh_e σ) ∧ (bh_L σ (ea j) ≠ 0 → ∀ j', j' < 3 → ea j' = ea j → j' = j)
def cv_L : Prop := ∀ i, i < np → bh_K σ (lp i) = 3 ∧ lp i < bh_z σ ∧ (∀ j, j < np → lp j = lp i → j = i) ∧ (bh_I σ 3 (lp i) 1 = Z 42 i ∧ bh_I σ 3 (lp i) 2 = Z 43 i) ∧ ∃ j, j < nf ∧ xs_rf (Z 41 i) = some j ∧ bh_R σ 3 (lp i) 0 = some (w 7 j)
def cv_Q : Prop := bh_z σ ≤ z1 + 2 * (Z 90 0).toNatClampNeg + bh_L σ (ea 2) ∧ bh_n σ ≤ n1 + 60 * (Z 90 0).toNatClampNeg + 4 * bh_L σ (ea 2) ∧ bh_L σ (ea 2) ≤ 5000 ∧ bh_L σ (ea 0) ≤ 60 ∧ bh_L σ (ea 1) ≤ 60
/-- what the class's methods leave as it was -/
def cv_F : Prop := (∀ a, a < bh_z σ0 → bh_K σ a = bh_K σ0 a ∧ bh_L σ a = bh_L σ0 a) ∧ bh_z σ0 ≤ bh_z σ ∧ bh_e σ = bh_e σ0 ∧ (∀ c a k, (c = 11 ∨ c = 13 ∨ c = 12 ∧ mb ≤ a) → bh_I σ c a k = bh_I σ0 c a k) ∧ (∀ a k, bh_R σ 11 a k = bh_R σ0 11 a k)
def cv_R : Prop := ∃ ea, cv_O w nf nl σ Z ∧ cv_V w nf nl σ Z ∧ cv_C w σ ∧ cv_A w mb σ Z ∧ cv_S w nf nl lp np ea σ Z ∧ cv_L w nf lp np σ Z ∧ cv_Q z1 n1 ea σ Z ∧ cv_F mb σ0 σ
end CVD
theorem xs_up_ne {Z : xs_S} {k i : Nat} {v : Int32} {k' i' : Nat} (h : k' ≠ k) : xs_up Z k i v k' i' = Z k' i' := if_neg (fun z => h z.1)
theorem xs_up_ni {Z : xs_S} {k i : Nat} {v : Int32} {k' i' : Nat} (h : i' ≠ i) : xs_up Z k i v k' i' = Z k' i' := if_neg (fun z => h z.2)
theorem xs_up_eq {Z : xs_S} {k i : Nat} {v : Int32} : xs_up Z k i v k i = v := if_pos ⟨rfl, rfl⟩
section CV
variable {α β : Type} {G : α → bh_S → β → xs_S → Prop} {go : Option (β × xs_S)} {w : Nat → Nat → Nat} {nf nl : Nat} {mb z1 n1 : Nat} {σ0 : bh_S} {lp : Nat → Nat} {np : Nat} {σ : bh_S} {Z : xs_S} {c i k d t j n : Nat}
theorem cv_V.up (h : cv_V w nf nl σ Z) {v : Int32} (hk : cv_iF c k = true) : cv_V w nf nl σ (xs_up Z (cv_cd c k) i v) := by
  intro c' k' i' h1 h2
  have hne : cv_cd c' k' ≠ cv_cd c k := fun e => by
    obtain ⟨rfl, rfl⟩ := cv_cd_inj (cv_tk_fd h1) (cv_iF_fd hk) e
    rcases cv_tk_ne h1 with ⟨rfl, rfl⟩ | ⟨rfl, rfl⟩ | ⟨rfl, rfl⟩ <;> exact absurd hk (by decide)
  rw [xs_up_ne hne]
  exact h c' k' i' h1 h2
theorem cv_A.up (h : cv_A w mb σ Z) {v : Int32} (hk : ∀ j, j < 16 → cv_ac j ≠ d) : cv_A w mb σ (xs_up Z d i v) := by
  refine ⟨h.1, fun j hj => ?_⟩
  obtain ⟨g1, g2, g3, g4, g5⟩ := h.2 j hj
  refine ⟨g1, g2, g3, g4, fun i' => ?_⟩
  rw [xs_up_ne (hk j hj)]
  exact g5 i'
theorem cv_S.up {ea : Nat → Nat} (h : cv_S w nf nl lp np ea σ Z) {v : Int32} (hk : ∀ j, j < 3 → cv_lc j ≠ d) : cv_S w nf nl lp np ea σ (xs_up Z d i v) := by
  refine ⟨h.1, h.2.1, fun j hj => ?_⟩
  obtain ⟨g1, g2, g3⟩ := h.2.2 j hj
  refine ⟨g1, ?_, g3⟩
  rw [xs_up_ne (hk j hj)]
  exact g2
theorem cv_L.up (h : cv_L w nf lp np σ Z) {v : Int32} (h1 : 41 ≠ d) (h2 : 42 ≠ d) (h3 : 43 ≠ d) : cv_L w nf lp np σ (xs_up Z d i v) := by
  intro i' hi
  rw [xs_up_ne h1, xs_up_ne h2, xs_up_ne h3]
  exact h i' hi
theorem cv_Q.up {ea : Nat → Nat} (h : cv_Q z1 n1 ea σ Z) {v : Int32} (h1 : 90 ≠ d) : cv_Q z1 n1 ea σ (xs_up Z d i v) := by
  unfold cv_Q
  rw [xs_up_ne h1]
  exact h
theorem cv_F.setI (h : cv_F mb σ0 σ) {a : Nat} {v : Int32} (hc : c ≠ 11 ∧ c ≠ 13 ∧ (c = 12 → a < mb)) : cv_F mb σ0 (bh_setI σ c a k v) := by
  obtain ⟨g1, g2, g3, g4, g5⟩ := h
  refine ⟨g1, g2, g3, fun c' a' k' hc' => ?_, g5⟩
  show (if c' = c ∧ a' = a ∧ k' = k then v else bh_I σ c' a' k') = _
  rw [if_neg]
  · exact g4 c' a' k' hc'
  · rintro ⟨rfl, rfl, -⟩
    rcases hc' with e | e | ⟨e, e2⟩
    · exact hc.1 e
    · exact hc.2.1 e
    · have := hc.2.2 e
      omega
/-- an object's number is written -/
theorem cv_R.setI (h : cv_R w nf nl mb z1 n1 σ0 lp np σ Z) {v : Int32} (hi : i < cv_cn nf nl c) (hk : cv_iF c k = true) : cv_R w nf nl mb z1 n1 σ0 lp np (bh_setI σ c (w c i) k v) (xs_up Z (cv_cd c k) i v) := by
  obtain ⟨ea, hO, hV, hC, hA, hS, hL, hQ, hF⟩ := h
  obtain ⟨n0, n3, n11, n12, n13, n16⟩ := cv_iF_ne hk
  obtain ⟨q1, q2, q3, q4, q5, q6⟩ := cv_cd_ne (cv_iF_fd hk)
  refine ⟨ea, ?_, hV.up hk, hC, ?_, ?_, ?_, hQ.up q6, hF.setI ⟨n11, n13, fun e => absurd e n12⟩⟩
  · intro c' i' hi'
    obtain ⟨g1, g2, g3, g4⟩ := hO c' i' hi'
    refine ⟨g1, g2, g3, fun k' hk' => ?_⟩
    show (if c' = c ∧ w c' i' = w c i ∧ k' = k then v else bh_I σ c' (w c' i') k') = _
    by_cases e : c' = c ∧ w c' i' = w c i ∧ k' = k
    · rw [if_pos e]
      obtain ⟨rfl, e2, rfl⟩ := e
      have := (hO c' i hi).2.2.1 i' hi' e2
      subst this
      exact xs_up_eq.symm
    · rw [if_neg e]
      by_cases e2 : cv_cd c' k' = cv_cd c k
      · obtain ⟨rfl, rfl⟩ := cv_cd_inj (cv_iF_fd hk') (cv_iF_fd hk) e2
        have e3 : i' ≠ i := fun e3 => e ⟨rfl, by rw [e3], rfl⟩
        rw [xs_up_ni e3]
        exact g4 k' hk'
      · rw [xs_up_ne e2]
        exact g4 k' hk'
  · refine ⟨hA.1, fun j hj => ?_⟩
    obtain ⟨g1, g2, g3, g4, g5⟩ := hA.2 j hj
    refine ⟨g1, g2, g3, g4, fun i' => ?_⟩
    show (if 12 = c ∧ w 12 j = w c i ∧ i' = k then v else bh_I σ 12 (w 12 j) i') = _
    rw [if_neg (fun z => n12 z.1.symm), xs_up_ne (q1 j hj)]
    exact g5 i'
  · refine ⟨hS.1, hS.2.1, fun j hj => ?_⟩
    obtain ⟨g1, g2, g3⟩ := hS.2.2 j hj
    refine ⟨g1, ?_, g3⟩
    show (if 0 = c ∧ w 0 j = w c i ∧ 2 = k then v else bh_I σ 0 (w 0 j) 2) = _ ∧ _
    rw [if_neg (fun z => n0 z.1.symm), xs_up_ne (q2 j hj)]
    exact g2
  · intro i' hi'
    obtain ⟨g1, g2, g3, g4, g5⟩ := hL i' hi'
    refine ⟨g1, g2, g3, ?_, ?_⟩
    · show (if 3 = c ∧ lp i' = w c i ∧ 1 = k then v else bh_I σ 3 (lp i') 1) = _ ∧ (if 3 = c ∧ lp i' = w c i ∧ 2 = k then v else bh_I σ 3 (lp i') 2) = _
      rw [if_neg (fun z => n3 z.1.symm), if_neg (fun z => n3 z.1.symm), xs_up_ne q4, xs_up_ne q5]
      exact g4
    · rw [xs_up_ne q3]
      exact g5
/-- a load's number is written -/
theorem cv_R.setI3 (h : cv_R w nf nl mb z1 n1 σ0 lp np σ Z) {v : Int32} (hi : i < np) (hk : k = 1 ∨ k = 2) : cv_R w nf nl mb z1 n1 σ0 lp np (bh_setI σ 3 (lp i) k v) (xs_up Z (41 + k) i v) := by
  obtain ⟨ea, hO, hV, hC, hA, hS, hL, hQ, hF⟩ := h
  have hd : 41 + k = 42 ∨ 41 + k = 43 := by omega
  refine ⟨ea, ?_, ?_, hC, ?_, ?_, ?_, hQ.up (by omega), hF.setI ⟨by decide, by decide, fun e => absurd e (by decide)⟩⟩
  · intro c' i' hi'
    obtain ⟨g1, g2, g3, g4⟩ := hO c' i' hi'
    refine ⟨g1, g2, g3, fun k' hk' => ?_⟩
    obtain ⟨n0, n3, -⟩ := cv_iF_ne hk'
    obtain ⟨-, -, -, q4, q5, -⟩ := cv_cd_ne (cv_iF_fd hk')
    show (if c' = 3 ∧ w c' i' = lp i ∧ k' = k then v else bh_I σ c' (w c' i') k') = _
    rw [if_neg (fun z => n3 z.1), xs_up_ne (by rcases hd with e | e <;> rw [e] <;> first | exact fun e => q4 e.symm | exact fun e => q5 e.symm)]
    exact g4 k' hk'
  · intro c' k' i' h1 h2
    obtain ⟨-, -, -, q4, q5, -⟩ := cv_cd_ne (cv_tk_fd h1)
    rw [xs_up_ne (by rcases hd with e | e <;> rw [e] <;> first | exact fun e => q4 e.symm | exact fun e => q5 e.symm)]
    exact hV c' k' i' h1 h2
  · refine ⟨hA.1, fun j hj => ?_⟩
    obtain ⟨g1, g2, g3, g4, g5⟩ := hA.2 j hj
    refine ⟨g1, g2, g3, g4, fun i' => ?_⟩
    obtain ⟨-, -, q4, q5, -⟩ := cv_ac_ne j hj
    show (if 12 = 3 ∧ w 12 j = lp i ∧ i' = k then v else bh_I σ 12 (w 12 j) i') = _
    rw [if_neg (fun z => absurd z.1 (by decide)), xs_up_ne (by rcases hd with e | e <;> rw [e] <;> first | exact fun e => q4 e.symm | exact fun e => q5 e.symm)]
    exact g5 i'
  · refine ⟨hS.1, hS.2.1, fun j hj => ?_⟩
    obtain ⟨g1, g2, g3⟩ := hS.2.2 j hj
    refine ⟨g1, ?_, g3⟩
    show (if 0 = 3 ∧ w 0 j = lp i ∧ 2 = k then v else bh_I σ 0 (w 0 j) 2) = _ ∧ _
    have hl : cv_lc j ≠ 41 + k := by unfold cv_lc; split <;> omega
    rw [if_neg (fun z => absurd z.1 (by decide)), xs_up_ne hl]
    exact g2
  · intro i' hi'
    obtain ⟨g1, g2, g3, ⟨g4, g4'⟩, g5⟩ := hL i' hi'
    refine ⟨g1, g2, g3, ⟨?_, ?_⟩, ?_⟩
    · show (if 3 = 3 ∧ lp i' = lp i ∧ 1 = k then v else bh_I σ 3 (lp i') 1) = if 42 = 41 + k ∧ i' = i then v else Z 42 i'
      by_cases e : lp i' = lp i
      · have e2 := (hL i hi).2.2.1 i' hi' e
        subst e2
        by_cases e3 : 1 = k
        · rw [if_pos ⟨rfl, rfl, e3⟩, if_pos ⟨by omega, rfl⟩]
        · rw [if_neg (fun z => e3 z.2.2), if_neg (fun z => e3 (by omega)), g4]
      · rw [if_neg (fun z => e z.2.1), if_neg (fun z => e (by rw [z.2])), g4]
    · show (if 3 = 3 ∧ lp i' = lp i ∧ 2 = k then v else bh_I σ 3 (lp i') 2) = if 43 = 41 + k ∧ i' = i then v else Z 43 i'
      by_cases e : lp i' = lp i
      · have e2 := (hL i hi).2.2.1 i' hi' e
        subst e2
        by_cases e3 : 2 = k
        · rw [if_pos ⟨rfl, rfl, e3⟩, if_pos ⟨by omega, rfl⟩]
        · rw [if_neg (fun z => e3 z.2.2), if_neg (fun z => e3 (by omega)), g4']
      · rw [if_neg (fun z => e z.2.1), if_neg (fun z => e (by rw [z.2])), g4']
    · rw [xs_up_ne (by omega)]
      exact g5
/-- a place of a row of ints is written -/
theorem cv_R.setA (h : cv_R w nf nl mb z1 n1 σ0 lp np σ Z) {v : Int32} (hj : j < 16) : cv_R w nf nl mb z1 n1 σ0 lp np (bh_setI σ 12 (w 12 j) i v) (xs_up Z (cv_ac j) i v) := by
  obtain ⟨ea, hO, hV, hC, hA, hS, hL, hQ, hF⟩ := h
  obtain ⟨q2, q3, q4, q5, q6⟩ := cv_ac_ne j hj
  refine ⟨ea, ?_, ?_, hC, ?_, ?_, ?_, hQ.up q6, hF.setI ⟨by decide, by decide, fun _ => (hA.2 j hj).2.2.1⟩⟩
  · intro c' i' hi'
    obtain ⟨g1, g2, g3, g4⟩ := hO c' i' hi'
    refine ⟨g1, g2, g3, fun k' hk' => ?_⟩
    obtain ⟨-, -, -, n12, -, -⟩ := cv_iF_ne hk'
    show (if c' = 12 ∧ w c' i' = w 12 j ∧ k' = i then v else bh_I σ c' (w c' i') k') = _
    rw [if_neg (fun z => n12 z.1), xs_up_ne (fun e => (cv_cd_ne (cv_iF_fd hk')).1 j hj e.symm)]
    exact g4 k' hk'
  · intro c' k' i' h1 h2
    rw [xs_up_ne (fun e => (cv_cd_ne (cv_tk_fd h1)).1 j hj e.symm)]
    exact hV c' k' i' h1 h2
  · refine ⟨hA.1, fun j' hj' => ?_⟩
    obtain ⟨g1, g2, g3, g4, g5⟩ := hA.2 j' hj'
    refine ⟨g1, g2, g3, g4, fun i' => ?_⟩
    show (if 12 = 12 ∧ w 12 j' = w 12 j ∧ i' = i then v else bh_I σ 12 (w 12 j') i') = if cv_ac j' = cv_ac j ∧ i' = i then v else Z (cv_ac j') i'
    by_cases e : j' = j
    · subst e
      by_cases e2 : i' = i
      · rw [if_pos ⟨rfl, rfl, e2⟩, if_pos ⟨rfl, e2⟩]
      · rw [if_neg (fun z => e2 z.2.2), if_neg (fun z => e2 z.2), g5]
    · rw [if_neg (fun z => e ((hA.2 j hj).2.2.2.1 j' hj' z.2.1)), if_neg (fun z => e (cv_ac_inj j' hj' j hj z.1)), g5]
  · refine ⟨hS.1, hS.2.1, fun j' hj' => ?_⟩
    obtain ⟨g1, g2, g3⟩ := hS.2.2 j' hj'
    refine ⟨g1, ?_, g3⟩
    show (if 0 = 12 ∧ w 0 j' = w 12 j ∧ 2 = i then v else bh_I σ 0 (w 0 j') 2) = _ ∧ _
    rw [if_neg (fun z => absurd z.1 (by decide)), xs_up_ne (q2 j' hj')]
    exact g2
  · exact fun i' hi' => by
      have := hL.up (i := i) (v := v) q3 q4 q5 i' hi'
      exact this
/-- a changing reference is written -/
theorem xs_rf_fr {d : Int32} {o : Option Nat} (hd : d < 0) (ho : ∀ j, o = some j → j < 2147483648) : xs_rf (xs_fr d o) = o := by
  cases o with
  | none => exact if_pos hd
  | some j =>
    have hj := ho j rfl
    have e1 : (Int32.ofNat j).toInt = (j : Int) := Int32.toInt_ofNat_of_lt (by omega)
    have e2 : ¬ Int32.ofNat j < 0 := by
      rw [Int32.lt_iff_toInt_lt, e1]
      show ¬ (j : Int) < 0
      omega
    show (if Int32.ofNat j < 0 then none else some (Int32.ofNat j).toNatClampNeg) = _
    rw [if_neg e2]
    show some (Int32.ofNat j).toInt.toNat = _
    rw [e1]
    rfl
theorem cv_R.setV (h : cv_R w nf nl mb z1 n1 σ0 lp np σ Z) {dn : Int32} {o : Option Nat} (hi : i < cv_cn nf nl c) (ht : cv_tk c k = t) (h0 : t ≠ 0) (hd : dn < 0) (ho : ∀ j, o = some j → j < cv_cn nf nl t) : cv_R w nf nl mb z1 n1 σ0 lp np (bh_setR σ c (w c i) k (o.map (w t))) (xs_up Z (cv_cd c k) i (xs_fr dn o)) := by
  subst ht
  obtain ⟨ea, hO, hV, hC, hA, hS, hL, hQ, hF⟩ := h
  obtain ⟨q1, q2, q3, q4, q5, q6⟩ := cv_cd_ne (cv_tk_fd h0)
  have hck := cv_tk_ne h0
  have hcn : ∀ t, cv_cn nf nl t ≤ 16 := fun t => by
    unfold cv_cn
    have := hS.1
    split <;> omega
  have hrf : xs_rf (xs_fr dn o) = o := xs_rf_fr hd (fun j hj => by have := ho j hj; have := hcn (cv_tk c k); omega)
  refine ⟨ea, ?_, ?_, ?_, hA.up q1, ?_, ?_, hQ.up q6, ?_⟩
  · intro c' i' hi'
    obtain ⟨g1, g2, g3, g4⟩ := hO c' i' hi'
    refine ⟨g1, g2, g3, fun k' hk' => ?_⟩
    have hne : cv_cd c' k' ≠ cv_cd c k := fun e => by
      obtain ⟨rfl, rfl⟩ := cv_cd_inj (cv_iF_fd hk') (cv_tk_fd h0) e
      rcases hck with ⟨rfl, rfl⟩ | ⟨rfl, rfl⟩ | ⟨rfl, rfl⟩ <;> exact absurd hk' (by decide)
    rw [xs_up_ne hne]
    exact g4 k' hk'
  · intro c' k' i' h1 h2
    show (if c' = c ∧ w c' i' = w c i ∧ k' = k then o.map (w (cv_tk c k)) else bh_R σ c' (w c' i') k') = (xs_rf (if cv_cd c' k' = cv_cd c k ∧ i' = i then xs_fr dn o else Z (cv_cd c' k') i')).map (w (cv_tk c' k')) ∧ ∀ j, xs_rf (if cv_cd c' k' = cv_cd c k ∧ i' = i then xs_fr dn o else Z (cv_cd c' k') i') = some j → j < cv_cn nf nl (cv_tk c' k')
    by_cases e : cv_cd c' k' = cv_cd c k ∧ i' = i
    · rw [if_pos e]
      obtain ⟨e1, rfl⟩ := e
      obtain ⟨rfl, rfl⟩ := cv_cd_inj (cv_tk_fd h1) (cv_tk_fd h0) e1
      rw [if_pos ⟨rfl, rfl, rfl⟩, hrf]
      exact ⟨rfl, ho⟩
    · rw [if_neg e, if_neg]
      · exact hV c' k' i' h1 h2
      · rintro ⟨rfl, e2, rfl⟩
        exact e ⟨rfl, (hO c' i hi).2.2.1 i' h2 e2⟩
  · obtain ⟨g1, g2, g3, g4⟩ := hC
    have nc : c ≠ 14 ∧ c ≠ 15 ∧ c ≠ 17 := by rcases hck with ⟨rfl, rfl⟩ | ⟨rfl, rfl⟩ | ⟨rfl, rfl⟩ <;> decide
    refine ⟨fun c' k' t' j' h' => ?_, ⟨g2.1, g2.2.1, g2.2.2.1, fun i' hi' => ?_⟩, ⟨g3.1, g3.2.1, g3.2.2.1, fun i' hi' => ?_⟩, ⟨g4.1, g4.2.1, g4.2.2.1, fun i' hi' => ?_⟩⟩
    · show (if c' = c ∧ w c' 0 = w c i ∧ k' = k then o.map (w (cv_tk c k)) else bh_R σ c' (w c' 0) k') = _
      rw [if_neg]
      · exact g1 c' k' t' j' h'
      · rintro ⟨rfl, -, rfl⟩
        rcases hck with ⟨rfl, rfl⟩ | ⟨rfl, rfl⟩ | ⟨rfl, rfl⟩ <;> exact absurd h' (by intro h; cases h)
    · show (if 14 = c ∧ w 14 0 = w c i ∧ i' = k then o.map (w (cv_tk c k)) else bh_R σ 14 (w 14 0) i') = _
      rw [if_neg (fun z => nc.1 z.1.symm)]
      exact g2.2.2.2 i' hi'
    · show (if 15 = c ∧ w 15 0 = w c i ∧ i' = k then o.map (w (cv_tk c k)) else bh_R σ 15 (w 15 0) i') = _
      rw [if_neg (fun z => nc.2.1 z.1.symm)]
      exact g3.2.2.2 i' hi'
    · show (if 17 = c ∧ w 17 0 = w c i ∧ i' = k then o.map (w (cv_tk c k)) else bh_R σ 17 (w 17 0) i') = _
      rw [if_neg (fun z => nc.2.2 z.1.symm)]
      exact g4.2.2.2 i' hi'
  · have nc : c ≠ 0 ∧ c ≠ 16 := by rcases hck with ⟨rfl, rfl⟩ | ⟨rfl, rfl⟩ | ⟨rfl, rfl⟩ <;> decide
    refine ⟨hS.1, hS.2.1, fun j hj => ?_⟩
    obtain ⟨g1, g2, g3, g4, g5, g6, g7, g8⟩ := hS.2.2 j hj
    refine ⟨g1, ?_, ?_, g4, g5, g6, fun i' hi' => ?_, g8⟩
    · rw [xs_up_ne (q2 j hj)]
      exact g2
    · show (if 0 = c ∧ w 0 j = w c i ∧ 1 = k then o.map (w (cv_tk c k)) else bh_R σ 0 (w 0 j) 1) = _
      rw [if_neg (fun z => nc.1 z.1.symm)]
      exact g3
    · show (if 16 = c ∧ ea j = w c i ∧ i' = k then o.map (w (cv_tk c k)) else bh_R σ 16 (ea j) i') = _
      rw [if_neg (fun z => nc.2 z.1.symm)]
      exact g7 i' hi'
  · have nc : c ≠ 3 := by rcases hck with ⟨rfl, rfl⟩ | ⟨rfl, rfl⟩ | ⟨rfl, rfl⟩ <;> decide
    intro i' hi'
    obtain ⟨g1, g2, g3, g4, j', g5, g6, g7⟩ := hL i' hi'
    rw [xs_up_ne q3, xs_up_ne q4, xs_up_ne q5]
    refine ⟨g1, g2, g3, g4, j', g5, g6, ?_⟩
    show (if 3 = c ∧ lp i' = w c i ∧ 0 = k then o.map (w (cv_tk c k)) else bh_R σ 3 (lp i') 0) = _
    rw [if_neg (fun z => nc z.1.symm)]
    exact g7
  · obtain ⟨g1, g2, g3, g4, g5⟩ := hF
    have nc : c ≠ 11 := by rcases hck with ⟨rfl, rfl⟩ | ⟨rfl, rfl⟩ | ⟨rfl, rfl⟩ <;> decide
    refine ⟨g1, g2, g3, g4, fun a k' => ?_⟩
    show (if 11 = c ∧ a = w c i ∧ k' = k then o.map (w (cv_tk c k)) else bh_R σ 11 a k') = _
    rw [if_neg (fun z => nc z.1.symm)]
    exact g5 a k'
end CV
