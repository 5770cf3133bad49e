/-! ===== the start: what the two hold ===== -/
def ds_wt (c i : Nat) : Nat := match c with
  | 0 => (match i with | 0 => 2 | 1 => 4 | _ => 9)
  | 1 => 27 + i
  | 2 => 33 + i
  | 5 => 10
  | 6 => 11
  | 8 => 5
  | 9 => 8
  | 12 => (match i with | 0 => 25 | 1 => 26 | 2 => 6 | 3 => 7 | 4 => 12 | 5 => 22 | 6 => 23 | 7 => 24 | i + 8 => 14 + i)
  | 14 => 1
  | 15 => 3
  | 17 => 13
  | _ => 0
def ds_w (z : Nat) : Nat → Nat → Nat := fun c i => z + ds_wt c i
def ds_rt (k : Nat) : Nat := if k < 6 then 38 + k else if k < 44 then 26 + k else 25 + k
def ds_rr (z : Nat) : Nat → Nat := fun k => z + ds_rt k
def zz_0 : xs_S := fun k i => if k = 3 ∧ i < 100 then 5 else if k = 9 ∧ i = 0 then 500 else if k = 100 ∧ i < 6 then Int32.ofNat i else if k = 32 ∧ i < 4 then -1 else 0
def yy_0 : xs_S := fun _ _ => 0
theorem RI0 : RI 0 0 0 zz_0 yy_0 := by
  refine ⟨⟨⟨by decide, ⟨rfl, rfl, rfl⟩, by decide, by decide, by decide, Or.inl rfl⟩, ⟨fun i hi => ?_, fun i hi => ?_, fun i hi => ?_, fun i hi => by omega⟩, fun i hi => by omega, ⟨fun i _ => ⟨rfl, rfl, rfl, rfl, rfl, rfl, rfl⟩, fun i _ => ⟨rfl, rfl, rfl, rfl, rfl⟩⟩, fun i hi => ?_, fun i hi => by omega, ⟨fun i hi => by omega, by decide, by decide⟩, ⟨rfl, fun f hf => rfl⟩, by decide, by decide⟩, rfl, rfl⟩
  · have e : zz_0 3 i = 5 := if_pos ⟨rfl, hi⟩
    rw [e]
    decide
  · have e : zz_0 4 i = 0 := rfl
    rw [e]
    decide
  · have e : zz_0 100 i = if 100 = 100 ∧ i < 6 then Int32.ofNat i else 0 := rfl
    rw [e, if_pos ⟨rfl, hi⟩]
  · have e : zz_0 31 i = 0 := rfl
    have e2 : zz_0 32 i = if 32 = 32 ∧ i < 4 then -1 else 0 := rfl
    rw [e, e2, if_pos ⟨rfl, hi⟩]
    exact ⟨by decide, Or.inl rfl⟩
theorem ck_O1 : ∀ c, c < 11 → ∀ i, i < 6 → i < cv_cn 0 0 c → (ds_wt c i < 73 ∧ dd_185.2.1 (ds_wt c i) = c ∧ c ≠ 17) := by decide +kernel
theorem ck_O2 : ∀ c, c < 11 → ∀ i, i < 6 → ∀ j, j < 6 → (i < cv_cn 0 0 c ∧ j < cv_cn 0 0 c ∧ ds_wt c j = ds_wt c i) → j = i := by decide +kernel
theorem ck_O3 : ∀ c, c < 11 → ∀ i, i < 6 → i < cv_cn 0 0 c → ∀ k, k < 14 → cv_iF c k = true → dd_185.2.2.2.1 (ds_wt c i) k = zz_0 (cv_cd c k) i := by decide +kernel
theorem ck_V : ∀ i, i < 4 → 33 + i < 73 ∧ dd_185.2.1 (33 + i) = 2 ∧ dd_185.2.2.2.2.1 (33 + i) 1 = none := by decide +kernel
theorem ck_C : ∀ c, c < 11 → ∀ k, k < 10 → cv_ct c k = none ∨ (dd_185.2.2.2.2.1 (ds_wt c 0) k = (cv_ct c k).map (fun p => ds_wt p.1 p.2 + 1) ∧ ds_wt c 0 < 73 ∧ dd_185.2.1 (ds_wt c 0) = c ∧ c ≠ 12) := by decide +kernel
theorem ck_C1 : dd_185.2.1 1 = 14 ∧ dd_185.2.2.1 1 = 6 ∧ ∀ i, i < 6 → dd_185.2.2.2.2.1 1 i = some (ds_wt 1 i + 1) := by decide +kernel
theorem ck_C2 : dd_185.2.1 3 = 15 ∧ dd_185.2.2.1 3 = 4 ∧ ∀ i, i < 4 → dd_185.2.2.2.2.1 3 i = some (ds_wt 2 i + 1) := by decide +kernel
theorem ck_C3 : dd_185.2.1 13 = 17 ∧ dd_185.2.2.1 13 = 8 ∧ ∀ i, i < 8 → dd_185.2.2.2.2.1 13 i = some (ds_wt 12 (i + 8) + 1) := by decide +kernel
theorem ck_A : ∀ j, j < 16 → (ds_wt 12 j < 37 ∧ dd_185.2.1 (ds_wt 12 j) = 12 ∧ dd_185.2.2.1 (ds_wt 12 j) = cv_al j) ∧ ∀ j', j' < 16 → ds_wt 12 j' = ds_wt 12 j → j' = j := by decide +kernel
theorem ck_S : ∀ j, j < 3 → (ds_wt 0 j < 73 ∧ dd_185.2.1 (ds_wt 0 j) = 0 ∧ dd_185.2.2.2.1 (ds_wt 0 j) 2 = zz_0 (cv_lc j) 0 ∧ zz_0 (cv_lc j) 0 = Int32.ofNat (cv_n 0 0 0 j) ∧ cv_n 0 0 0 j = 0 ∧ dd_185.2.2.2.2.1 (ds_wt 0 j) 1 = some 0) ∧ ∀ j', j' < 3 → ds_wt 0 j' = ds_wt 0 j → j' = j := by decide +kernel
theorem ck_n : dd_185.1 = 73 ∧ dd_185.2.2.2.2.2 ≤ 100000 := by decide +kernel
theorem ck_M1 : dd_185.2.1 37 = 11 := by decide +kernel
theorem ck_M2 : ∀ k, k < 49 → bh_isR 11 k = true → ds_rt k < 73 ∧ 37 ≤ ds_rt k ∧ dd_185.2.2.2.2.1 37 k = some (ds_rt k + 1) ∧ dd_185.2.1 (ds_rt k) = mo_kd k ∧ dd_185.2.2.1 (ds_rt k) = mo_ln k ∧ mo_kd k ≠ 17 := by decide +kernel
theorem ck_M3 : ∀ k, k < 49 → bh_isR 11 k = true → ∀ k', k' < 49 → bh_isR 11 k' = true → ds_rt k = ds_rt k' → k = k' := by decide +kernel
theorem ck_M4 : ∀ k, k < 49 → bh_isR 11 k = false → dd_185.2.2.2.1 37 k = xs_mg zz_0 yy_0 k 0 := by decide +kernel
theorem isR_lt {k : Nat} (h : bh_isR 11 k = true) : k < 49 := by
  have h : (decide (k < 6) || (decide (18 ≤ k) && decide (k < 44)) || (decide (45 ≤ k) && decide (k < 48))) = true := h
  simp only [Bool.or_eq_true, Bool.and_eq_true, decide_eq_true_eq] at h
  omega
theorem cv_cn_lt {c i : Nat} (h : i < cv_cn 0 0 c) : c < 11 ∧ i < 6 := by
  unfold cv_cn at h
  split at h <;> omega
theorem cv_ct_lt {c k : Nat} {p : Nat × Nat} (h : cv_ct c k = some p) : c < 11 ∧ k < 10 := by
  unfold cv_ct at h
  split at h
  · split at h <;> first | (exact ⟨by decide, by decide⟩) | cases h
  · split at h <;> first | (exact ⟨by decide, by decide⟩) | cases h
  · split at h <;> first | (exact ⟨by decide, by decide⟩) | cases h
  · split at h <;> first | (exact ⟨by decide, by decide⟩) | cases h
  · cases h
set_option maxRecDepth 100000 in
theorem ck_r6 (i : Nat) : dd_185.2.2.2.1 6 i = if 6 = 6 ∧ i < 100 then 5 else 0 := rfl
set_option maxRecDepth 100000 in
theorem ck_r41 (i : Nat) : dd_185.2.2.2.1 41 i = if 41 = 41 ∧ i < 100 then 5 else 0 := rfl
set_option maxRecDepth 100000 in
theorem ck_r58 (i : Nat) : dd_185.2.2.2.1 58 i = if 58 = 58 ∧ i = 3 then -1 else if 58 = 58 ∧ i = 2 then -1 else if 58 = 58 ∧ i = 1 then -1 else if 58 = 58 ∧ i = 0 then -1 else 0 := rfl
set_option maxRecDepth 100000 in
theorem ck_r25 (i : Nat) : dd_185.2.2.2.1 25 i = 0 := rfl
set_option maxRecDepth 100000 in
theorem ck_r26 (i : Nat) : dd_185.2.2.2.1 26 i = 0 := rfl
set_option maxRecDepth 100000 in
theorem ck_r7 (i : Nat) : dd_185.2.2.2.1 7 i = 0 := rfl
set_option maxRecDepth 100000 in
theorem ck_r12 (i : Nat) : dd_185.2.2.2.1 12 i = 0 := rfl
set_option maxRecDepth 100000 in
theorem ck_r22 (i : Nat) : dd_185.2.2.2.1 22 i = 0 := rfl
set_option maxRecDepth 100000 in
theorem ck_r23 (i : Nat) : dd_185.2.2.2.1 23 i = 0 := rfl
set_option maxRecDepth 100000 in
theorem ck_r24 (i : Nat) : dd_185.2.2.2.1 24 i = 0 := rfl
set_option maxRecDepth 100000 in
theorem ck_r14 (i : Nat) : dd_185.2.2.2.1 14 i = 0 := rfl
set_option maxRecDepth 100000 in
theorem ck_r15 (i : Nat) : dd_185.2.2.2.1 15 i = 0 := rfl
set_option maxRecDepth 100000 in
theorem ck_r16 (i : Nat) : dd_185.2.2.2.1 16 i = 0 := rfl
set_option maxRecDepth 100000 in
theorem ck_r17 (i : Nat) : dd_185.2.2.2.1 17 i = 0 := rfl
set_option maxRecDepth 100000 in
theorem ck_r18 (i : Nat) : dd_185.2.2.2.1 18 i = 0 := rfl
set_option maxRecDepth 100000 in
theorem ck_r19 (i : Nat) : dd_185.2.2.2.1 19 i = 0 := rfl
set_option maxRecDepth 100000 in
theorem ck_r20 (i : Nat) : dd_185.2.2.2.1 20 i = 0 := rfl
set_option maxRecDepth 100000 in
theorem ck_r21 (i : Nat) : dd_185.2.2.2.1 21 i = 0 := rfl
set_option maxRecDepth 100000 in
theorem ck_r38 (i : Nat) : dd_185.2.2.2.1 38 i = 0 := rfl
set_option maxRecDepth 100000 in
theorem ck_r39 (i : Nat) : dd_185.2.2.2.1 39 i = 0 := rfl
set_option maxRecDepth 100000 in
theorem ck_r40 (i : Nat) : dd_185.2.2.2.1 40 i = 0 := rfl
set_option maxRecDepth 100000 in
theorem ck_r42 (i : Nat) : dd_185.2.2.2.1 42 i = 0 := rfl
set_option maxRecDepth 100000 in
theorem ck_r43 (i : Nat) : dd_185.2.2.2.1 43 i = 0 := rfl
set_option maxRecDepth 100000 in
theorem ck_r44 (i : Nat) : dd_185.2.2.2.1 44 i = 0 := rfl
set_option maxRecDepth 100000 in
theorem ck_r45 (i : Nat) : dd_185.2.2.2.1 45 i = 0 := rfl
set_option maxRecDepth 100000 in
theorem ck_r46 (i : Nat) : dd_185.2.2.2.1 46 i = 0 := rfl
set_option maxRecDepth 100000 in
theorem ck_r47 (i : Nat) : dd_185.2.2.2.1 47 i = 0 := rfl
set_option maxRecDepth 100000 in
theorem ck_r48 (i : Nat) : dd_185.2.2.2.1 48 i = 0 := rfl
set_option maxRecDepth 100000 in
theorem ck_r49 (i : Nat) : dd_185.2.2.2.1 49 i = 0 := rfl
set_option maxRecDepth 100000 in
theorem ck_r50 (i : Nat) : dd_185.2.2.2.1 50 i = 0 := rfl
set_option maxRecDepth 100000 in
theorem ck_r51 (i : Nat) : dd_185.2.2.2.1 51 i = 0 := rfl
set_option maxRecDepth 100000 in
theorem ck_r52 (i : Nat) : dd_185.2.2.2.1 52 i = 0 := rfl
set_option maxRecDepth 100000 in
theorem ck_r53 (i : Nat) : dd_185.2.2.2.1 53 i = 0 := rfl
set_option maxRecDepth 100000 in
theorem ck_r54 (i : Nat) : dd_185.2.2.2.1 54 i = 0 := rfl
set_option maxRecDepth 100000 in
theorem ck_r55 (i : Nat) : dd_185.2.2.2.1 55 i = 0 := rfl
set_option maxRecDepth 100000 in
theorem ck_r56 (i : Nat) : dd_185.2.2.2.1 56 i = 0 := rfl
set_option maxRecDepth 100000 in
theorem ck_r57 (i : Nat) : dd_185.2.2.2.1 57 i = 0 := rfl
set_option maxRecDepth 100000 in
theorem ck_r59 (i : Nat) : dd_185.2.2.2.1 59 i = 0 := rfl
set_option maxRecDepth 100000 in
theorem ck_r60 (i : Nat) : dd_185.2.2.2.1 60 i = 0 := rfl
set_option maxRecDepth 100000 in
theorem ck_r61 (i : Nat) : dd_185.2.2.2.1 61 i = 0 := rfl
set_option maxRecDepth 100000 in
theorem ck_r62 (i : Nat) : dd_185.2.2.2.1 62 i = 0 := rfl
set_option maxRecDepth 100000 in
theorem ck_r63 (i : Nat) : dd_185.2.2.2.1 63 i = 0 := rfl
set_option maxRecDepth 100000 in
theorem ck_r64 (i : Nat) : dd_185.2.2.2.1 64 i = 0 := rfl
set_option maxRecDepth 100000 in
theorem ck_r65 (i : Nat) : dd_185.2.2.2.1 65 i = 0 := rfl
set_option maxRecDepth 100000 in
theorem ck_r66 (i : Nat) : dd_185.2.2.2.1 66 i = 0 := rfl
set_option maxRecDepth 100000 in
theorem ck_r67 (i : Nat) : dd_185.2.2.2.1 67 i = 0 := rfl
set_option maxRecDepth 100000 in
theorem ck_r68 (i : Nat) : dd_185.2.2.2.1 68 i = 0 := rfl
set_option maxRecDepth 100000 in
theorem ck_r69 (i : Nat) : dd_185.2.2.2.1 69 i = 0 := rfl
set_option maxRecDepth 100000 in
theorem ck_r70 (i : Nat) : dd_185.2.2.2.1 70 i = 0 := rfl
set_option maxRecDepth 100000 in
theorem ck_r71 (i : Nat) : dd_185.2.2.2.1 71 i = 0 := rfl
set_option maxRecDepth 100000 in
theorem ck_r72 (i : Nat) : dd_185.2.2.2.1 72 i = 0 := rfl
theorem ite_a {p : Prop} {i : Nat} (hp : p) [Decidable p] : (if p ∧ i < 100 then (5 : Int32) else 0) = if i < 100 then 5 else 0 := by
  by_cases h : i < 100
  · rw [if_pos ⟨hp, h⟩, if_pos h]
  · rw [if_neg (fun w => h w.2), if_neg h]
theorem zz_3 {i : Nat} : zz_0 3 i = if i < 100 then 5 else 0 := ite_a (p := 3 = 3) rfl
theorem zz_32 {i : Nat} : zz_0 32 i = if 32 = 32 ∧ i < 4 then -1 else 0 := rfl
theorem ck_AI : ∀ j, j < 16 → ∀ i, dd_185.2.2.2.1 (ds_wt 12 j) i = zz_0 (cv_ac j) i
  | 0, _, i => ck_r25 i
  | 1, _, i => ck_r26 i
  | 2, _, i => ((ck_r6 i).trans (ite_a rfl)).trans zz_3.symm
  | 3, _, i => ck_r7 i
  | 4, _, i => ck_r12 i
  | 5, _, i => ck_r22 i
  | 6, _, i => ck_r23 i
  | 7, _, i => ck_r24 i
  | 8, _, i => ck_r14 i
  | 9, _, i => ck_r15 i
  | 10, _, i => ck_r16 i
  | 11, _, i => ck_r17 i
  | 12, _, i => ck_r18 i
  | 13, _, i => ck_r19 i
  | 14, _, i => ck_r20 i
  | 15, _, i => ck_r21 i
  | j + 16, h, _ => absurd h (by omega)
theorem ck_MI : ∀ k, k < 49 → bh_isR 11 k = true → ∀ i, dd_185.2.2.2.1 (ds_rt k) i = xs_mg zz_0 yy_0 k i
  | 0, _, _, i => ck_r38 i
  | 1, _, _, i => ck_r39 i
  | 2, _, _, i => ck_r40 i
  | 3, _, _, i => ((ck_r41 i).trans (ite_a rfl)).trans zz_3.symm
  | 4, _, _, i => ck_r42 i
  | 5, _, _, i => ck_r43 i
  | 6, _, h, _ => by cases h
  | 7, _, h, _ => by cases h
  | 8, _, h, _ => by cases h
  | 9, _, h, _ => by cases h
  | 10, _, h, _ => by cases h
  | 11, _, h, _ => by cases h
  | 12, _, h, _ => by cases h
  | 13, _, h, _ => by cases h
  | 14, _, h, _ => by cases h
  | 15, _, h, _ => by cases h
  | 16, _, h, _ => by cases h
  | 17, _, h, _ => by cases h
  | 18, _, _, i => ck_r44 i
  | 19, _, _, i => ck_r45 i
  | 20, _, _, i => ck_r46 i
  | 21, _, _, i => ck_r47 i
  | 22, _, _, i => ck_r48 i
  | 23, _, _, i => ck_r49 i
  | 24, _, _, i => ck_r50 i
  | 25, _, _, i => ck_r51 i
  | 26, _, _, i => ck_r52 i
  | 27, _, _, i => ck_r53 i
  | 28, _, _, i => ck_r54 i
  | 29, _, _, i => ck_r55 i
  | 30, _, _, i => ck_r56 i
  | 31, _, _, i => ck_r57 i
  | 32, _, _, i => by
    refine (ck_r58 i).trans ?_
    show _ = zz_0 32 i
    rw [zz_32]
    match i with
    | 0 => rfl
    | 1 => rfl
    | 2 => rfl
    | 3 => rfl
    | n + 4 => rw [if_neg (by omega), if_neg (by omega), if_neg (by omega), if_neg (by omega), if_neg (by omega)]
  | 33, _, _, i => ck_r59 i
  | 34, _, _, i => ck_r60 i
  | 35, _, _, i => ck_r61 i
  | 36, _, _, i => ck_r62 i
  | 37, _, _, i => ck_r63 i
  | 38, _, _, i => ck_r64 i
  | 39, _, _, i => ck_r65 i
  | 40, _, _, i => ck_r66 i
  | 41, _, _, i => ck_r67 i
  | 42, _, _, i => ck_r68 i
  | 43, _, _, i => ck_r69 i
  | 44, _, h, _ => by cases h
  | 45, _, _, i => ck_r70 i
  | 46, _, _, i => ck_r71 i
  | 47, _, _, i => ck_r72 i
  | 48, _, h, _ => by cases h
  | k + 49, h, _, _ => absurd h (by omega)
theorem ad_w {z e0 t j : Nat} : ds_ad z e0 (ds_wt t j + 1) = ds_w z t j := rfl
theorem st_cv {z e0 : Nat} {σ : bh_S} (h : DS z e0 dd_185 σ) : cv_R (ds_w z) 0 0 (z + 37) (bh_z σ) (bh_n σ) σ (fun _ => 0) 0 σ zz_0 := by
  obtain ⟨h1, h2, h3, ⟨h4, h5, h6⟩, h7⟩ := h
  have e73 : dd_185.1 = 73 := ck_n.1
  rw [e73] at h1 h7
  refine ⟨fun _ => e0, fun c i hi => ?_, fun c k i ht hi => ?_, ⟨fun c k t j hc => ?_, ?_, ?_, ?_⟩, ⟨by omega, fun j hj => ?_⟩, ⟨by decide, ⟨?_, ?_, ?_⟩, fun j hj => ?_⟩, fun i hi => by omega, ⟨by omega, by omega, ?_, ?_, ?_⟩, cv_F.rf⟩
  · obtain ⟨c11, i6⟩ := cv_cn_lt hi
    obtain ⟨a1, a2, a3⟩ := ck_O1 c c11 i i6 hi
    have a5 := ck_O3 c c11 i i6 hi
    obtain ⟨g1, g2, g3, g4⟩ := h7 (ds_wt c i) a1
    refine ⟨g1.trans a2, ?_, fun j hj e => ?_, fun k hk => ?_⟩
    · show z + ds_wt c i < bh_z σ
      omega
    · have e : z + ds_wt c j = z + ds_wt c i := e
      exact ck_O2 c c11 i i6 j (cv_cn_lt hj).2 ⟨hi, hj, by omega⟩
    · have := g3 (by rw [a2]; exact a3) k
      rw [a2] at this
      exact this.trans (a5 k (cv_fd_lt (cv_iF_fd hk)).2 hk)
  · rcases cv_tk_ne ht with ⟨rfl, rfl⟩ | ⟨rfl, rfl⟩ | ⟨rfl, rfl⟩
    · exact absurd hi (Nat.not_lt_zero i)
    · have hi : i < 4 := hi
      obtain ⟨a1, a2, a3⟩ := ck_V i hi
      obtain ⟨g1, g2, g3, g4⟩ := h7 (33 + i) a1
      have e := g4 (by rw [a2]; decide) 1
      rw [a2, a3] at e
      have ez : xs_rf (zz_0 (cv_cd 2 1) i) = none := by
        show xs_rf (zz_0 32 i) = none
        rw [zz_32, if_pos ⟨rfl, hi⟩]
        decide
      rw [ez]
      exact ⟨e, fun j hj => by cases hj⟩
    · exact absurd hi (Nat.not_lt_zero i)
  · obtain ⟨c11, k10⟩ := cv_ct_lt hc
    rcases ck_C c c11 k k10 with e | ⟨e, a1, a2, a3⟩
    · rw [e] at hc
      cases hc
    · obtain ⟨g1, g2, g3, g4⟩ := h7 (ds_wt c 0) a1
      have q := g4 (by rw [a2]; exact a3) k
      rw [a2, e, hc] at q
      exact q
  · obtain ⟨g1, g2, g3, g4⟩ := h7 1 (by omega)
    refine ⟨g1.trans ck_C1.1, ?_, g2.trans ck_C1.2.1, fun i hi => ?_⟩
    · show z + 1 < bh_z σ
      omega
    · have q := g4 (by rw [ck_C1.1]; decide) i
      rw [ck_C1.1, ck_C1.2.2 i hi] at q
      exact q
  · obtain ⟨g1, g2, g3, g4⟩ := h7 3 (by omega)
    refine ⟨g1.trans ck_C2.1, ?_, g2.trans ck_C2.2.1, fun i hi => ?_⟩
    · show z + 3 < bh_z σ
      omega
    · have q := g4 (by rw [ck_C2.1]; decide) i
      rw [ck_C2.1, ck_C2.2.2 i hi] at q
      exact q
  · obtain ⟨g1, g2, g3, g4⟩ := h7 13 (by omega)
    refine ⟨g1.trans ck_C3.1, ?_, g2.trans ck_C3.2.1, fun i hi => ?_⟩
    · show z + 13 < bh_z σ
      omega
    · have q := g4 (by rw [ck_C3.1]; decide) i
      rw [ck_C3.1, ck_C3.2.2 i hi] at q
      exact q
  · obtain ⟨⟨a1, a2, a3⟩, a4⟩ := ck_A j hj
    obtain ⟨g1, g2, g3, g4⟩ := h7 (ds_wt 12 j) (by omega)
    refine ⟨g1.trans a2, g2.trans a3, ?_, fun j' hj' e => ?_, fun i => ?_⟩
    · show z + ds_wt 12 j < z + 37
      omega
    · have e : z + ds_wt 12 j' = z + ds_wt 12 j := e
      exact a4 j' hj' (by omega)
    · have := g3 (by rw [a2]; decide) i
      rw [a2] at this
      exact this.trans (ck_AI j hj i)
  · rw [h3]; exact h4
  · rw [h3]; exact h5
  · rw [h3]; omega
  · obtain ⟨⟨a1, a2, a3, a4, a5, a6⟩, a7⟩ := ck_S j hj
    obtain ⟨g1, g2, g3, g4⟩ := h7 (ds_wt 0 j) a1
    have q1 := g3 (by rw [a2]; decide) 2
    rw [a2, a3] at q1
    have q2 := g4 (by rw [a2]; decide) 1
    rw [a2, a6] at q2
    refine ⟨⟨g1.trans a2, ?_, fun j' hj' e => ?_⟩, ⟨q1, a4⟩, q2, h4, (show e0 < bh_z σ by omega), by omega, fun i hi => by omega, fun _ => h3.symm, fun w => absurd h5 w⟩
    · show z + ds_wt 0 j < bh_z σ
      omega
    · have e : z + ds_wt 0 j' = z + ds_wt 0 j := e
      exact a7 j' hj' (by omega)
  · show bh_L σ e0 ≤ 5000
    omega
  · show bh_L σ e0 ≤ 60
    omega
  · show bh_L σ e0 ≤ 60
    omega
theorem st_mo {z e0 : Nat} {σ : bh_S} (h : DS z e0 dd_185 σ) : mo_R (z + 37) (ds_rr z) (z + 37) σ (xs_mg zz_0 yy_0) := by
  obtain ⟨h1, h2, h3, ⟨h4, h5, h6⟩, h7⟩ := h
  have e73 : dd_185.1 = 73 := ck_n.1
  rw [e73] at h1 h7
  have m1 := ck_M1
  have m2 := ck_M2
  have m3 := ck_M3
  have m4 := ck_M4
  obtain ⟨g1, g2, g3, g4⟩ := h7 37 (by omega)
  rw [m1] at g1 g3 g4
  refine ⟨⟨g1, by omega⟩, fun k hk => ?_, fun k k' hk hk' e => ?_, fun k hk hr => ?_⟩
  · obtain ⟨a1, a2, a3, a4, a5, a6⟩ := m2 k (isR_lt hk) hk
    obtain ⟨b1, b2, b3, b4⟩ := h7 (ds_rt k) a1
    refine ⟨?_, b1.trans a4, b2.trans a5, ?_, ?_, fun i => ?_⟩
    · rw [g4 (by decide) k, a3]
      rfl
    · show z + 37 ≤ z + ds_rt k
      omega
    · show z + ds_rt k < bh_z σ
      omega
    · have := b3 (by rw [a4]; exact a6) i
      rw [a4] at this
      exact this.trans (ck_MI k (isR_lt hk) hk i)
  · have e : z + ds_rt k = z + ds_rt k' := e
    exact m3 k (isR_lt hk) hk k' (isR_lt hk') hk' (by omega)
  · rw [g3 (by decide) k]
    exact m4 k hk hr
theorem st_LI {z e0 : Nat} {σ : bh_S} (h : DS z e0 dd_185 σ) : LI (z + 0) (z + 37) (z + 37) (bh_z σ) (bh_n σ) (ds_rr z) σ := ⟨ds_w z, 0, 0, fun _ => 0, 0, zz_0, yy_0, rfl, st_cv h, st_mo h, 0, 0, 0, RI0⟩
