theorem li_room {a1 a7 mb z1 n1 : Nat} {rr : Nat → Nat} {σ : bh_S} (h : LI a1 a7 mb z1 n1 rr σ) : bh_z σ ≤ z1 + 60000 ∧ bh_n σ ≤ n1 + 1300000 := by
  obtain ⟨w, nf, nl, lp, np, Z, Y, -, ⟨ea, -, -, -, -, -, -, hQ, -⟩, -, nf2, nl2, np2, hR⟩ := h
  obtain ⟨q1, q2, q3, -⟩ := hQ
  have hA := hR.1.1
  obtain ⟨t1, t2⟩ := hR.1.2.2.2.2.2.2.2.2
  have a1 := hA.1.1
  have a2 := hA.1.2.1
  have a3 := hA.2.2.1.2
  have e : (Z 90 0).toNatClampNeg ≤ 19300 := by
    rw [i32_nat]
    omega
  omega
theorem pu_law (N L : Nat) (xs : Nat → Int32) (hN : 4000 ≤ N) (hL : L ≤ 3072) (z e0 : Nat) (he : e0 < z) : ∃ σ', f_L_law N L xs (bh_ini z e0) = some (1, σ') ∧ bh_z σ' ≤ z + 600000 ∧ bh_n σ' ≤ 7302250 := by
  have h0 : DS z e0 dd_0 (bh_ini z e0) := ⟨rfl, rfl, rfl, ⟨if_pos rfl, rfl, he⟩, fun i hi => absurd hi (Nat.not_lt_zero i)⟩
  have h1 : DS z e0 dd_1 (bh_new (bh_ini z e0) 10 12 0) := h0.push
  obtain ⟨σ2, e2, h2⟩ := st_X9 hN h1
  have h3 : DS z e0 dd_109 (bh_new σ2 11 49 0) := h2.push
  have ez : bh_z σ2 = z + 37 := by
    rw [h2.1, show dd_108.1 = 37 by decide +kernel]
  obtain ⟨σ4, e4, h4⟩ := st_X10 hN h3
  obtain ⟨σ', e5, h5⟩ := lw_loop (xs := xs) hN hL 513 0 N σ4 (by omega) (by omega) (st_LI h4)
  refine ⟨σ', ?_, ?_⟩
  · unfold f_L_law
    unfold bh_newO
    rw [bh_bnd_some, show bh_z (bh_ini z e0) = z + 0 from rfl, e2, bh_bnd_some, bh_bnd_some, ez, e4, bh_bnd_some]
    exact e5
  · have r := li_room h5
    have s1 : bh_z σ4 = z + 73 := by rw [h4.1, ck_n.1]
    have s2 : bh_n σ4 ≤ 100000 := by rw [h4.2.1]; exact ck_n.2
    omega
