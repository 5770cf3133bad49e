/-! ===== the start: both constructors, over a memory by places ===== -/
-- how many, kinds, lengths, numbers, references (0: the empty row, i + 1: place i), slots
abbrev ds_M : Type := Nat × (Nat → Nat) × (Nat → Nat) × (Nat → Nat → Int32) × (Nat → Nat → Option Nat) × Nat
def ds_ad (z e0 : Nat) (i : Nat) : Nat := match i with
  | 0 => e0
  | j + 1 => z + j
def ds_push (δ : ds_M) (c M n : Nat) : ds_M := (δ.1 + 1, (fun i => if i = δ.1 then c else δ.2.1 i), (fun i => if i = δ.1 then n else δ.2.2.1 i), (fun i k => if i = δ.1 then 0 else δ.2.2.2.1 i k), (fun i k => if i = δ.1 then none else δ.2.2.2.2.1 i k), δ.2.2.2.2.2 + M)
def ds_I (δ : ds_M) (i k : Nat) (v : Int32) : ds_M := (δ.1, δ.2.1, δ.2.2.1, (fun i' k' => if i' = i ∧ k' = k then v else δ.2.2.2.1 i' k'), δ.2.2.2.2)
def ds_R (δ : ds_M) (i k : Nat) (v : Option Nat) : ds_M := (δ.1, δ.2.1, δ.2.2.1, δ.2.2.2.1, (fun i' k' => if i' = i ∧ k' = k then v else δ.2.2.2.2.1 i' k'), δ.2.2.2.2.2)
def ds_rows (δ : ds_M) (n k : Nat) : ds_M := (δ.1 + 1 + n, (fun i => if i = δ.1 then 17 else if δ.1 < i ∧ i ≤ δ.1 + n then 12 else δ.2.1 i), (fun i => if i = δ.1 then n else if δ.1 < i ∧ i ≤ δ.1 + n then k else δ.2.2.1 i), (fun i j => if δ.1 < i ∧ i ≤ δ.1 + n then 0 else δ.2.2.2.1 i j), (fun i j => if i = δ.1 then (if j < n then some (δ.1 + 1 + j + 1) else none) else δ.2.2.2.2.1 i j), δ.2.2.2.2.2 + n + n * k)
def ds_fill (δ : ds_M) (i d : Nat) : ds_M := (δ.1, δ.2.1, δ.2.2.1, (fun i' k' => if i' = i ∧ k' < d then 5 else δ.2.2.2.1 i' k'), δ.2.2.2.2)
theorem ds_fill0 {δ : ds_M} {i : Nat} : ds_fill δ i 0 = δ := by
  obtain ⟨a, b, c, d, e⟩ := δ
  show (a, b, c, (fun i' k' => if i' = i ∧ k' < 0 then (5 : Int32) else d i' k'), e) = (a, b, c, d, e)
  congr
  funext i' k'
  rw [if_neg (by omega)]
theorem ds_fillS {δ : ds_M} {i j : Nat} : ds_I (ds_fill δ i j) i j 5 = ds_fill δ i (j + 1) := by
  obtain ⟨a, b, c, d, e⟩ := δ
  show (a, b, c, (fun i' k' => if i' = i ∧ k' = j then (5 : Int32) else if i' = i ∧ k' < j then 5 else d i' k'), e) = (a, b, c, (fun i' k' => if i' = i ∧ k' < j + 1 then (5 : Int32) else d i' k'), e)
  congr
  funext i' k'
  by_cases q1 : i' = i ∧ k' = j
  · rw [if_pos q1, if_pos (by omega)]
  · rw [if_neg q1]
    by_cases q2 : i' = i ∧ k' < j
    · rw [if_pos q2, if_pos (by omega)]
    · rw [if_neg q2, if_neg (by omega)]
def DS (z e0 : Nat) (δ : ds_M) (σ : bh_S) : Prop := bh_z σ = z + δ.1 ∧ bh_n σ = δ.2.2.2.2.2 ∧ bh_e σ = e0 ∧ (bh_K σ e0 = 16 ∧ bh_L σ e0 = 0 ∧ e0 < z) ∧ ∀ i, i < δ.1 → bh_K σ (z + i) = δ.2.1 i ∧ bh_L σ (z + i) = δ.2.2.1 i ∧ (δ.2.1 i ≠ 17 → ∀ k, bh_I σ (δ.2.1 i) (z + i) k = δ.2.2.2.1 i k) ∧ (δ.2.1 i ≠ 12 → ∀ k, bh_R σ (δ.2.1 i) (z + i) k = (δ.2.2.2.2.1 i k).map (ds_ad z e0))
section DS0
variable {z e0 : Nat} {δ : ds_M} {σ : bh_S} {i k c : Nat}
theorem DS.push {M n : Nat} (h : DS z e0 δ σ) : DS z e0 (ds_push δ c M n) (bh_new σ c M n) := by
  obtain ⟨h1, h2, h3, ⟨h4, h5, h6⟩, h7⟩ := h
  have hz : ¬ e0 = bh_z σ := by omega
  refine ⟨?_, ?_, h3, ⟨?_, ?_, h6⟩, fun i hi => ?_⟩
  · show bh_z σ + 1 = z + (δ.1 + 1)
    omega
  · show bh_n σ + M = δ.2.2.2.2.2 + M
    rw [h2]
  · show (if e0 = bh_z σ then c else bh_K σ e0) = 16
    rw [if_neg hz, h4]
  · show (if e0 = bh_z σ then n else bh_L σ e0) = 0
    rw [if_neg hz, h5]
  · have hi : i < δ.1 + 1 := hi
    show (if z + i = bh_z σ then c else bh_K σ (z + i)) = (if i = δ.1 then c else δ.2.1 i) ∧ (if z + i = bh_z σ then n else bh_L σ (z + i)) = (if i = δ.1 then n else δ.2.2.1 i) ∧ ((if i = δ.1 then c else δ.2.1 i) ≠ 17 → ∀ k, (if (if i = δ.1 then c else δ.2.1 i) = c ∧ z + i = bh_z σ then 0 else bh_I σ (if i = δ.1 then c else δ.2.1 i) (z + i) k) = (if i = δ.1 then 0 else δ.2.2.2.1 i k)) ∧ ((if i = δ.1 then c else δ.2.1 i) ≠ 12 → ∀ k, (if (if i = δ.1 then c else δ.2.1 i) = c ∧ z + i = bh_z σ then none else bh_R σ (if i = δ.1 then c else δ.2.1 i) (z + i) k) = (if i = δ.1 then none else δ.2.2.2.2.1 i k).map (ds_ad z e0))
    by_cases q : i = δ.1
    · have q2 : z + i = bh_z σ := by omega
      simp only [if_pos q, if_pos q2]
      exact ⟨trivial, trivial, fun _ _ => if_pos ⟨trivial, q2⟩, fun _ _ => if_pos ⟨trivial, q2⟩⟩
    · have q2 : ¬ z + i = bh_z σ := by omega
      simp only [if_neg q, if_neg q2]
      obtain ⟨g1, g2, g3, g4⟩ := h7 i (by omega)
      refine ⟨g1, g2, fun hk k => ?_, fun hk k => ?_⟩
      · rw [if_neg (fun w => q2 w.2)]
        exact g3 hk k
      · rw [if_neg (fun w => q2 w.2)]
        exact g4 hk k
theorem DS.setI {v : Int32} (h : DS z e0 δ σ) (hi : i < δ.1) (hc : δ.2.1 i = c) : DS z e0 (ds_I δ i k v) (bh_setI σ c (z + i) k v) := by
  obtain ⟨h1, h2, h3, h4, h7⟩ := h
  refine ⟨h1, h2, h3, h4, fun j hj => ?_⟩
  obtain ⟨g1, g2, g3, g4⟩ := h7 j hj
  refine ⟨g1, g2, fun hk k' => ?_, g4⟩
  show (if δ.2.1 j = c ∧ z + j = z + i ∧ k' = k then v else bh_I σ (δ.2.1 j) (z + j) k') = (if j = i ∧ k' = k then v else δ.2.2.2.1 j k')
  by_cases q : j = i ∧ k' = k
  · rw [if_pos q, if_pos ⟨by rw [q.1]; exact hc, by omega, q.2⟩]
  · rw [if_neg q, if_neg (fun w => q ⟨by omega, w.2.2⟩)]
    exact g3 hk k'
theorem DS.setR {v : Option Nat} (h : DS z e0 δ σ) (hi : i < δ.1) (hc : δ.2.1 i = c) : DS z e0 (ds_R δ i k v) (bh_setR σ c (z + i) k (v.map (ds_ad z e0))) := by
  obtain ⟨h1, h2, h3, h4, h7⟩ := h
  refine ⟨h1, h2, h3, h4, fun j hj => ?_⟩
  obtain ⟨g1, g2, g3, g4⟩ := h7 j hj
  refine ⟨g1, g2, g3, fun hk k' => ?_⟩
  show (if δ.2.1 j = c ∧ z + j = z + i ∧ k' = k then v.map (ds_ad z e0) else bh_R σ (δ.2.1 j) (z + j) k') = (if j = i ∧ k' = k then v else δ.2.2.2.2.1 j k').map (ds_ad z e0)
  by_cases q : j = i ∧ k' = k
  · rw [if_pos q, if_pos ⟨by rw [q.1]; exact hc, by omega, q.2⟩]
  · rw [if_neg q, if_neg (fun w => q ⟨by omega, w.2.2⟩)]
    exact g4 hk k'
theorem DS.rows {n q : Nat} (h : DS z e0 δ σ) : DS z e0 (ds_rows δ n q) (bh_newMs σ n q) := by
  obtain ⟨h1, h2, h3, ⟨h4, h5, h6⟩, h7⟩ := h
  have hz : ¬ e0 = bh_z σ := by omega
  have hz2 : ¬ (bh_z σ < e0 ∧ e0 ≤ bh_z σ + n) := by omega
  refine ⟨?_, ?_, h3, ⟨?_, ?_, h6⟩, fun i hi => ?_⟩
  · show bh_z σ + 1 + n = z + (δ.1 + 1 + n)
    omega
  · show bh_n σ + n + n * q = δ.2.2.2.2.2 + n + n * q
    rw [h2]
  · show (if e0 = bh_z σ then 17 else if bh_z σ < e0 ∧ e0 ≤ bh_z σ + n then 12 else bh_K σ e0) = 16
    rw [if_neg hz, if_neg hz2, h4]
  · show (if e0 = bh_z σ then n else if bh_z σ < e0 ∧ e0 ≤ bh_z σ + n then q else bh_L σ e0) = 0
    rw [if_neg hz, if_neg hz2, h5]
  · have hi : i < δ.1 + 1 + n := hi
    have eK : bh_K (bh_newMs σ n q) (z + i) = (if z + i = bh_z σ then 17 else if bh_z σ < z + i ∧ z + i ≤ bh_z σ + n then 12 else bh_K σ (z + i)) := rfl
    have eL : bh_L (bh_newMs σ n q) (z + i) = (if z + i = bh_z σ then n else if bh_z σ < z + i ∧ z + i ≤ bh_z σ + n then q else bh_L σ (z + i)) := rfl
    have eI : ∀ c j, bh_I (bh_newMs σ n q) c (z + i) j = (if c = 12 ∧ bh_z σ < z + i ∧ z + i ≤ bh_z σ + n then 0 else bh_I σ c (z + i) j) := fun _ _ => rfl
    have eR : ∀ c j, bh_R (bh_newMs σ n q) c (z + i) j = (if c = 17 ∧ z + i = bh_z σ then (if j < n then some (bh_z σ + 1 + j) else none) else bh_R σ c (z + i) j) := fun _ _ => rfl
    have dK : (ds_rows δ n q).2.1 i = (if i = δ.1 then 17 else if δ.1 < i ∧ i ≤ δ.1 + n then 12 else δ.2.1 i) := rfl
    have dL : (ds_rows δ n q).2.2.1 i = (if i = δ.1 then n else if δ.1 < i ∧ i ≤ δ.1 + n then q else δ.2.2.1 i) := rfl
    have dI : ∀ j, (ds_rows δ n q).2.2.2.1 i j = (if δ.1 < i ∧ i ≤ δ.1 + n then 0 else δ.2.2.2.1 i j) := fun _ => rfl
    have dR : ∀ j, (ds_rows δ n q).2.2.2.2.1 i j = (if i = δ.1 then (if j < n then some (δ.1 + 1 + j + 1) else none) else δ.2.2.2.2.1 i j) := fun _ => rfl
    by_cases a : i = δ.1
    · have a2 : z + i = bh_z σ := by omega
      rw [if_pos a] at dK dL
      rw [if_pos a2] at eK eL
      rw [dK, dL, eK, eL]
      refine ⟨rfl, rfl, fun hk => absurd rfl hk, fun _ k => ?_⟩
      rw [eR, dR, if_pos ⟨rfl, a2⟩, if_pos a]
      by_cases b : k < n
      · rw [if_pos b, if_pos b]
        show some (bh_z σ + 1 + k) = some (z + (δ.1 + 1 + k))
        rw [h1]
        congr 1
        omega
      · rw [if_neg b, if_neg b]
        rfl
    · have a2 : ¬ z + i = bh_z σ := by omega
      rw [if_neg a] at dK dL
      rw [if_neg a2] at eK eL
      by_cases b : δ.1 < i ∧ i ≤ δ.1 + n
      · have b2 : bh_z σ < z + i ∧ z + i ≤ bh_z σ + n := by omega
        rw [if_pos b] at dK dL
        rw [if_pos b2] at eK eL
        rw [dK, dL, eK, eL]
        refine ⟨rfl, rfl, fun _ k => ?_, fun hk => absurd rfl hk⟩
        rw [eI, dI, if_pos ⟨rfl, b2⟩, if_pos b]
      · have b2 : ¬ (bh_z σ < z + i ∧ z + i ≤ bh_z σ + n) := by omega
        rw [if_neg b] at dK dL
        rw [if_neg b2] at eK eL
        rw [dK, dL, eK, eL]
        obtain ⟨g1, g2, g3, g4⟩ := h7 i (by omega)
        refine ⟨g1, g2, fun hk k => ?_, fun hk k => ?_⟩
        · rw [eI, dI, if_neg (fun w => b2 w.2), if_neg b]
          exact g3 hk k
        · rw [eR, dR, if_neg (fun w => a2 w.2), if_neg a]
          exact g4 hk k
end DS0
def DE (z e0 : Nat) (δE : ds_M) (o : Option (Unit × bh_S)) : Prop := ∃ σ', o = some ((), σ') ∧ DS z e0 δE σ'
section DS1
variable {z e0 : Nat} {δ δ' δE : ds_M} {σ : bh_S} {i j k c q M : Nat} {fs : bh_S → Option (Unit × bh_S)}
theorem dk_ret (h : DS z e0 δE σ) : DE z e0 δE (some ((), σ)) := ⟨σ, rfl, h⟩
theorem dk_call {o : Option (Unit × bh_S)} {f : Unit → bh_S → Option (Unit × bh_S)} (hc : DE z e0 δ' o) (kk : ∀ σ', DS z e0 δ' σ' → DE z e0 δE (f () σ')) : DE z e0 δE (bh_bnd o f) := by
  obtain ⟨σ', e, h⟩ := hc
  rw [e]
  exact kk σ' h
theorem dk_newO {f : Nat → bh_S → Option (Unit × bh_S)} (h : DS z e0 δ σ) (hm : δ.1 = i) (hd : ds_push δ c M 0 = δ') (kk : ∀ σ', DS z e0 δ' σ' → DE z e0 δE (f (z + i) σ')) : DE z e0 δE (bh_bnd (bh_newO σ c M) f) := by
  subst hm
  subst hd
  have := kk _ h.push
  rw [← h.1] at this
  exact this
theorem dk_newA {f : Nat → bh_S → Option (Unit × bh_S)} {n : Int32} (h : DS z e0 δ σ) (hm : δ.1 = i) (hn : ¬ n < 0 ∧ n.toNatClampNeg ≤ 100000) (hq : n.toNatClampNeg = q) (hd : ds_push δ c q q = δ') (kk : ∀ σ', DS z e0 δ' σ' → DE z e0 δE (f (z + i) σ')) : DE z e0 δE (bh_bnd (bh_newA σ c n) f) := by
  subst hm
  subst hd
  subst hq
  have := kk _ h.push
  rw [← h.1] at this
  unfold bh_newA
  rw [if_pos hn]
  exact this
theorem dk_newM {f : Nat → bh_S → Option (Unit × bh_S)} {n k : Int32} {p : Nat} (h : DS z e0 δ σ) (hm : δ.1 = i) (hn : (¬ n < 0 ∧ ¬ k < 0) ∧ n.toNatClampNeg ≤ 1000 ∧ k.toNatClampNeg ≤ 1000) (hq : n.toNatClampNeg = q) (hp : k.toNatClampNeg = p) (hd : ds_rows δ q p = δ') (kk : ∀ σ', DS z e0 δ' σ' → DE z e0 δE (f (z + i) σ')) : DE z e0 δE (bh_bnd (bh_newM σ n k) f) := by
  subst hm
  subst hd
  subst hq
  subst hp
  have := kk _ h.rows
  rw [← h.1] at this
  unfold bh_newM
  rw [if_pos hn]
  exact this
theorem dk_wrI {v : Int32} (h : DS z e0 δ σ) (hi : i < δ.1) (hc : δ.2.1 i = c) (hd : ds_I δ i k v = δ') (kk : ∀ σ', DS z e0 δ' σ' → DE z e0 δE (fs σ')) : DE z e0 δE ((bh_wrI σ c (z + i) k v).bind fs) := by
  subst hd
  unfold bh_wrI
  rw [if_pos ((h.2.2.2.2 i hi).1.trans hc)]
  exact kk _ (h.setI hi hc)
theorem dk_wrZ {v : Int32} (h : DS z e0 δ σ) (hi : i < δ.1) (hc : δ.2.1 i = c) (hv : v = 0 ∨ v = 1) (hd : ds_I δ i k v = δ') (kk : ∀ σ', DS z e0 δ' σ' → DE z e0 δE (fs σ')) : DE z e0 δE ((bh_wrZ σ c (z + i) k v).bind fs) := by
  subst hd
  unfold bh_wrZ
  rw [if_pos ⟨(h.2.2.2.2 i hi).1.trans hc, hv⟩]
  exact kk _ (h.setI hi hc)
theorem dk_wrR (h : DS z e0 δ σ) (hi : i < δ.1) (hc : δ.2.1 i = c) (hd : ds_R δ i k (some (j + 1)) = δ') (kk : ∀ σ', DS z e0 δ' σ' → DE z e0 δE (fs σ')) : DE z e0 δE ((bh_wrR σ c (z + i) k (some (z + j))).bind fs) := by
  subst hd
  unfold bh_wrR
  rw [if_pos ((h.2.2.2.2 i hi).1.trans hc)]
  exact kk _ (h.setR (v := some (j + 1)) hi hc)
theorem dk_wrE (h : DS z e0 δ σ) (hi : i < δ.1) (hc : δ.2.1 i = c) (hd : ds_R δ i k (some 0) = δ') (kk : ∀ σ', DS z e0 δ' σ' → DE z e0 δE (fs σ')) : DE z e0 δE ((bh_wrR σ c (z + i) k (some (bh_e σ))).bind fs) := by
  subst hd
  unfold bh_wrR
  rw [if_pos ((h.2.2.2.2 i hi).1.trans hc), h.2.2.1]
  exact kk _ (h.setR (v := some 0) hi hc)
theorem dk_wrN (h : DS z e0 δ σ) (hi : i < δ.1) (hc : δ.2.1 i = c) (hd : ds_R δ i k none = δ') (kk : ∀ σ', DS z e0 δ' σ' → DE z e0 δE (fs σ')) : DE z e0 δE ((bh_wrR σ c (z + i) k none).bind fs) := by
  subst hd
  unfold bh_wrR
  rw [if_pos ((h.2.2.2.2 i hi).1.trans hc)]
  exact kk _ (h.setR (v := none) hi hc)
theorem dk_stI {x v : Int32} (h : DS z e0 δ σ) (hi : i < δ.1) (hc : δ.2.1 i = c) (hx : ¬ (x < 0 ∨ δ.2.2.1 i ≤ x.toNatClampNeg)) (hq : x.toNatClampNeg = q) (hd : ds_I δ i q v = δ') (kk : ∀ σ', DS z e0 δ' σ' → DE z e0 δE (fs σ')) : DE z e0 δE ((bh_stI σ c (z + i) x v).bind fs) := by
  subst hd
  subst hq
  unfold bh_stI
  rw [(h.2.2.2.2 i hi).2.1, if_pos ⟨(h.2.2.2.2 i hi).1.trans hc, hx⟩]
  exact kk _ (h.setI hi hc)
theorem dk_stR {x : Int32} (h : DS z e0 δ σ) (hi : i < δ.1) (hc : δ.2.1 i = c) (hx : ¬ (x < 0 ∨ δ.2.2.1 i ≤ x.toNatClampNeg)) (hq : x.toNatClampNeg = q) (hj : j < δ.1) (hm : ((c == 14 && δ.2.1 j == 1) || (c == 15 && δ.2.1 j == 2)) = true) (hd : ds_R δ i q (some (j + 1)) = δ') (kk : ∀ σ', DS z e0 δ' σ' → DE z e0 δE (fs σ')) : DE z e0 δE ((bh_stR σ c (z + i) x (some (z + j))).bind fs) := by
  subst hd
  subst hq
  have hl : bh_mayLie σ c (some (z + j)) = true := by
    show ((c == 14 && bh_K σ (z + j) == 1) || (c == 15 && bh_K σ (z + j) == 2) || (c == 16 && decide (bh_K σ (z + j) < 12))) = true
    rw [(h.2.2.2.2 j hj).1, hm]
    rfl
  unfold bh_stR
  rw [(h.2.2.2.2 i hi).2.1, if_pos ⟨(h.2.2.2.2 i hi).1.trans hc, hx, hl⟩]
  exact kk _ (h.setR (v := some (j + 1)) hi hc)
theorem dk_rdR {f : Option Nat → Option (Unit × bh_S)} (h : DS z e0 δ σ) (hi : i < δ.1) (hc : δ.2.1 i = c) (h12 : c ≠ 12) (hr : δ.2.2.2.2.1 i k = some (j + 1)) (kk : DE z e0 δE (f (some (z + j)))) : DE z e0 δE ((bh_rdR σ c (z + i) k).bind f) := by
  obtain ⟨g1, -, -, g4⟩ := h.2.2.2.2 i hi
  have e : bh_R σ c (z + i) k = some (z + j) := by
    rw [← hc, g4 (by rw [hc]; exact h12) k, hr]
    rfl
  unfold bh_rdR
  rw [if_pos (g1.trans hc), e]
  exact kk
theorem dk_nn {a : Nat} {f : Nat → Option (Unit × bh_S)} (kk : DE z e0 δE (f a)) : DE z e0 δE ((some a).bind f) := kk
theorem dk_fill7 {N i ia : Nat} (hi : i < δ.1) (hc : δ.2.1 i = 8) (hr : δ.2.2.2.2.1 i 0 = some (ia + 1)) (ha : ia < δ.1) (hca : δ.2.1 ia = 12) (hla : δ.2.2.1 ia = 100) : ∀ (d j n : Nat) (σ : bh_S), DS z e0 (ds_fill δ ia j) σ → j + d = 100 → d < n → DE z e0 (ds_fill δ ia 100) (f_X7_init_b22 N n (z + i) (Int32.ofNat j) σ) := by
  intro d
  induction d with
  | zero =>
    intro j n σ h hj hn
    obtain ⟨m, rfl⟩ : ∃ m, n = m + 1 := ⟨n - 1, by omega⟩
    have : j = 100 := by omega
    subst this
    rw [f_X7_init_b22, if_pos (by decide)]
    exact dk_ret h
  | succ d ih =>
    intro j n σ h hj hn
    obtain ⟨m, rfl⟩ : ∃ m, n = m + 1 := ⟨n - 1, by omega⟩
    rw [f_X7_init_b22, if_neg (show ¬ (100 : Int32) ≤ Int32.ofNat j from ev_nle (m := 100) rfl (by decide) (by omega))]
    refine dk_rdR (j := ia) h hi hc (by decide) hr ?_
    refine dk_nn ?_
    refine dk_stI (q := j) (δ' := ds_fill δ ia (j + 1)) h ha hca ?_ (i32_natof (by omega)) ds_fillS (fun σ' h => ?_)
    · show ¬ (Int32.ofNat j < 0 ∨ δ.2.2.1 ia ≤ (Int32.ofNat j).toNatClampNeg)
      rw [hla, i32_natof (by omega)]
      rintro (w | w)
      · exact i32_nneg (by omega) w
      · omega
    · rw [i32_ofadd1 (by omega)]
      exact ih (j + 1) m σ' h (by omega) (by omega)
theorem dk_fill10 {N i ia : Nat} (hi : i < δ.1) (hc : δ.2.1 i = 11) (hr : δ.2.2.2.2.1 i 3 = some (ia + 1)) (ha : ia < δ.1) (hca : δ.2.1 ia = 12) (hla : δ.2.2.1 ia = 100) : ∀ (d j n : Nat) (σ : bh_S), DS z e0 (ds_fill δ ia j) σ → j + d = 100 → d < n → DE z e0 (ds_fill δ ia 100) (f_X10_init_b311 N n (z + i) (Int32.ofNat j) σ) := by
  intro d
  induction d with
  | zero =>
    intro j n σ h hj hn
    obtain ⟨m, rfl⟩ : ∃ m, n = m + 1 := ⟨n - 1, by omega⟩
    have : j = 100 := by omega
    subst this
    rw [f_X10_init_b311, if_pos (by decide)]
    exact dk_ret h
  | succ d ih =>
    intro j n σ h hj hn
    obtain ⟨m, rfl⟩ : ∃ m, n = m + 1 := ⟨n - 1, by omega⟩
    rw [f_X10_init_b311, if_neg (show ¬ (100 : Int32) ≤ Int32.ofNat j from ev_nle (m := 100) rfl (by decide) (by omega))]
    refine dk_rdR (j := ia) h hi hc (by decide) hr ?_
    refine dk_nn ?_
    refine dk_stI (q := j) (δ' := ds_fill δ ia (j + 1)) h ha hca ?_ (i32_natof (by omega)) ds_fillS (fun σ' h => ?_)
    · show ¬ (Int32.ofNat j < 0 ∨ δ.2.2.1 ia ≤ (Int32.ofNat j).toNatClampNeg)
      rw [hla, i32_natof (by omega)]
      rintro (w | w)
      · exact i32_nneg (by omega) w
      · omega
    · rw [i32_ofadd1 (by omega)]
      exact ih (j + 1) m σ' h (by omega) (by omega)
end DS1
