/-! ===== the pure side: the works ===== -/
theorem xs_up_up {Z : xs_S} {k i : Nat} {v w : Int32} : xs_up (xs_up Z k i v) k i w = xs_up Z k i w := by
  funext k' i'
  unfold xs_up
  by_cases q : k' = k ∧ i' = i
  · rw [if_pos q, if_pos q]
  · rw [if_neg q, if_neg q, if_neg q]
theorem ld0 {X : xs_S} {k : Nat} : xs_ld 3100 X k 0 = some (X k 0) := ld_ok (n := 3100) (i := 0) (by decide) (by decide)
theorem st0 {X : xs_S} {k : Nat} {v : Int32} : xs_st 3100 X k 0 v = some (xs_up X k 0 v) := st_ok (n := 3100) (i := 0) (by decide) (by decide)
theorem i32_ofsub {m n : Nat} (h : n ≤ m) (hm : m < 2147483648) : Int32.ofNat m - Int32.ofNat n = Int32.ofNat (m - n) := by
  apply i32_ext
  rw [i32_sub, i32_of hm, i32_of (by omega), i32_of (by omega)]
  · omega
  · rw [i32_of hm, i32_of (by omega)]; omega
  · rw [i32_of hm, i32_of (by omega)]; omega
theorem i32_ofadd {m n : Nat} (hm : m + n < 2147483648) : Int32.ofNat m + Int32.ofNat n = Int32.ofNat (m + n) := by
  apply i32_ext
  rw [i32_add, i32_of (by omega), i32_of (by omega), i32_of (by omega)]
  · omega
  · rw [i32_of (by omega), i32_of (by omega)]; omega
  · rw [i32_of (by omega), i32_of (by omega)]; omega
theorem i32_ofmul2 {n : Nat} (hm : 2 * n < 2147483648) : 2 * Int32.ofNat n = Int32.ofNat (2 * n) := by
  have e2 : (2 : Int32).toInt = 2 := by decide
  apply i32_ext
  rw [i32_mul, i32_of (by omega), i32_of (by omega), e2]
  · omega
  · rw [i32_of (by omega), e2]; omega
  · rw [i32_of (by omega), e2]; omega
theorem i32_ofdiv2 {n : Nat} (hm : n < 2147483648) : Int32.ofNat n / 2 = Int32.ofNat (n / 2) := by
  apply i32_ext
  rw [i32_div (by rw [i32_of hm]; omega), i32_of hm, i32_of (by omega)]
  show (n : Int).tdiv 2 = _
  rw [Int.tdiv_eq_ediv_of_nonneg (by omega)]
  omega
theorem i32_ofmin {m n : Nat} (hm : m < 2147483648) (hn : n < 2147483648) : bh_min (Int32.ofNat m) (Int32.ofNat n) = Int32.ofNat (min m n) := by
  apply i32_ext
  rw [bmin_toInt, i32_of hm, i32_of hn, i32_of (by omega)]
  omega
/-- what a root costs -/
def co (v : Int32) : Nat := if v = 0 then 1 else 2
section PG
variable {nf nl np : Nat} {Z Y : xs_S} {b : Int32} {N : Nat}
/-- the shift, up to j -/
def WJ (V : xs_S) (j : Nat) : xs_S := fun k i => if (k = 41 ∨ k = 42 ∨ k = 43) ∧ i < j then V k (i + 1) else V k i
theorem WJ_ne {V : xs_S} {j k i : Nat} (h : ¬ (k = 41 ∨ k = 42 ∨ k = 43) ∨ j ≤ i) : WJ V j k i = V k i := by
  unfold WJ
  rw [if_neg]
  rintro ⟨q1, q2⟩
  rcases h with h | h
  · exact h q1
  · omega
theorem WJ_succ {V : xs_S} {j : Nat} : xs_up (xs_up (xs_up (WJ V j) 41 j (V 41 (j + 1))) 42 j (V 42 (j + 1))) 43 j (V 43 (j + 1)) = WJ V (j + 1) := by
  funext k i
  by_cases e : i = j
  · subst e
    by_cases h : k = 41 ∨ k = 42 ∨ k = 43
    · have q : WJ V (i + 1) k i = V k (i + 1) := if_pos ⟨h, by omega⟩
      rw [q]
      rcases h with rfl | rfl | rfl
      · rw [xs_up_ne (by decide), xs_up_ne (by decide), xs_up_eq]
      · rw [xs_up_ne (by decide), xs_up_eq]
      · rw [xs_up_eq]
    · rw [WJ_ne (Or.inl h), xs_up_ne (fun e => h (Or.inr (Or.inr e))), xs_up_ne (fun e => h (Or.inr (Or.inl e))), xs_up_ne (fun e => h (Or.inl e)), WJ_ne (Or.inl h)]
  · rw [xs_up_ni e, xs_up_ni e, xs_up_ni e]
    by_cases h : (k = 41 ∨ k = 42 ∨ k = 43) ∧ i < j
    · have q1 : WJ V j k i = V k (i + 1) := if_pos h
      have q2 : WJ V (j + 1) k i = V k (i + 1) := if_pos ⟨h.1, by omega⟩
      rw [q1, q2]
    · have q1 : WJ V j k i = V k i := if_neg h
      have q2 : WJ V (j + 1) k i = V k i := if_neg (fun z => h ⟨z.1, by omega⟩)
      rw [q1, q2]
theorem ev_shift {V : xs_S} {m : Nat} {k7 : Int32 → Int32 → xs_S → Option (Int32 × xs_S)} {x1 x2 : Int32} (h44 : V 44 0 = Int32.ofNat m) (hm : m < 3000) : ∀ (d j n : Nat), j + d = m → d < n → g_X10_eats_b111 N k7 n x1 x2 (Int32.ofNat j) (xs_mg (WJ V j) Y) = k7 x1 x2 (xs_mg (WJ V m) Y) := by
  intro d
  induction d with
  | zero =>
    intro j n hj hd
    obtain ⟨n, rfl⟩ : ∃ m, n = m + 1 := ⟨n - 1, by omega⟩
    unfold g_X10_eats_b111
    have e : xs_mg (WJ V j) Y 44 0 = Int32.ofNat m := (WJ_ne (V := V) (j := j) (k := 44) (i := 0) (Or.inl (by decide))).trans h44
    rw [if_pos (ev_le e (by omega) (by omega) (by omega)), show j = m by omega]
  | succ d ih =>
    intro j n hj hd
    obtain ⟨n, rfl⟩ : ∃ m, n = m + 1 := ⟨n - 1, by omega⟩
    unfold g_X10_eats_b111
    have e : xs_mg (WJ V j) Y 44 0 = Int32.ofNat m := (WJ_ne (V := V) (j := j) (k := 44) (i := 0) (Or.inl (by decide))).trans h44
    have hj1 : j + 1 < 3100 := by omega
    have hj0 : j < 3100 := by omega
    rw [if_neg (ev_nle e (by omega) (by omega)), i32_ofadd1 (by omega), ld_ok hj1 (by decide), show xs_mg (WJ V j) Y 41 (j + 1) = V 41 (j + 1) from WJ_ne (Or.inr (by omega))]
    simp only [Option.bind_some]
    rw [st_ok hj0 (by decide), mg_up (by decide)]
    simp only [Option.bind_some]
    rw [ld_ok hj1 (by decide), show xs_mg (xs_up (WJ V j) 41 j (V 41 (j + 1))) Y 42 (j + 1) = V 42 (j + 1) from WJ_ne (k := 42) (Or.inr (by omega))]
    simp only [Option.bind_some]
    rw [st_ok hj0 (by decide), mg_up (by decide)]
    simp only [Option.bind_some]
    rw [ld_ok hj1 (by decide), show xs_mg (xs_up (xs_up (WJ V j) 41 j (V 41 (j + 1))) 42 j (V 42 (j + 1))) Y 43 (j + 1) = V 43 (j + 1) from WJ_ne (k := 43) (Or.inr (by omega))]
    simp only [Option.bind_some]
    rw [st_ok hj0 (by decide), mg_up (by decide), WJ_succ]
    exact ih (j + 1) n (by omega) (by omega)
theorem WJ_sh {B : xs_S} {m : Nat} (h : B 44 0 = Int32.ofNat (m + 1)) (hm : m < 3000) : WJ (xs_up B 44 0 (B 44 0 - 1)) m = xs_sh B := by
  funext k i
  have n44 : (B 44 0).toNatClampNeg = m + 1 := by rw [h]; exact i32_natof (by omega)
  unfold xs_sh WJ
  rw [n44]
  by_cases h1 : k = 44 ∧ i = 0
  · rw [if_neg (fun z => by rcases z.1 with e | e | e <;> omega), if_pos h1, h1.1, h1.2, xs_up_eq]
  · rw [if_neg h1]
    by_cases h2 : (k = 41 ∨ k = 42 ∨ k = 43) ∧ i < m
    · rw [if_pos h2, if_pos ⟨h2.1, by omega⟩, xs_up_ne (by omega)]
    · rw [if_neg h2, if_neg (fun z => h2 ⟨z.1, by omega⟩)]
      exact if_neg h1
theorem WJ_0 {V : xs_S} : WJ V 0 = V := by
  funext k i
  exact WJ_ne (Or.inr (by omega))
/-- a root is eaten, not the last one -/
theorem ev_unit {u m f r : Nat} {n : Int32} (hp : Z 44 0 = Int32.ofNat np) (hnp : 1 ≤ np ∧ np ≤ 3000) (hf : f < 16) (h41 : Z 41 0 = Int32.ofNat f) (hr : Z 42 0 = Int32.ofNat (r + 2)) (hr2 : r < 10000) (hu : co (Z 28 f) ≤ u) (hu2 : u ≤ 300) : g_X10_eats_b7 N (m + 1) (Int32.ofNat u) n (xs_mg Z Y) = g_X10_eats_b7 N m (Int32.ofNat (u - co (Z 28 f))) (n + 1) (xs_mg (xs_up Z 42 0 (Int32.ofNat (r + 1))) Y) := by
  have hsub : Int32.ofNat (r + 2) - 1 = Int32.ofNat (r + 1) := i32_ofsub1 (n := r + 1) (by omega)
  have key : ∀ c : Nat, c ≤ u → g_X10_eats_b57 N (g_X10_eats_b7 N m) n (Int32.ofNat c) (Int32.ofNat u) (xs_mg Z Y) = g_X10_eats_b7 N m (Int32.ofNat (u - c)) (n + 1) (xs_mg (xs_up Z 42 0 (Int32.ofNat (r + 1))) Y) := by
    intro c hc
    unfold g_X10_eats_b57
    rw [ld0, show xs_mg Z Y 42 0 = Int32.ofNat (r + 2) from hr]
    simp only [Option.bind_some]
    rw [hsub, st0, mg_up (by decide)]
    simp only [Option.bind_some]
    rw [ld0, show xs_mg (xs_up Z 42 0 (Int32.ofNat (r + 1))) Y 42 0 = Int32.ofNat (r + 1) from xs_up_eq (Z := Z) (k := 42) (i := 0)]
    simp only [Option.bind_some]
    rw [if_neg (show ¬ Int32.ofNat (r + 1) ≤ 0 by rw [i32_le, i32_of (by omega)]; show ¬ (_ : Int) ≤ 0; omega), i32_ofsub hc (by omega)]
  rw [g_X10_eats_b7]
  rw [if_neg (show ¬ xs_mg Z Y 44 0 ≤ 0 by show ¬ Z 44 0 ≤ 0; rw [hp, i32_le, i32_of (by omega)]; show ¬ (_ : Int) ≤ 0; omega), ld0, show xs_mg Z Y 41 0 = Int32.ofNat f from h41]
  simp only [Option.bind_some]
  rw [ld_ok hf (by decide), show xs_mg Z Y 28 f = Z 28 f from rfl]
  simp only [Option.bind_some]
  unfold g_X10_eats_b34
  unfold co at hu ⊢
  by_cases c : Z 28 f = 0
  · rw [if_pos c] at hu ⊢
    rw [if_pos c, if_neg (show ¬ Int32.ofNat u < 1 by rw [i32_lt, i32_of (by omega)]; show ¬ (_ : Int) < 1; omega), ld0, show xs_mg Z Y 41 0 = Int32.ofNat f from h41]
    simp only [Option.bind_some]
    rw [ld_ok hf (by decide), show xs_mg Z Y 28 f = Z 28 f from rfl]
    simp only [Option.bind_some]
    rw [if_pos c]
    exact key 1 hu
  · rw [if_neg c] at hu ⊢
    rw [if_neg c, if_neg (show ¬ Int32.ofNat u < 2 by rw [i32_lt, i32_of (by omega)]; show ¬ (_ : Int) < 2; omega), ld0, show xs_mg Z Y 41 0 = Int32.ofNat f from h41]
    simp only [Option.bind_some]
    rw [ld_ok hf (by decide), show xs_mg Z Y 28 f = Z 28 f from rfl]
    simp only [Option.bind_some]
    rw [if_neg c]
    exact key 2 hu
theorem ev_units {f : Nat} (hnp : 1 ≤ np ∧ np ≤ 3000) (hf : f < 16) : ∀ (k u m r : Nat) (n : Int32) (Z : xs_S), Z 44 0 = Int32.ofNat np → Z 41 0 = Int32.ofNat f → Z 42 0 = Int32.ofNat r → k < r → r < 10000 → co (Z 28 f) * k ≤ u → u ≤ 300 → g_X10_eats_b7 N (m + k) (Int32.ofNat u) n (xs_mg Z Y) = g_X10_eats_b7 N m (Int32.ofNat (u - co (Z 28 f) * k)) (n + Int32.ofNat k) (xs_mg (xs_up Z 42 0 (Int32.ofNat (r - k))) Y) := by
  intro k
  induction k with
  | zero =>
    intro u m r n Z hp h41 hr hk hr2 hu hu2
    rw [show n + Int32.ofNat 0 = n from Int32.add_zero n, Nat.mul_zero, Nat.sub_zero, Nat.sub_zero, xs_up_same hr]
    rfl
  | succ k ih =>
    intro u m r n Z hp h41 hr hk hr2 hu hu2
    obtain ⟨q, rfl⟩ : ∃ q, r = q + 2 := ⟨r - 2, by omega⟩
    have hc : 1 ≤ co (Z 28 f) := by unfold co; split <;> omega
    have hmul : co (Z 28 f) * (k + 1) = co (Z 28 f) * k + co (Z 28 f) := Nat.mul_succ _ _
    rw [show m + (k + 1) = (m + k) + 1 from rfl, ev_unit hp hnp hf h41 hr (by omega) (by omega) hu2]
    have := ih (u - co (Z 28 f)) m (q + 1) (n + 1) (xs_up Z 42 0 (Int32.ofNat (q + 1))) hp h41 xs_up_eq (by omega) (by omega) (by show co (Z 28 f) * k ≤ _; omega) (by omega)
    rw [this, xs_up_up]
    have e1 : u - co (Z 28 f) - co (xs_up Z 42 0 (Int32.ofNat (q + 1)) 28 f) * k = u - co (Z 28 f) * (k + 1) := by
      show u - co (Z 28 f) - co (Z 28 f) * k = _
      omega
    have e2 : n + 1 + Int32.ofNat k = n + Int32.ofNat (k + 1) := by
      rw [Int32.add_assoc, Int32.add_comm 1, i32_ofadd1 (by omega)]
    rw [e1, e2, show q + 1 - k = q + 2 - (k + 1) by omega]
/-- the last root of a load is eaten -/
theorem ev_last {u m f p : Nat} {n : Int32} (hN : 4000 ≤ N) (hp : Z 44 0 = Int32.ofNat (p + 1)) (hnp : p + 1 ≤ 3000) (hf : f < 16) (h41 : Z 41 0 = Int32.ofNat f) (hr : Z 42 0 = Int32.ofNat 1) (hu : co (Z 28 f) ≤ u) (hu2 : u ≤ 300) : g_X10_eats_b7 N (m + 1) (Int32.ofNat u) n (xs_mg Z Y) = g_X10_eats_b7 N m (Int32.ofNat (u - co (Z 28 f))) (n + 1) (xs_mg (xs_sh (xs_up (xs_up Z 42 0 0) 12 0 (Z 12 0 + Z 43 0))) Y) := by
  have key : ∀ c : Nat, c ≤ u → g_X10_eats_b57 N (g_X10_eats_b7 N m) n (Int32.ofNat c) (Int32.ofNat u) (xs_mg Z Y) = g_X10_eats_b7 N m (Int32.ofNat (u - c)) (n + 1) (xs_mg (xs_sh (xs_up (xs_up Z 42 0 0) 12 0 (Z 12 0 + Z 43 0))) Y) := by
    intro c hc
    unfold g_X10_eats_b57
    rw [ld0, show xs_mg Z Y 42 0 = Int32.ofNat 1 from hr]
    simp only [Option.bind_some]
    rw [show Int32.ofNat 1 - 1 = 0 by decide, st0, mg_up (by decide)]
    simp only [Option.bind_some]
    rw [ld0, show xs_mg (xs_up Z 42 0 0) Y 42 0 = 0 from xs_up_eq (Z := Z) (k := 42) (i := 0)]
    simp only [Option.bind_some]
    rw [if_pos (by decide), ld0, show xs_mg (xs_up Z 42 0 0) Y 43 0 = Z 43 0 from rfl]
    simp only [Option.bind_some]
    rw [mg_up (by decide), show xs_mg (xs_up Z 42 0 0) Y 12 0 = Z 12 0 from rfl]
    simp only [xs_lt_eq]
    rw [mg_up (by decide), i32_ofsub hc (by omega)]
    show g_X10_eats_b111 N (g_X10_eats_b7 N m) N (Int32.ofNat (u - c)) (n + 1) 0 (xs_mg (xs_up (xs_up (xs_up Z 42 0 0) 12 0 (Z 12 0 + Z 43 0)) 44 0 (Z 44 0 - 1)) Y) = _
    have hB : (xs_up (xs_up Z 42 0 0) 12 0 (Z 12 0 + Z 43 0)) 44 0 = Int32.ofNat (p + 1) := hp
    have hv : (xs_up (xs_up (xs_up Z 42 0 0) 12 0 (Z 12 0 + Z 43 0)) 44 0 (Z 44 0 - 1)) 44 0 = Int32.ofNat p := by
      rw [xs_up_eq, hp]
      exact i32_ofsub1 (by omega)
    have q := ev_shift (N := N) (Y := Y) (k7 := g_X10_eats_b7 N m) (x1 := Int32.ofNat (u - c)) (x2 := n + 1) hv (by omega) p 0 N (by omega) (by omega)
    rw [WJ_0] at q
    refine q.trans ?_
    rw [← WJ_sh hB (by omega)]
    rfl
  rw [g_X10_eats_b7]
  rw [if_neg (show ¬ xs_mg Z Y 44 0 ≤ 0 by show ¬ Z 44 0 ≤ 0; rw [hp, i32_le, i32_of (by omega)]; show ¬ (_ : Int) ≤ 0; omega), ld0, show xs_mg Z Y 41 0 = Int32.ofNat f from h41]
  simp only [Option.bind_some]
  rw [ld_ok hf (by decide), show xs_mg Z Y 28 f = Z 28 f from rfl]
  simp only [Option.bind_some]
  unfold g_X10_eats_b34
  unfold co at hu ⊢
  by_cases c : Z 28 f = 0
  · rw [if_pos c] at hu ⊢
    rw [if_pos c, if_neg (show ¬ Int32.ofNat u < 1 by rw [i32_lt, i32_of (by omega)]; show ¬ (_ : Int) < 1; omega), ld0, show xs_mg Z Y 41 0 = Int32.ofNat f from h41]
    simp only [Option.bind_some]
    rw [ld_ok hf (by decide), show xs_mg Z Y 28 f = Z 28 f from rfl]
    simp only [Option.bind_some]
    rw [if_pos c]
    exact key 1 hu
  · rw [if_neg c] at hu ⊢
    rw [if_neg c, if_neg (show ¬ Int32.ofNat u < 2 by rw [i32_lt, i32_of (by omega)]; show ¬ (_ : Int) < 2; omega), ld0, show xs_mg Z Y 41 0 = Int32.ofNat f from h41]
    simp only [Option.bind_some]
    rw [ld_ok hf (by decide), show xs_mg Z Y 28 f = Z 28 f from rfl]
    simp only [Option.bind_some]
    rw [if_neg c]
    exact key 2 hu
/-- too few units for a root -/
theorem ev_stop {u m f : Nat} {n : Int32} (hp : Z 44 0 = Int32.ofNat np) (hnp : 1 ≤ np ∧ np ≤ 3000) (hf : f < 16) (h41 : Z 41 0 = Int32.ofNat f) (hu : u < co (Z 28 f)) (hu2 : u ≤ 300) : g_X10_eats_b7 N (m + 1) (Int32.ofNat u) n (xs_mg Z Y) = some (n, xs_mg (xs_up Z 11 0 (Z 11 0 + n)) Y) := by
  have key : g_X10_eats_b170 N (Int32.ofNat u) n (xs_mg Z Y) = some (n, xs_mg (xs_up Z 11 0 (Z 11 0 + n)) Y) := by
    unfold g_X10_eats_b170 g_X10_eats_b201
    rw [if_neg (show ¬ xs_mg Z Y 44 0 = 0 by show ¬ Z 44 0 = 0; rw [hp]; intro e; have := (i32_ofeq (n := 0) (by omega) (by decide)).mp e; omega), mg_up (by decide)]
    rfl
  unfold g_X10_eats_b7
  rw [if_neg (show ¬ xs_mg Z Y 44 0 ≤ 0 by show ¬ Z 44 0 ≤ 0; rw [hp, i32_le, i32_of (by omega)]; show ¬ (_ : Int) ≤ 0; omega), ld0, show xs_mg Z Y 41 0 = Int32.ofNat f from h41]
  simp only [Option.bind_some]
  rw [ld_ok hf (by decide), show xs_mg Z Y 28 f = Z 28 f from rfl]
  simp only [Option.bind_some]
  unfold g_X10_eats_b34
  unfold co at hu
  by_cases c : Z 28 f = 0
  · rw [if_pos c] at hu ⊢
    rw [if_pos (show Int32.ofNat u < 1 by rw [i32_lt, i32_of (by omega)]; show (_ : Int) < 1; omega)]
    exact key
  · rw [if_neg c] at hu ⊢
    rw [if_pos (show Int32.ofNat u < 2 by rw [i32_lt, i32_of (by omega)]; show (_ : Int) < 2; omega)]
    exact key
theorem ev_rf2 {f u : Nat} (hu : u < 2147483648) : g_X6_rootsFor f (Int32.ofNat u) Z = some (Int32.ofNat (u / co (Z 28 f)), Z) := by
  unfold g_X6_rootsFor co
  by_cases c : Z 28 f = 0
  · rw [if_pos c, if_pos c, Nat.div_one]
  · rw [if_neg c, if_neg c, i32_ofdiv2 hu]
theorem ev_uf2 {f u : Nat} (hu : 2 * u < 2147483648) : g_X6_unitsFor f (Int32.ofNat u) Z = some (Int32.ofNat (co (Z 28 f) * u), Z) := by
  unfold g_X6_unitsFor co
  by_cases c : Z 28 f = 0
  · rw [if_pos c, if_pos c, Nat.one_mul]
  · rw [if_neg c, if_neg c, i32_ofmul2 hu]
/-- a bite that leaves some -/
theorem RI.bite (h : RI nf nl np Z Y) {r k : Nat} {v : Int32} (hnp : 1 ≤ np) (hr : Z 42 0 = Int32.ofNat r) (hk : k < r) (hr2 : r < 10000) : RI nf nl np (xs_up (xs_up (xs_up Z 42 0 (Int32.ofNat (r - k))) 60 0 (Z 60 0 - Int32.ofNat k)) 11 0 v) Y := by
  obtain ⟨⟨hA, hB, hC, hD, hG, hL, hY, hS, hT⟩, h15, h16⟩ := h
  have hge := sZ_ge (fun i hi => (hY.1 i hi).2)
  have hs := hY.2.1
  have h60 := hY.2.2
  have hsum : sZ (xs_up Z 42 0 (Int32.ofNat (r - k)) 42) np = sZ (Z 42) np + (-(k : Int)) := sZ_add (j := 0) hnp (by rw [xs_up_eq, hr, i32_of (by omega), i32_of (by omega)]; omega) (fun i hi hne => xs_up_ni hne)
  have hone : ∀ i, i < np → 1 ≤ (xs_up Z 42 0 (Int32.ofNat (r - k)) 42 i).toInt := by
    intro i hi
    by_cases e : i = 0
    · rw [e, xs_up_eq, i32_of (by omega)]; omega
    · rw [xs_up_ni e]; exact (hY.1 i hi).2
  have hge2 := sZ_ge hone
  have e6 : (Z 60 0 - Int32.ofNat k).toInt = (Z 60 0).toInt - k := by
    rw [i32_sub, i32_of (by omega)]
    · rw [i32_of (by omega)]; omega
    · rw [i32_of (by omega)]; omega
  refine ⟨⟨hA, hB, hC, hD, hG, hL, ⟨fun i hi => ⟨(hY.1 i hi).1, hone i hi⟩, ?_, ?_⟩, hS, hT⟩, h15, h16⟩
  · show sZ (xs_up Z 42 0 (Int32.ofNat (r - k)) 42) np ≤ 3000
    omega
  · show (Z 60 0 - Int32.ofNat k).toInt = sZ (xs_up Z 42 0 (Int32.ofNat (r - k)) 42) np
    omega
/-- a load is eaten -/
theorem RI.eat (h : RI nf nl (np + 1) Z Y) {r : Nat} {v w : Int32} (hr : Z 42 0 = Int32.ofNat r) (hr2 : r < 10000) : RI nf nl np (xs_sh (xs_up (xs_up (xs_up (xs_up Z 42 0 0) 60 0 (Z 60 0 - Int32.ofNat r)) 11 0 v) 12 0 w)) Y := by
  obtain ⟨⟨hA, hB, hC, hD, hG, hL, hY, hS, hT⟩, h15, h16⟩ := h
  have e44 : Z 44 0 = Int32.ofNat (np + 1) := hA.2.1.2.2
  have hnp := hA.1.2.2
  have n44 : (Z 44 0).toNatClampNeg = np + 1 := by rw [e44]; exact i32_natof (by omega)
  have hs := hY.2.1
  have h60 := hY.2.2
  have hsh : ∀ k i, (k = 41 ∨ k = 42 ∨ k = 43) → i < np → xs_sh (xs_up (xs_up (xs_up (xs_up Z 42 0 0) 60 0 (Z 60 0 - Int32.ofNat r)) 11 0 v) 12 0 w) k i = Z k (i + 1) := by
    intro k i hk hi
    unfold xs_sh
    rw [if_neg (fun z => by omega), if_pos ⟨hk, by show i + 1 < (Z 44 0).toNatClampNeg; omega⟩]
    rw [xs_up_ne (by omega), xs_up_ne (by omega), xs_up_ne (by omega), xs_up_ni (by omega)]
  have hsum : sZ (xs_sh (xs_up (xs_up (xs_up (xs_up Z 42 0 0) 60 0 (Z 60 0 - Int32.ofNat r)) 11 0 v) 12 0 w) 42) np = sZ (Z 42) (np + 1) - r := by
    rw [sZ_shift, hr, i32_of (by omega), sZ_congr (g := fun i => Z 42 (i + 1)) (fun i hi => hsh 42 i (Or.inr (Or.inl rfl)) hi)]
    omega
  have hone : ∀ i, i < np → 1 ≤ (xs_sh (xs_up (xs_up (xs_up (xs_up Z 42 0 0) 60 0 (Z 60 0 - Int32.ofNat r)) 11 0 v) 12 0 w) 42 i).toInt := by
    intro i hi
    rw [hsh 42 i (Or.inr (Or.inl rfl)) hi]
    exact (hY.1 (i + 1) (by omega)).2
  have hge := sZ_ge hone
  have e6 : (Z 60 0 - Int32.ofNat r).toInt = (Z 60 0).toInt - r := by
    rw [i32_sub, i32_of (by omega)]
    · rw [i32_of (by omega)]; omega
    · rw [i32_of (by omega)]; omega
  refine ⟨⟨⟨⟨hA.1.1, hA.1.2.1, by omega⟩, ⟨hA.2.1.1, hA.2.1.2.1, ?_⟩, hA.2.2⟩, hB, hC, hD, hG, hL, ⟨fun i hi => ⟨?_, hone i hi⟩, by omega, ?_⟩, hS, hT⟩, h15, h16⟩
  · show Z 44 0 - 1 = _
    rw [e44]
    exact i32_ofsub1 (by omega)
  · rw [hsh 41 i (Or.inl rfl) hi]
    exact (hY.1 (i + 1) (by omega)).1
  · show (Z 60 0 - Int32.ofNat r).toInt = _
    omega
theorem ev_b144 {u : Nat} (h60 : ¬ Z 60 0 = 0 ∨ u = 0) : g_X4_grind_b144 N (Int32.ofNat u) Z = some ((), Z) := by
  unfold g_X4_grind_b144
  by_cases c : Z 60 0 = 0
  · rw [if_pos c]
    rcases h60 with h | h
    · exact absurd c h
    · rw [h, if_pos (by decide)]
  · rw [if_neg c]
theorem cq.sh {A B : xs_S} (h : cq A B) : cq (xs_sh A) (xs_sh B) := by
  intro k i hk
  have e44 : A 44 0 = B 44 0 := h 44 0 (by decide)
  unfold xs_sh
  rw [e44]
  by_cases q : k = 44 ∧ i = 0
  · rw [if_pos q, if_pos q]
  · rw [if_neg q, if_neg q]
    by_cases q2 : (k = 41 ∨ k = 42 ∨ k = 43) ∧ i + 1 < (B 44 0).toNatClampNeg
    · rw [if_pos q2, if_pos q2]
      exact h k (i + 1) hk
    · rw [if_neg q2, if_neg q2]
      exact h k i hk
theorem sh_up11 {A : xs_S} {v : Int32} : xs_up (xs_sh A) 11 0 v = xs_sh (xs_up A 11 0 v) := by
  funext k i
  by_cases e : k = 11
  · subst e
    show (if 11 = 11 ∧ i = 0 then v else xs_sh A 11 i) = xs_up A 11 0 v 11 i
    rfl
  · rw [xs_up_ne e]
    unfold xs_sh
    have e44 : xs_up A 11 0 v 44 0 = A 44 0 := rfl
    rw [e44, xs_up_ne e, xs_up_ne e]
theorem pe_grind (hN : 4000 ≤ N) {rate : Nat} {e0 : Int32} (hrt : rate ≤ 300) : ∀ (u n1 n2 x np : Nat) (n : Int32) (Z Y : xs_S), RI nf nl np Z Y → Z 6 0 = b → Z 10 0 = Int32.ofNat rate → x + u ≤ rate → Z 11 0 = e0 + n → u < n1 → u < n2 → ∃ n' Z' Y', g_X4_grind_b7 N n1 (Int32.ofNat u) (Int32.ofNat x) Z = some ((), Z') ∧ g_X10_eats_b7 N n2 (Int32.ofNat u) n (xs_mg (xs_up Z 11 0 e0) Y) = some (n', xs_mg Z' Y') ∧ Z' 11 0 = e0 + n' ∧ Z' 6 0 = b ∧ ∃ np', RI nf nl np' Z' Y' := by
  intro u
  induction u using Nat.strongRecOn with
  | ind u ih =>
    intro n1 n2 x np n Z Y h h6 h10 hx h11 h1 h2
    obtain ⟨m1, rfl⟩ : ∃ m, n1 = m + 1 := ⟨n1 - 1, by omega⟩
    obtain ⟨m2, rfl⟩ : ∃ m, n2 = m + 1 := ⟨n2 - 1, by omega⟩
    obtain ⟨hA, hB, hC, hD, hG, hL, hY, hS, hT⟩ := h.1
    have e44 : Z 44 0 = Int32.ofNat np := hA.2.1.2.2
    have hnp := hA.1.2.2
    have hn : nf ≤ 16 := hA.1.1
    have hback : xs_up (xs_up Z 11 0 e0) 11 0 (e0 + n) = Z := by rw [xs_up_up, xs_up_same h11]
    by_cases c0 : np = 0
    · -- nothing lies there
      subst c0
      have h60 : Z 60 0 = 0 := by
        apply i32_ext
        rw [hY.2.2]
        rfl
      have hM : g_X10_eats_b7 N (m2 + 1) (Int32.ofNat u) n (xs_mg (xs_up Z 11 0 e0) Y) = g_X10_eats_b170 N (Int32.ofNat u) n (xs_mg (xs_up Z 11 0 e0) Y) := by
        unfold g_X10_eats_b7
        rw [if_pos (show xs_mg (xs_up Z 11 0 e0) Y 44 0 ≤ 0 by show Z 44 0 ≤ 0; rw [e44]; decide)]
      have hCl : g_X4_grind_b7 N (m1 + 1) (Int32.ofNat u) (Int32.ofNat x) Z = g_X4_grind_b144 N (Int32.ofNat u) Z := by
        unfold g_X4_grind_b7
        by_cases q : Z 10 0 ≤ Int32.ofNat x
        · rw [if_pos q]
        · rw [if_neg q, if_neg (show ¬ (if Z 44 0 = 0 then (1 : Int32) else 0) = 0 by rw [if_pos (show Z 44 0 = 0 from e44)]; decide)]
      rw [hM, hCl]
      unfold g_X10_eats_b170 g_X10_eats_b201 g_X4_grind_b144
      rw [if_pos h60, if_pos (show xs_mg (xs_up Z 11 0 e0) Y 44 0 = 0 from e44)]
      by_cases q : Int32.ofNat u ≤ 0
      · rw [if_pos q, if_pos q, mg_up (by decide)]
        refine ⟨n, Z, Y, rfl, ?_, h11, h6, 0, h⟩
        simp only [xs_lt_eq]
        rw [show xs_mg (xs_up Z 11 0 e0) Y 11 0 = e0 from xs_up_eq (Z := Z) (k := 11) (i := 0), hback]
      · rw [if_neg q, if_neg q, mg_up (by decide)]
        simp only [xs_lt_eq]
        rw [mg_up (by decide), mg_up (by decide)]
        refine ⟨n, xs_up (xs_up Z 14 0 (Z 14 0 + Int32.ofNat u)) 13 0 (Z 13 0 + 1), Y, rfl, ?_, h11, h6, 0, h⟩
        have e1 : xs_mg (xs_up Z 11 0 e0) Y 14 0 = Z 14 0 := rfl
        have e2 : ∀ v : Int32, xs_mg (xs_up (xs_up Z 11 0 e0) 14 0 v) Y 13 0 = Z 13 0 := fun v => rfl
        have e3 : ∀ v w : Int32, xs_mg (xs_up (xs_up (xs_up Z 11 0 e0) 14 0 v) 13 0 w) Y 11 0 = e0 := fun v w => xs_up_eq (Z := Z) (k := 11) (i := 0)
        rw [e1, e2, e3, xs_up_comm (k := 13) (k' := 11) (by decide), xs_up_comm (k := 14) (k' := 11) (by decide), hback]
    · obtain ⟨p, rfl⟩ : ∃ p, np = p + 1 := ⟨np - 1, by omega⟩
      have y0 := hY.1 0 (by omega)
      obtain ⟨f, hf, h41⟩ := i32_inI (n := nf) y0.1.1 y0.1.2
      have hf16 : f < 16 := by omega
      have hs := hY.2.1
      have h60' := hY.2.2
      have hge := sZ_ge (fun i hi => (hY.1 i hi).2)
      have hr1 : (Z 42 0).toInt ≤ 3000 := by
        rw [sZ_shift] at hs
        have : (p : Int) ≤ sZ (fun i => Z 42 (i + 1)) p := sZ_ge (fun i hi => (hY.1 (i + 1) (by omega)).2)
        omega
      obtain ⟨r, hr, h42⟩ := i32_inI (p := Z 42 0) (n := 3001) (by omega) (by omega)
      have hr0 : 1 ≤ r := by
        have := y0.2
        rw [h42, i32_of (by omega)] at this
        omega
      have hc : 1 ≤ co (Z 28 f) ∧ co (Z 28 f) ≤ 2 := by unfold co; split <;> omega
      have h60n : ¬ Z 60 0 = 0 := by
        intro e
        rw [e] at h60'
        have : (0 : Int32).toInt = 0 := by decide
        omega
      by_cases cx : rate ≤ x
      · have hu0 : u = 0 := by omega
        subst hu0
        refine ⟨n, Z, Y, ?_, ?_, h11, h6, p + 1, h⟩
        · unfold g_X4_grind_b7
          rw [if_pos (ev_le h10 (by omega) cx (by omega))]
          exact ev_b144 (Or.inr rfl)
        · rw [ev_stop (Z := xs_up Z 11 0 e0) (u := 0) e44 ⟨by omega, hnp⟩ hf16 h41 (show 0 < co (Z 28 f) by omega) (by omega), xs_up_eq, hback]
      · have hcl : g_X4_grind_b7 N (m1 + 1) (Int32.ofNat u) (Int32.ofNat x) Z = (if Int32.ofNat (r - min r (u / co (Z 28 f))) ≤ 0 then ((xs_rm (xs_up (xs_up (xs_up (xs_up Z 42 0 (Int32.ofNat (r - min r (u / co (Z 28 f))))) 60 0 (Z 60 0 - Int32.ofNat (min r (u / co (Z 28 f))))) 11 0 (Z 11 0 + Int32.ofNat (min r (u / co (Z 28 f))))) 12 0 (Z 12 0 + Z 43 0))).bind fun Z68 => g_X4_grind_b7 N m1 (Int32.ofNat (u - co (Z 28 f) * min r (u / co (Z 28 f)))) (Int32.ofNat (x + 1)) Z68) else g_X4_grind_b144 N (Int32.ofNat (u - co (Z 28 f) * min r (u / co (Z 28 f)))) (xs_up (xs_up (xs_up Z 42 0 (Int32.ofNat (r - min r (u / co (Z 28 f))))) 60 0 (Z 60 0 - Int32.ofNat (min r (u / co (Z 28 f))))) 11 0 (Z 11 0 + Int32.ofNat (min r (u / co (Z 28 f)))))) := by
          have hdiv : u / co (Z 28 f) ≤ u := Nat.div_le_self _ _
          have hm1 : co (Z 28 f) * min r (u / co (Z 28 f)) ≤ u := by
            have : co (Z 28 f) * min r (u / co (Z 28 f)) ≤ co (Z 28 f) * (u / co (Z 28 f)) := Nat.mul_le_mul_left _ (Nat.min_le_right _ _)
            have := Nat.mul_div_le u (co (Z 28 f))
            omega
          rw [g_X4_grind_b7]
          rw [if_neg (ev_nle h10 (by omega) (by omega)), if_pos (show (if Z 44 0 = 0 then (1 : Int32) else 0) = 0 by rw [if_neg (show ¬ Z 44 0 = 0 by rw [e44]; intro e; have := (i32_ofeq (n := 0) (by omega) (by decide)).mp e; omega)])]
          rw [show xs_gt Z 44 0 = some 0 from gt_ok (i := 0) e44 (by omega) (by omega)]
          simp only [xs_bnd_some, xs_lt_eq, Option.bind_some, bh_cs_n, bh_cs_s, if_true, if_false, i32_10, xs_retZ1, xs_retZ0]
          rw [h41, rf_ok (by omega)]
          simp only [xs_bnd_some, xs_lt_eq, Option.bind_some, bh_cs_n, bh_cs_s, if_true, if_false, i32_10, xs_retZ1, xs_retZ0]
          rw [ev_rf2 (by omega)]
          simp only [xs_bnd_some, xs_lt_eq, Option.bind_some, bh_cs_n, bh_cs_s, if_true, if_false, i32_10, xs_retZ1, xs_retZ0]
          rw [h41, rf_ok (by omega), h42, i32_ofmin (by omega) (by omega)]
          simp only [xs_bnd_some, xs_lt_eq, Option.bind_some, bh_cs_n, bh_cs_s, if_true, if_false, i32_10, xs_retZ1, xs_retZ0]
          rw [ev_uf2 (by omega)]
          simp only [xs_bnd_some, xs_lt_eq, Option.bind_some, bh_cs_n, bh_cs_s, if_true, if_false, i32_10, xs_retZ1, xs_retZ0]
          rw [h42, i32_ofsub (by omega) (by omega), i32_ofsub hm1 (by omega), i32_ofadd1 (by omega)]
          have e1 : ∀ v w : Int32, xs_up (xs_up (xs_up Z 42 0 (Int32.ofNat (r - min r (u / co (Z 28 f))))) 60 0 v) 11 0 w 42 0 = Int32.ofNat (r - min r (u / co (Z 28 f))) := fun v w => xs_up_eq (Z := Z) (k := 42) (i := 0)
          rw [e1]
          rfl
        by_cases cr : r ≤ u / co (Z 28 f)
        · -- a whole load
          rw [Nat.min_eq_left cr, Nat.sub_self] at hcl
          rw [if_pos (by decide)] at hcl
          have hcr : co (Z 28 f) * r ≤ u := by
            have := Nat.mul_div_le u (co (Z 28 f))
            have : co (Z 28 f) * r ≤ co (Z 28 f) * (u / co (Z 28 f)) := Nat.mul_le_mul_left _ cr
            omega
          have hrr : r ≤ co (Z 28 f) * r := Nat.le_mul_of_pos_left r (by omega)
          have hrm : xs_rm (xs_up (xs_up (xs_up (xs_up Z 42 0 (Int32.ofNat 0)) 60 0 (Z 60 0 - Int32.ofNat r)) 11 0 (Z 11 0 + Int32.ofNat r)) 12 0 (Z 12 0 + Z 43 0)) = some (xs_sh (xs_up (xs_up (xs_up (xs_up Z 42 0 0) 60 0 (Z 60 0 - Int32.ofNat r)) 11 0 (Z 11 0 + Int32.ofNat r)) 12 0 (Z 12 0 + Z 43 0))) := by
            unfold xs_rm
            rw [if_pos (by show 0 < Z 44 0; rw [e44, i32_lt, i32_of (by omega)]; show (0 : Int) < _; omega)]
            rfl
          rw [hrm] at hcl
          simp only [Option.bind_some] at hcl
          generalize hW : xs_up (xs_up (xs_up (xs_up Z 42 0 0) 60 0 (Z 60 0 - Int32.ofNat r)) 11 0 (Z 11 0 + Int32.ofNat r)) 12 0 (Z 12 0 + Z 43 0) = W at hcl
          have hRI : RI nf nl p (xs_sh W) Y := by
            rw [← hW]
            exact h.eat h42 (by omega)
          have w11 : xs_sh W 11 0 = e0 + (n + Int32.ofNat r) := by
            rw [← hW]
            show Z 11 0 + Int32.ofNat r = _
            rw [h11, Int32.add_assoc]
          have w6 : xs_sh W 6 0 = b := by rw [← hW]; exact h6
          have w10 : xs_sh W 10 0 = Int32.ofNat rate := by rw [← hW]; exact h10
          obtain ⟨n', Z', Y', g1, g2, g3⟩ := ih (u - co (Z 28 f) * r) (by omega) m1 (m2 + 1 - r) (x + 1) p (n + Int32.ofNat r) (xs_sh W) Y hRI w6 w10 (by omega) w11 (by omega) (by omega)
          refine ⟨n', Z', Y', hcl.trans g1, ?_, g3⟩
          rw [← g2]
          -- the reference: r - 1 roots, and the last
          have s1 := ev_units (N := N) (Y := Y) (np := p + 1) (f := f) ⟨by omega, hnp⟩ hf16 (r - 1) u (m2 + 1 - r + 1) r n (xs_up Z 11 0 e0) e44 h41 h42 (by omega) (by omega) (by show co (Z 28 f) * (r - 1) ≤ u; have : co (Z 28 f) * (r - 1) ≤ co (Z 28 f) * r := Nat.mul_le_mul_left _ (by omega); omega) (by omega)
          rw [show m2 + 1 - r + 1 + (r - 1) = m2 + 1 by omega] at s1
          rw [s1, show r - (r - 1) = 1 by omega]
          have hmul : co (Z 28 f) * r = co (Z 28 f) * (r - 1) + co (Z 28 f) := by
            have : r = (r - 1) + 1 := by omega
            conv => lhs; rw [this, Nat.mul_succ]
          have s2 := ev_last (N := N) (Y := Y) (Z := xs_up (xs_up Z 11 0 e0) 42 0 (Int32.ofNat 1)) (u := u - co (Z 28 f) * (r - 1)) (m := m2 + 1 - r) (f := f) (p := p) (n := n + Int32.ofNat (r - 1)) hN e44 (by omega) hf16 h41 xs_up_eq (by show co (Z 28 f) ≤ _; omega) (by omega)
          rw [show co (xs_up Z 11 0 e0 28 f) = co (Z 28 f) from rfl, s2]
          have e1 : u - co (Z 28 f) * (r - 1) - co (xs_up (xs_up Z 11 0 e0) 42 0 (Int32.ofNat 1) 28 f) = u - co (Z 28 f) * r := by
            show u - co (Z 28 f) * (r - 1) - co (Z 28 f) = _
            omega
          have e2 : n + Int32.ofNat (r - 1) + 1 = n + Int32.ofNat r := by
            rw [Int32.add_assoc, i32_ofadd1 (by omega), show r - 1 + 1 = r by omega]
          rw [e1, e2]
          have hcq : cq (xs_sh (xs_up (xs_up (xs_up (xs_up Z 11 0 e0) 42 0 (Int32.ofNat 1)) 42 0 0) 12 0 (xs_up (xs_up Z 11 0 e0) 42 0 (Int32.ofNat 1) 12 0 + xs_up (xs_up Z 11 0 e0) 42 0 (Int32.ofNat 1) 43 0))) (xs_up (xs_sh W) 11 0 e0) := by
            rw [sh_up11]
            refine cq.sh ?_
            rw [← hW, xs_up_up, xs_up_comm (k := 12) (k' := 11) (by decide), xs_up_up, xs_up_comm (k := 11) (k' := 42) (by decide)]
            exact cq.up (cq.up (cq.r cq.rf (by decide)))
          rw [hcq.mg]
        · -- a part of the load
          have hk : u / co (Z 28 f) < r := by omega
          rw [Nat.min_eq_right (by omega)] at hcl
          generalize hkk : u / co (Z 28 f) = k at hcl hk
          have hku : co (Z 28 f) * k ≤ u := by rw [← hkk]; exact Nat.mul_div_le _ _
          have hku2 : u - co (Z 28 f) * k < co (Z 28 f) := by
            have := Nat.mod_add_div u (co (Z 28 f))
            have := Nat.mod_lt u (show 0 < co (Z 28 f) by omega)
            rw [hkk] at *
            omega
          have hkle : k ≤ u := by
            have : k ≤ co (Z 28 f) * k := Nat.le_mul_of_pos_left k (by omega)
            omega
          rw [if_neg (show ¬ Int32.ofNat (r - k) ≤ 0 by rw [i32_le, i32_of (by omega)]; show ¬ (_ : Int) ≤ 0; omega)] at hcl
          have hRI := h.bite (v := Z 11 0 + Int32.ofNat k) (by omega) h42 hk (by omega)
          have hY2 := hRI.1.2.2.2.2.2.2.1
          have hge2 := sZ_ge (fun i hi => (hY2.1 i hi).2)
          rw [ev_b144 (Or.inl (fun e => by
            have := hY2.2.2
            have e' : (xs_up (xs_up (xs_up Z 42 0 (Int32.ofNat (r - k))) 60 0 (Z 60 0 - Int32.ofNat k)) 11 0 (Z 11 0 + Int32.ofNat k)) 60 0 = 0 := e
            rw [e'] at this
            have z0 : (0 : Int32).toInt = 0 := by decide
            omega))] at hcl
          refine ⟨n + Int32.ofNat k, _, Y, hcl, ?_, ?_, h6, p + 1, hRI⟩
          · have s1 := ev_units (N := N) (Y := Y) (np := p + 1) (f := f) ⟨by omega, hnp⟩ hf16 k u (m2 + 1 - k) r n (xs_up Z 11 0 e0) e44 h41 h42 hk (by omega) hku (by omega)
            rw [show m2 + 1 - k + k = m2 + 1 by omega] at s1
            rw [s1, show m2 + 1 - k = (m2 - k) + 1 by omega, show co (xs_up Z 11 0 e0 28 f) = co (Z 28 f) from rfl]
            rw [ev_stop (Z := xs_up (xs_up Z 11 0 e0) 42 0 (Int32.ofNat (r - k))) (np := p + 1) e44 ⟨by omega, hnp⟩ hf16 h41 hku2 (by omega)]
            have e3 : (xs_up (xs_up Z 11 0 e0) 42 0 (Int32.ofNat (r - k))) 11 0 = e0 := xs_up_eq (Z := Z) (k := 11) (i := 0)
            rw [e3, h11, ← Int32.add_assoc]
            have hcq : cq (xs_up (xs_up (xs_up Z 11 0 e0) 42 0 (Int32.ofNat (r - k))) 11 0 (e0 + n + Int32.ofNat k)) (xs_up (xs_up (xs_up Z 42 0 (Int32.ofNat (r - k))) 60 0 (Z 60 0 - Int32.ofNat k)) 11 0 (e0 + n + Int32.ofNat k)) := by
              rw [xs_up_comm (k := 11) (k' := 42) (by decide), xs_up_up]
              exact cq.up (cq.r cq.rf (by decide))
            rw [hcq.mg]
          · rw [xs_up_eq, h11, Int32.add_assoc]
end PG
