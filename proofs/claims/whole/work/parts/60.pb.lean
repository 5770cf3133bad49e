/-! ===== the pure side: the class over Z, the reference over xs_mg Z Y ===== -/
/-- the reference's rows are the class's, but for its own sums and scratch -/
def xs_mg (Z Y : xs_S) : xs_S := fun k i => if k < 45 ∧ k ≠ 15 ∧ k ≠ 16 then Z k i else Y k i
theorem mg_up {Z Y : xs_S} {k i : Nat} {v : Int32} (h : k < 45 ∧ k ≠ 15 ∧ k ≠ 16) : xs_up (xs_mg Z Y) k i v = xs_mg (xs_up Z k i v) Y := by
  funext k' i'
  unfold xs_up xs_mg
  by_cases e : k' = k
  · subst e
    rw [if_pos h, if_pos h]
  · rw [if_neg (fun z => e z.1)]
    by_cases q : k' < 45 ∧ k' ≠ 15 ∧ k' ≠ 16
    · rw [if_pos q, if_pos q]
      exact (xs_up_ne (Z := Z) e).symm
    · rw [if_neg q, if_neg q]
theorem mg_upY {Z Y : xs_S} {k i : Nat} {v : Int32} (h : ¬ (k < 45 ∧ k ≠ 15 ∧ k ≠ 16)) : xs_up (xs_mg Z Y) k i v = xs_mg Z (xs_up Y k i v) := by
  funext k' i'
  unfold xs_up xs_mg
  by_cases e : k' = k
  · subst e
    rw [if_neg h, if_neg h]
  · rw [if_neg (fun z => e z.1)]
    by_cases q : k' < 45 ∧ k' ≠ 15 ∧ k' ≠ 16
    · rw [if_pos q, if_pos q]
    · rw [if_neg q, if_neg q]
      exact (xs_up_ne (Z := Y) e).symm
theorem mg_0 {Z Y : xs_S} : xs_mg Z Y 0 = Z 0 := rfl
theorem mg_1 {Z Y : xs_S} : xs_mg Z Y 1 = Z 1 := rfl
theorem mg_2 {Z Y : xs_S} : xs_mg Z Y 2 = Z 2 := rfl
theorem mg_3 {Z Y : xs_S} : xs_mg Z Y 3 = Z 3 := rfl
theorem mg_4 {Z Y : xs_S} : xs_mg Z Y 4 = Z 4 := rfl
theorem mg_5 {Z Y : xs_S} : xs_mg Z Y 5 = Z 5 := rfl
theorem mg_6 {Z Y : xs_S} : xs_mg Z Y 6 = Z 6 := rfl
theorem mg_7 {Z Y : xs_S} : xs_mg Z Y 7 = Z 7 := rfl
theorem mg_8 {Z Y : xs_S} : xs_mg Z Y 8 = Z 8 := rfl
theorem mg_9 {Z Y : xs_S} : xs_mg Z Y 9 = Z 9 := rfl
theorem mg_10 {Z Y : xs_S} : xs_mg Z Y 10 = Z 10 := rfl
theorem mg_11 {Z Y : xs_S} : xs_mg Z Y 11 = Z 11 := rfl
theorem mg_12 {Z Y : xs_S} : xs_mg Z Y 12 = Z 12 := rfl
theorem mg_13 {Z Y : xs_S} : xs_mg Z Y 13 = Z 13 := rfl
theorem mg_14 {Z Y : xs_S} : xs_mg Z Y 14 = Z 14 := rfl
theorem mg_15 {Z Y : xs_S} : xs_mg Z Y 15 = Y 15 := rfl
theorem mg_16 {Z Y : xs_S} : xs_mg Z Y 16 = Y 16 := rfl
theorem mg_17 {Z Y : xs_S} : xs_mg Z Y 17 = Z 17 := rfl
theorem mg_18 {Z Y : xs_S} : xs_mg Z Y 18 = Z 18 := rfl
theorem mg_19 {Z Y : xs_S} : xs_mg Z Y 19 = Z 19 := rfl
theorem mg_20 {Z Y : xs_S} : xs_mg Z Y 20 = Z 20 := rfl
theorem mg_21 {Z Y : xs_S} : xs_mg Z Y 21 = Z 21 := rfl
theorem mg_22 {Z Y : xs_S} : xs_mg Z Y 22 = Z 22 := rfl
theorem mg_23 {Z Y : xs_S} : xs_mg Z Y 23 = Z 23 := rfl
theorem mg_24 {Z Y : xs_S} : xs_mg Z Y 24 = Z 24 := rfl
theorem mg_25 {Z Y : xs_S} : xs_mg Z Y 25 = Z 25 := rfl
theorem mg_26 {Z Y : xs_S} : xs_mg Z Y 26 = Z 26 := rfl
theorem mg_27 {Z Y : xs_S} : xs_mg Z Y 27 = Z 27 := rfl
theorem mg_28 {Z Y : xs_S} : xs_mg Z Y 28 = Z 28 := rfl
theorem mg_29 {Z Y : xs_S} : xs_mg Z Y 29 = Z 29 := rfl
theorem mg_30 {Z Y : xs_S} : xs_mg Z Y 30 = Z 30 := rfl
theorem mg_31 {Z Y : xs_S} : xs_mg Z Y 31 = Z 31 := rfl
theorem mg_32 {Z Y : xs_S} : xs_mg Z Y 32 = Z 32 := rfl
theorem mg_33 {Z Y : xs_S} : xs_mg Z Y 33 = Z 33 := rfl
theorem mg_34 {Z Y : xs_S} : xs_mg Z Y 34 = Z 34 := rfl
theorem mg_35 {Z Y : xs_S} : xs_mg Z Y 35 = Z 35 := rfl
theorem mg_36 {Z Y : xs_S} : xs_mg Z Y 36 = Z 36 := rfl
theorem mg_37 {Z Y : xs_S} : xs_mg Z Y 37 = Z 37 := rfl
theorem mg_38 {Z Y : xs_S} : xs_mg Z Y 38 = Z 38 := rfl
theorem mg_39 {Z Y : xs_S} : xs_mg Z Y 39 = Z 39 := rfl
theorem mg_40 {Z Y : xs_S} : xs_mg Z Y 40 = Z 40 := rfl
theorem mg_41 {Z Y : xs_S} : xs_mg Z Y 41 = Z 41 := rfl
theorem mg_42 {Z Y : xs_S} : xs_mg Z Y 42 = Z 42 := rfl
theorem mg_43 {Z Y : xs_S} : xs_mg Z Y 43 = Z 43 := rfl
theorem mg_44 {Z Y : xs_S} : xs_mg Z Y 44 = Z 44 := rfl
theorem mg_45 {Z Y : xs_S} : xs_mg Z Y 45 = Y 45 := rfl
theorem mg_46 {Z Y : xs_S} : xs_mg Z Y 46 = Y 46 := rfl
theorem mg_47 {Z Y : xs_S} : xs_mg Z Y 47 = Y 47 := rfl
theorem mg_48 {Z Y : xs_S} : xs_mg Z Y 48 = Y 48 := rfl
theorem xs_up_same {Z : xs_S} {k i : Nat} {v : Int32} (h : Z k i = v) : xs_up Z k i v = Z := by
  funext k' i'
  unfold xs_up
  by_cases e : k' = k ∧ i' = i
  · rw [if_pos e, e.1, e.2, h]
  · rw [if_neg e]
theorem xs_up_comm {Z : xs_S} {k i k' i' : Nat} {v v' : Int32} (h : k ≠ k') : xs_up (xs_up Z k i v) k' i' v' = xs_up (xs_up Z k' i' v') k i v := by
  funext a b
  unfold xs_up
  by_cases e : a = k' ∧ b = i'
  · rw [if_pos e, if_neg (fun z => h (z.1.symm.trans e.1)), if_pos e]
  · rw [if_neg e]
    by_cases e2 : a = k ∧ b = i
    · rw [if_pos e2, if_pos e2]
    · rw [if_neg e2, if_neg e2, if_neg e]
theorem xs_bnd_some {α β : Type} {a : α} {s : xs_S} {f : α → xs_S → Option β} : xs_bnd (some (a, s)) f = f a s := rfl
theorem xs_lt_eq {α β : Type} {a : α} {f : α → β} : xs_lt a f = f a := rfl
theorem bh_cs_n {β : Type} {A : β} {B : Nat → β} : bh_cs none A B = A := rfl
theorem bh_cs_s {β : Type} {A : β} {B : Nat → β} {a : Nat} : bh_cs (some a) A B = B a := rfl
theorem xs_retZ1 {X : xs_S} : xs_retZ X 1 = some (1, X) := rfl
theorem xs_retZ0 {X : xs_S} : xs_retZ X 0 = some (0, X) := rfl
theorem i32_10 : ((1 : Int32) = 0) = False := by decide
theorem i32_m40 : ((-4 : Int32) = 0) = False := by decide
theorem i32_m60 : ((-6 : Int32) = 0) = False := by decide
/-- both run, answer the same, and stand in Q -/
def PR {α : Type} (Q : xs_S → xs_S → Prop) (fo go : Option (α × xs_S)) : Prop := ∃ r Z' Y', fo = some (r, Z') ∧ go = some (r, xs_mg Z' Y') ∧ Q Z' Y'
theorem PR.ret {α : Type} {Q : xs_S → xs_S → Prop} {r : α} {Z Y : xs_S} (h : Q Z Y) : PR Q (some (r, Z)) (some (r, xs_mg Z Y)) := ⟨r, Z, Y, rfl, rfl, h⟩
theorem PR.bnd {α β : Type} {Q Q1 : xs_S → xs_S → Prop} {f1 g1 : Option (β × xs_S)} {f g : β → xs_S → Option (α × xs_S)} (h1 : PR Q1 f1 g1) (h2 : ∀ r Z Y, Q1 Z Y → PR Q (f r Z) (g r (xs_mg Z Y))) : PR Q (xs_bnd f1 f) (xs_bnd g1 g) := by
  obtain ⟨r, Z, Y, rfl, rfl, h⟩ := h1
  exact h2 r Z Y h
theorem PR.mono {α : Type} {Q Q1 : xs_S → xs_S → Prop} {f1 g1 : Option (α × xs_S)} (h1 : PR Q1 f1 g1) (h2 : ∀ Z Y, Q1 Z Y → Q Z Y) : PR Q f1 g1 := by
  obtain ⟨r, Z, Y, rfl, rfl, h⟩ := h1
  exact PR.ret (h2 Z Y h)
theorem ld_ok {n i k : Nat} {X : xs_S} (h : i < n) (hn : n < 2147483648) : xs_ld n X k (Int32.ofNat i) = some (X k i) := by
  unfold xs_ld
  rw [i32_natof (by omega), if_pos]
  rintro (q | q)
  · exact i32_nneg (by omega) q
  · omega
theorem st_ok {n i k : Nat} {X : xs_S} {v : Int32} (h : i < n) (hn : n < 2147483648) : xs_st n X k (Int32.ofNat i) v = some (xs_up X k i v) := by
  unfold xs_st
  rw [i32_natof (by omega), if_pos]
  rintro (q | q)
  · exact i32_nneg (by omega) q
  · omega
theorem stZ_ok {n i k : Nat} {X : xs_S} {v : Int32} (h : i < n) (hn : n < 2147483648) (hv : v = 0 ∨ v = 1) : xs_stZ n X k (Int32.ofNat i) v = some (xs_up X k i v) := by
  unfold xs_stZ
  rw [i32_natof (by omega), if_pos]
  refine ⟨?_, hv⟩
  rintro (q | q)
  · exact i32_nneg (by omega) q
  · omega
theorem wZ_ok {i k : Nat} {X : xs_S} {v : Int32} (hv : v = 0 ∨ v = 1) : xs_wZ X k i v = some (xs_up X k i v) := if_pos hv
theorem wrZ_ok {k : Nat} {X : xs_S} {v : Int32} (hv : v = 0 ∨ v = 1) : xs_wrZ X k v = some (xs_up X k 0 v) := if_pos hv
theorem retZ_ok {X : xs_S} {v : Int32} (hv : v = 0 ∨ v = 1) : xs_retZ X v = some (v, X) := if_pos hv
theorem ix_ok {n i : Nat} (h : i < n) (hn : n < 2147483648) : xs_ix n (Int32.ofNat i) = some i := by
  unfold xs_ix
  rw [i32_natof (by omega), if_pos]
  rintro (q | q)
  · exact i32_nneg (by omega) q
  · omega
theorem gt_ok {Z : xs_S} {k m i : Nat} (hm : Z k 0 = Int32.ofNat m) (h : i < m) (hn : m < 2147483648) : xs_gt Z k (Int32.ofNat i) = some i := by
  unfold xs_gt
  rw [if_neg (i32_nneg (by omega)), hm, if_pos ((i32_oflt (by omega) hn).mpr h), i32_natof (by omega)]
theorem rf_ok {i : Nat} (h : i < 2147483648) : xs_rf (Int32.ofNat i) = some i := by
  unfold xs_rf
  rw [if_neg (i32_nneg h), i32_natof h]
theorem rf_neg {v : Int32} (h : v < 0) : xs_rf v = none := if_pos h
/-- a number outside 0 .. n - 1 -/
def i32_bad (p : Int32) (n : Nat) : Prop := p < 0 ∨ Int32.ofNat n ≤ p
theorem i32_in (p : Int32) (n : Nat) (hn : n < 2147483648) : i32_bad p n ∨ ∃ j, j < n ∧ p = Int32.ofNat j := by
  by_cases h : p < 0
  · exact Or.inl (Or.inl h)
  · by_cases h2 : Int32.ofNat n ≤ p
    · exact Or.inl (Or.inr h2)
    · refine Or.inr ⟨p.toNatClampNeg, ?_, ?_⟩
      · rw [i32_le, i32_of hn] at h2
        rw [i32_lt] at h
        have h : ¬ p.toInt < 0 := h
        rw [i32_nat]
        omega
      · rw [i32_lt] at h
        have h : ¬ p.toInt < 0 := h
        exact (i32_ofnat (by omega)).symm
theorem i32_inI {p : Int32} {n : Nat} (h0 : 0 ≤ p.toInt) (h1 : p.toInt < n) : ∃ j, j < n ∧ p = Int32.ofNat j :=
  ⟨p.toNatClampNeg, by rw [i32_nat]; omega, (i32_ofnat h0).symm⟩
/-! sums -/
def sI (f : Nat → Int32) : Nat → Int32
  | 0 => 0
  | n + 1 => sI f n + f n
def sZ (f : Nat → Int32) : Nat → Int
  | 0 => 0
  | n + 1 => sZ f n + (f n).toInt
theorem sI_congr {f g : Nat → Int32} {n : Nat} (h : ∀ i, i < n → f i = g i) : sI f n = sI g n := by
  induction n with
  | zero => rfl
  | succ n ih =>
    unfold sI
    rw [ih (fun i hi => h i (by omega)), h n (by omega)]
theorem sZ_congr {f g : Nat → Int32} {n : Nat} (h : ∀ i, i < n → f i = g i) : sZ f n = sZ g n := by
  induction n with
  | zero => rfl
  | succ n ih =>
    unfold sZ
    rw [ih (fun i hi => h i (by omega)), h n (by omega)]
theorem sI_add {f g : Nat → Int32} {n j : Nat} {d : Int32} (hj : j < n) (h1 : g j = f j + d) (h2 : ∀ i, i < n → i ≠ j → g i = f i) : sI g n = sI f n + d := by
  induction n with
  | zero => omega
  | succ n ih =>
    unfold sI
    by_cases e : j = n
    · subst e
      rw [h1, sI_congr (fun i hi => h2 i (by omega) (by omega)), Int32.add_assoc]
    · rw [ih (by omega) (fun i hi => h2 i (by omega)), h2 n (by omega) (fun z => e z.symm), Int32.add_assoc, Int32.add_comm d, Int32.add_assoc]
theorem sZ_add {f g : Nat → Int32} {n j : Nat} {d : Int} (hj : j < n) (h1 : (g j).toInt = (f j).toInt + d) (h2 : ∀ i, i < n → i ≠ j → g i = f i) : sZ g n = sZ f n + d := by
  induction n with
  | zero => omega
  | succ n ih =>
    unfold sZ
    by_cases e : j = n
    · subst e
      rw [h1, sZ_congr (fun i hi => h2 i (by omega) (by omega))]
      omega
    · rw [ih (by omega) (fun i hi => h2 i (by omega)), h2 n (by omega) (fun z => e z.symm)]
      omega
theorem sZ_shift {f : Nat → Int32} {n : Nat} : sZ f (n + 1) = (f 0).toInt + sZ (fun i => f (i + 1)) n := by
  induction n with
  | zero => unfold sZ sZ; omega
  | succ n ih =>
    rw [sZ, ih]
    conv => rhs; rw [sZ]
    omega
theorem sZ_ge {f : Nat → Int32} {n : Nat} (h : ∀ i, i < n → 1 ≤ (f i).toInt) : (n : Int) ≤ sZ f n := by
  induction n with
  | zero => unfold sZ; omega
  | succ n ih =>
    unfold sZ
    have := ih (fun i hi => h i (by omega))
    have := h n (by omega)
    omega
/-! what always holds -/
def HP (fa gr sw wy ro su st cv fz : Int32) : Prop := (0 ≤ fa.toInt ∧ fa.toInt < 6) ∧ (0 ≤ gr.toInt ∧ 0 ≤ ro.toInt ∧ gr.toInt + ro.toInt ≤ 5000) ∧ (0 ≤ su.toInt ∧ su.toInt + 250 * gr.toInt ≤ 1250000) ∧ (50 ≤ sw.toInt ∧ sw.toInt ≤ 250) ∧ (1 ≤ wy.toInt ∧ wy.toInt ≤ 12) ∧ (st = 0 ∨ st = 1) ∧ (cv = 0 ∨ cv = 1) ∧ (fz = 0 ∨ fz = 1)
def LO (nf : Nat) (cap st pl th ro su : Int32) : Prop := (1 ≤ cap.toInt ∧ cap.toInt ≤ 100) ∧ (st = 0 ∧ pl = -9 ∧ th = -9 ∨ (st = 1 ∨ st = 2) ∧ (0 ≤ pl.toInt ∧ pl.toInt < nf) ∨ st = 3 ∧ (0 ≤ pl.toInt ∧ pl.toInt < nf) ∧ th = -9) ∧ (0 ≤ ro.toInt ∧ ro.toInt ≤ 100) ∧ (0 ≤ su.toInt ∧ su.toInt ≤ 1250000)
def PA (nf nl np : Nat) (Z : xs_S) : Prop := (nf ≤ 16 ∧ nl ≤ 8 ∧ np ≤ 3000) ∧ (Z 7 0 = Int32.ofNat nf ∧ Z 8 0 = Int32.ofNat nl ∧ Z 44 0 = Int32.ofNat np) ∧ (0 ≤ (Z 6 0).toInt ∧ (Z 6 0).toInt ≤ 2400) ∧ (0 ≤ (Z 9 0).toInt ∧ (Z 9 0).toInt ≤ 3000) ∧ (0 ≤ (Z 10 0).toInt ∧ (Z 10 0).toInt ≤ 300) ∧ (Z 17 0 = 0 ∨ Z 17 0 = 1)
def PB (nf : Nat) (Z : xs_S) : Prop := (∀ i, i < 100 → 0 ≤ (Z 3 i).toInt ∧ (Z 3 i).toInt ≤ 9) ∧ (∀ i, i < 10 → 0 ≤ (Z 4 i).toInt ∧ (Z 4 i).toInt ≤ 100) ∧ (∀ i, i < 6 → Z 100 i = Int32.ofNat i) ∧ (∀ i, i < nf → Z 101 i = Int32.ofNat i)
def PC (nf : Nat) (Z : xs_S) : Prop := ∀ i, i < nf → HP (Z 18 i) (Z 19 i) (Z 20 i) (Z 21 i) (Z 22 i) (Z 23 i) (Z 28 i) (Z 29 i) (Z 30 i)
def PD (nf nl : Nat) (Z : xs_S) : Prop := (∀ i, nf ≤ i → Z 22 i = 0 ∧ Z 23 i = 0 ∧ Z 25 i = 0 ∧ Z 26 i = 0 ∧ Z 27 i = 0 ∧ Z 29 i = 0 ∧ Z 30 i = 0) ∧ (∀ i, nl ≤ i → Z 34 i = 0 ∧ Z 37 i = 0 ∧ Z 38 i = 0 ∧ Z 39 i = 0 ∧ Z 40 i = 0)
def PG (nf : Nat) (Z : xs_S) : Prop := ∀ i, i < 4 → (0 ≤ (Z 31 i).toInt ∧ (Z 31 i).toInt ≤ 100) ∧ (Z 32 i = -1 ∨ 0 ≤ (Z 32 i).toInt ∧ (Z 32 i).toInt < nf)
def PL (nf nl : Nat) (Z : xs_S) : Prop := ∀ i, i < nl → LO nf (Z 33 i) (Z 34 i) (Z 35 i) (Z 36 i) (Z 37 i) (Z 38 i)
def PY (nf np : Nat) (Z : xs_S) : Prop := (∀ i, i < np → (0 ≤ (Z 41 i).toInt ∧ (Z 41 i).toInt < nf) ∧ 1 ≤ (Z 42 i).toInt) ∧ sZ (Z 42) np ≤ 3000 ∧ (Z 60 0).toInt = sZ (Z 42) np
def PS (nf : Nat) (Z : xs_S) : Prop := Z 61 0 = sI (Z 27) nf ∧ ∀ f, f < 6 → Z 62 f = sI (fun k => if Z 18 k = Int32.ofNat f then Z 27 k else 0) nf
def PT (nf nl : Nat) (Z : xs_S) : Prop := 0 ≤ (Z 90 0).toInt ∧ (Z 90 0).toInt ≤ nf + nl + 8 * (Z 6 0).toInt
def PI (nf nl np : Nat) (Z : xs_S) : Prop := PA nf nl np Z ∧ PB nf Z ∧ PC nf Z ∧ PD nf nl Z ∧ PG nf Z ∧ PL nf nl Z ∧ PY nf np Z ∧ PS nf Z ∧ PT nf nl Z
def RI (nf nl np : Nat) (Z Y : xs_S) : Prop := PI nf nl np Z ∧ Y 15 0 = sI (Z 25) nf ∧ Y 16 0 = sI (Z 26) nf
def RE (Z Y : xs_S) : Prop := ∃ nf nl np, RI nf nl np Z Y

