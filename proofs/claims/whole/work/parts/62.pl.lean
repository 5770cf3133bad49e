/-! ===== the pure side: loops that only read; new lorry, new field ===== -/
theorem mg_ign {Z Y : xs_S} {k i : Nat} {v : Int32} (h : ¬ (k < 45 ∧ k ≠ 15 ∧ k ≠ 16)) : xs_mg (xs_up Z k i v) Y = xs_mg Z Y := by
  funext k' i'
  unfold xs_mg
  by_cases q : k' < 45 ∧ k' ≠ 15 ∧ k' ≠ 16
  · rw [if_pos q, if_pos q]
    exact xs_up_ne (fun e => h (by rw [← e]; exact q))
  · rw [if_neg q, if_neg q]
theorem rf_iff {v : Int32} {p : Nat} (hp : p < 2147483648) : xs_rf v = some p ↔ v = Int32.ofNat p := by
  constructor
  · intro h
    unfold xs_rf at h
    by_cases q : v < 0
    · rw [if_pos q] at h; cases h
    · rw [if_neg q] at h
      rw [i32_lt] at q
      have q : ¬ v.toInt < 0 := q
      rw [← Option.some.inj h]
      exact (i32_ofnat (by omega)).symm
  · rintro rfl
    exact rf_ok hp
theorem i32_lt6 {p : Int32} {n : Nat} (h : i32_bad p n) (j : Nat) (hj : j < n) (hn : n < 2147483648) : p ≠ Int32.ofNat j := by
  rintro rfl
  rcases h with q | q
  · exact i32_nneg (by omega) q
  · rw [i32_ofle hn (by omega)] at q
    omega
theorem sI_succ {f : Nat → Int32} {n : Nat} : sI f (n + 1) = sI f n + f n := rfl
section PL
variable {nf nl np : Nat} {Z Y : xs_S}
theorem ev_le {m j : Nat} {v : Int32} (hv : v = Int32.ofNat m) (hm : m < 2147483648) (h : m ≤ j) (hj : j < 2147483648) : v ≤ Int32.ofNat j := by
  rw [hv]
  exact (i32_ofle hm hj).mpr h
theorem ev_nle {m j : Nat} {v : Int32} (hv : v = Int32.ofNat m) (hm : m < 2147483648) (h : j < m) : ¬ v ≤ Int32.ofNat j := by
  rw [hv]
  intro q
  have := (i32_ofle hm (by omega)).mp q
  omega
theorem ev_woa {N : Nat} (h7 : Z 7 0 = Int32.ofNat nf) (hn : nf ≤ 16) : ∀ (d j n : Nat), j + d = nf → d < n → g_X9_wasteOfAll_b4 N n (sI (Z 25) j) (Int32.ofNat j) Z = some (sI (Z 25) nf, Z) := by
  intro d
  induction d with
  | zero =>
    intro j n hj hd
    obtain ⟨m, rfl⟩ : ∃ m, n = m + 1 := ⟨n - 1, by omega⟩
    unfold g_X9_wasteOfAll_b4
    rw [if_pos (ev_le h7 (by omega) (by omega) (by omega)), show j = nf by omega]
  | succ d ih =>
    intro j n hj hd
    obtain ⟨m, rfl⟩ : ∃ m, n = m + 1 := ⟨n - 1, by omega⟩
    unfold g_X9_wasteOfAll_b4
    rw [if_neg (ev_nle h7 (by omega) (by omega)), gt_ok h7 (by omega) (by omega)]
    simp only [xs_bnd_some, xs_lt_eq, Option.bind_some, bh_cs_n, bh_cs_s, if_true, if_false, i32_10, xs_retZ1, xs_retZ0]
    rw [i32_ofadd1 (by omega)]
    exact ih (j + 1) m (by omega) (by omega)
theorem ev_soa {N : Nat} (h7 : Z 7 0 = Int32.ofNat nf) (hn : nf ≤ 16) : ∀ (d j n : Nat), j + d = nf → d < n → g_X9_spoiledOfAll_b4 N n (sI (Z 26) j) (Int32.ofNat j) Z = some (sI (Z 26) nf, Z) := by
  intro d
  induction d with
  | zero =>
    intro j n hj hd
    obtain ⟨m, rfl⟩ : ∃ m, n = m + 1 := ⟨n - 1, by omega⟩
    unfold g_X9_spoiledOfAll_b4
    rw [if_pos (ev_le h7 (by omega) (by omega) (by omega)), show j = nf by omega]
  | succ d ih =>
    intro j n hj hd
    obtain ⟨m, rfl⟩ : ∃ m, n = m + 1 := ⟨n - 1, by omega⟩
    unfold g_X9_spoiledOfAll_b4
    rw [if_neg (ev_nle h7 (by omega) (by omega)), gt_ok h7 (by omega) (by omega)]
    simp only [xs_bnd_some, xs_lt_eq, Option.bind_some, bh_cs_n, bh_cs_s, if_true, if_false, i32_10, xs_retZ1, xs_retZ0]
    rw [i32_ofadd1 (by omega)]
    exact ih (j + 1) m (by omega) (by omega)
theorem ev_iy {N : Nat} {X : xs_S} (h44 : X 44 0 = Int32.ofNat np) (hn : np ≤ 3000) : ∀ (d j n : Nat), j + d = np → d < n → g_X10_inYard_b4 N n (sI (X 42) j) (Int32.ofNat j) X = some (sI (X 42) np, X) := by
  intro d
  induction d with
  | zero =>
    intro j n hj hd
    obtain ⟨m, rfl⟩ : ∃ m, n = m + 1 := ⟨n - 1, by omega⟩
    unfold g_X10_inYard_b4
    rw [if_pos (ev_le h44 (by omega) (by omega) (by omega)), show j = np by omega]
  | succ d ih =>
    intro j n hj hd
    obtain ⟨m, rfl⟩ : ∃ m, n = m + 1 := ⟨n - 1, by omega⟩
    unfold g_X10_inYard_b4
    rw [if_neg (ev_nle h44 (by omega) (by omega)), ld_ok (show j < 3100 by omega) (by decide)]
    simp only [xs_bnd_some, xs_lt_eq, Option.bind_some, bh_cs_n, bh_cs_s, if_true, if_false, i32_10, xs_retZ1, xs_retZ0]
    rw [i32_ofadd1 (by omega)]
    exact ih (j + 1) m (by omega) (by omega)
theorem sI_toInt {f : Nat → Int32} {n : Nat} (h : ∀ i, i < n → 1 ≤ (f i).toInt) (hs : sZ f n ≤ 3000) : (sI f n).toInt = sZ f n := by
  induction n with
  | zero => rfl
  | succ n ih =>
    unfold sZ at hs
    have h1 := h n (by omega)
    have e := ih (fun i hi => h i (by omega)) (by omega)
    have h2 := sZ_ge (fun i hi => h i (show i < n + 1 by omega)) (n := n)
    unfold sI sZ
    rw [i32_add, e]
    · rw [e]; omega
    · rw [e]; omega
theorem PY.eq (hY : PY nf np Z) : Z 60 0 = sI (Z 42) np := by
  apply i32_ext
  rw [hY.2.2, sI_toInt (fun i hi => (hY.1 i hi).2) hY.2.1]
theorem ev_inYard {N : Nat} (hN : 4000 ≤ N) (hA : PA nf nl np Z) (hY : PY nf np Z) : g_X10_inYard N (xs_mg Z Y) = some (Z 60 0, xs_mg Z Y) := by
  unfold g_X10_inYard
  rw [hY.eq]
  exact ev_iy (X := xs_mg Z Y) hA.2.1.2.2 hA.1.2.2 np 0 N (by omega) (by have := hA.1.2.2; omega)
theorem ev_ow {N : Nat} {X : xs_S} {f : Nat} (hf : f < 6) (h7 : X 7 0 = Int32.ofNat nf) (hn : nf ≤ 16) : ∀ (d j n : Nat), j + d = nf → d < n → g_X10_owedOf_b7 N n (Int32.ofNat f) (sI (X 27) j) (sI (fun k => if X 18 k = Int32.ofNat f then X 27 k else 0) j) (Int32.ofNat j) X = some (X 1 f * sI (X 27) nf - 1000 * sI (fun k => if X 18 k = Int32.ofNat f then X 27 k else 0) nf, X) := by
  intro d
  induction d with
  | zero =>
    intro j n hj hd
    obtain ⟨m, rfl⟩ : ∃ m, n = m + 1 := ⟨n - 1, by omega⟩
    unfold g_X10_owedOf_b7
    rw [if_pos (ev_le h7 (by omega) (by omega) (by omega)), ld_ok hf (by decide), show j = nf by omega]
    rfl
  | succ d ih =>
    intro j n hj hd
    obtain ⟨m, rfl⟩ : ∃ m, n = m + 1 := ⟨n - 1, by omega⟩
    have hj16 : j < 16 := by omega
    unfold g_X10_owedOf_b7 g_X10_owedOf_b49
    rw [if_neg (ev_nle h7 (by omega) (by omega)), ld_ok hj16 (by decide), ld_ok hj16 (by decide)]
    simp only [xs_bnd_some, xs_lt_eq, Option.bind_some, bh_cs_n, bh_cs_s, if_true, if_false, i32_10, xs_retZ1, xs_retZ0]
    rw [i32_ofadd1 (by omega)]
    have q := ih (j + 1) m (by omega) (by omega)
    rw [sI_succ (f := X 27) (n := j), sI_succ (n := j)] at q
    by_cases e : X 18 j = Int32.ofNat f
    · rw [if_pos e]
      simp only [if_pos e] at q
      exact q
    · rw [if_neg e]
      simp only [if_neg e] at q
      exact q
/-- owed of a farmer -/
def OW (Z : xs_S) (f : Nat) : Int32 := Z 1 f * Z 61 0 - 1000 * Z 62 f
theorem ev_owedOf {N f : Nat} (hN : 4000 ≤ N) (hf : f < 6) (hA : PA nf nl np Z) (hS : PS nf Z) : g_X10_owedOf N (Int32.ofNat f) (xs_mg Z Y) = some (OW Z f, xs_mg Z Y) := by
  unfold g_X10_owedOf
  have q := ev_ow (N := N) (X := xs_mg Z Y) hf (nf := nf) hA.2.1.1 hA.1.1 nf 0 N (by omega) (by have := hA.1.1; omega)
  unfold OW
  rw [hS.1, hS.2 f hf]
  exact q
theorem pe_owed {N : Nat} (hN : 4000 ≤ N) (h : RI nf nl np Z Y) (p1 : Int32) : PR (RI nf nl np) (g_X9_owed p1 Z) (g_X10_owed N p1 (xs_mg Z Y)) := by
  unfold g_X9_owed g_X10_owed
  rcases i32_in p1 6 (by decide) with hp | ⟨j, hj, rfl⟩
  · rw [ev_faB hp, ev_isInB (n := 6) (m := 6) rfl hp]
    simp only [xs_bnd_some, xs_lt_eq, Option.bind_some, bh_cs_n, bh_cs_s, if_true, if_false, i32_10, xs_retZ1, xs_retZ0]
    exact pe_ref h (Or.inl rfl)
  · obtain ⟨⟨hA, hB, hC, hD, hG, hL, hY, hS, hT⟩, h15, h16⟩ := id h
    rw [ev_fa hj, ev_isIn (n := 6) (m := 6) rfl hj (by decide)]
    simp only [xs_bnd_some, xs_lt_eq, Option.bind_some, bh_cs_n, bh_cs_s, if_true, if_false, i32_10, xs_retZ1, xs_retZ0]
    rw [ev_owedOf hN hj hA hS]
    unfold g_X0_claim
    simp only [xs_bnd_some, xs_lt_eq, Option.bind_some, bh_cs_n, bh_cs_s, if_true, if_false, i32_10, xs_retZ1, xs_retZ0]
    rw [Int32.add_comm]
    exact PR.ret h
/-- a lorry is out to a field -/
theorem ev_iot {l p : Nat} (hp : p < 2147483648) : g_X3_isOutTo l p Z = some ((if Z 34 l = 1 ∧ Z 35 l = Int32.ofNat p then 1 else 0), Z) := by
  unfold g_X3_isOutTo
  by_cases e1 : Z 34 l = 1
  · by_cases e2 : Z 35 l = Int32.ofNat p
    · rw [if_pos e1, if_pos ⟨e1, e2⟩, xs_lt_eq, if_pos ((rf_iff hp).mpr e2)]
      rfl
    · rw [if_pos e1, if_neg (fun z => e2 z.2), xs_lt_eq, if_neg (fun z => e2 ((rf_iff hp).mp z))]
      rfl
  · rw [if_neg e1, if_neg (fun z => e1 z.1)]
    rfl
def NO (Z : xs_S) (p : Nat) : Nat → Int32 := fun l => if Z 34 l = 1 ∧ Z 35 l = Int32.ofNat p then 1 else 0
def TK (Z : xs_S) (p : Nat) : Nat → Int32 := fun l => if Z 34 l = 1 ∧ Z 35 l = Int32.ofNat p then Z 33 l else 0
theorem ev_lo {N p : Nat} (hp : p < 16) (h8 : Z 8 0 = Int32.ofNat nl) (hn : nl ≤ 8) : ∀ (d j n : Nat), j + d = nl → d < n → g_X9_lorriesOutTo_b4 N n p (sI (NO Z p) j) (Int32.ofNat j) Z = some (sI (NO Z p) nl, Z) := by
  intro d
  induction d with
  | zero =>
    intro j n hj hd
    obtain ⟨m, rfl⟩ : ∃ m, n = m + 1 := ⟨n - 1, by omega⟩
    unfold g_X9_lorriesOutTo_b4
    rw [if_pos (ev_le h8 (by omega) (by omega) (by omega)), show j = nl by omega]
  | succ d ih =>
    intro j n hj hd
    obtain ⟨m, rfl⟩ : ∃ m, n = m + 1 := ⟨n - 1, by omega⟩
    unfold g_X9_lorriesOutTo_b4 g_X9_lorriesOutTo_b36
    rw [if_neg (ev_nle h8 (by omega) (by omega)), gt_ok h8 (by omega) (by omega)]
    simp only [xs_bnd_some, xs_lt_eq, Option.bind_some, bh_cs_n, bh_cs_s, if_true, if_false, i32_10, xs_retZ1, xs_retZ0]
    rw [ev_iot (by omega), i32_ofadd1 (by omega)]
    have q := ih (j + 1) m (by omega) (by omega)
    rw [sI] at q
    by_cases e : Z 34 j = 1 ∧ Z 35 j = Int32.ofNat p
    · rw [if_pos e]
      rw [show NO Z p j = 1 from if_pos e] at q
      simp only [xs_bnd_some, xs_lt_eq, Option.bind_some, bh_cs_n, bh_cs_s, if_true, if_false, i32_10, xs_retZ1, xs_retZ0]
      exact q
    · rw [if_neg e]
      rw [show NO Z p j = 0 from if_neg e, Int32.add_zero] at q
      simp only [xs_bnd_some, xs_lt_eq, Option.bind_some, bh_cs_n, bh_cs_s, if_true, if_false, i32_10, xs_retZ1, xs_retZ0]
      exact q
theorem ev_loM {N p : Nat} {X : xs_S} (hp : p < 16) (h8 : X 8 0 = Int32.ofNat nl) (hn : nl ≤ 8) : ∀ (d j n : Nat), j + d = nl → d < n → g_X10_fieldOf_b165 N n (Int32.ofNat p) (sI (NO X p) j) (Int32.ofNat j) X = some (sI (NO X p) nl, X) := by
  intro d
  induction d with
  | zero =>
    intro j n hj hd
    obtain ⟨m, rfl⟩ : ∃ m, n = m + 1 := ⟨n - 1, by omega⟩
    unfold g_X10_fieldOf_b165
    rw [if_pos (ev_le h8 (by omega) (by omega) (by omega)), show j = nl by omega]
  | succ d ih =>
    intro j n hj hd
    obtain ⟨m, rfl⟩ : ∃ m, n = m + 1 := ⟨n - 1, by omega⟩
    have hj8 : j < 8 := by omega
    unfold g_X10_fieldOf_b165 g_X10_fieldOf_b201 g_X10_fieldOf_b202
    rw [if_neg (ev_nle h8 (by omega) (by omega)), ld_ok hj8 (by decide), ld_ok hj8 (by decide)]
    simp only [xs_bnd_some, xs_lt_eq, Option.bind_some, bh_cs_n, bh_cs_s, if_true, if_false, i32_10, xs_retZ1, xs_retZ0]
    rw [i32_ofadd1 (by omega)]
    have q := ih (j + 1) m (by omega) (by omega)
    rw [sI] at q
    by_cases e1 : X 34 j = 1
    · rw [if_pos e1]
      by_cases e2 : X 35 j = Int32.ofNat p
      · rw [if_pos e2]
        rw [show NO X p j = 1 from if_pos ⟨e1, e2⟩] at q
        exact q
      · rw [if_neg e2]
        rw [show NO X p j = 0 from if_neg (fun z => e2 z.2)] at q
        exact q
    · rw [if_neg e1]
      rw [show NO X p j = 0 from if_neg (fun z => e1 z.1)] at q
      exact q
/-- roots to spare -/
theorem ev_sp {N p : Nat} (hp : p < 16) (h8 : Z 8 0 = Int32.ofNat nl) (hn : nl ≤ 8) : ∀ (d j n : Nat), j + d = nl → d < n → g_X9_hasRootsToSpare_b4 N n p (sI (TK Z p) j) (Int32.ofNat j) Z = some ((if Z 22 p ≤ sI (TK Z p) nl then 0 else 1), Z) := by
  intro d
  induction d with
  | zero =>
    intro j n hj hd
    obtain ⟨m, rfl⟩ : ∃ m, n = m + 1 := ⟨n - 1, by omega⟩
    unfold g_X9_hasRootsToSpare_b4
    rw [if_pos (ev_le h8 (by omega) (by omega) (by omega)), show j = nl by omega]
    by_cases e : Z 22 p ≤ sI (TK Z p) nl
    · rw [if_pos e, if_pos e]
      rfl
    · rw [if_neg e, if_neg e]
      rfl
  | succ d ih =>
    intro j n hj hd
    obtain ⟨m, rfl⟩ : ∃ m, n = m + 1 := ⟨n - 1, by omega⟩
    unfold g_X9_hasRootsToSpare_b4 g_X9_hasRootsToSpare_b45
    rw [if_neg (ev_nle h8 (by omega) (by omega)), gt_ok h8 (by omega) (by omega)]
    simp only [xs_bnd_some, xs_lt_eq, Option.bind_some, bh_cs_n, bh_cs_s, if_true, if_false, i32_10, xs_retZ1, xs_retZ0]
    rw [ev_iot (by omega), i32_ofadd1 (by omega)]
    have q := ih (j + 1) m (by omega) (by omega)
    rw [sI] at q
    by_cases e : Z 34 j = 1 ∧ Z 35 j = Int32.ofNat p
    · rw [if_pos e]
      rw [show TK Z p j = Z 33 j from if_pos e] at q
      simp only [xs_bnd_some, xs_lt_eq, Option.bind_some, bh_cs_n, bh_cs_s, if_true, if_false, i32_10, xs_retZ1, xs_retZ0]
      exact q
    · rw [if_neg e]
      rw [show TK Z p j = 0 from if_neg e, Int32.add_zero] at q
      simp only [xs_bnd_some, xs_lt_eq, Option.bind_some, bh_cs_n, bh_cs_s, if_true, if_false, i32_10, xs_retZ1, xs_retZ0]
      exact q
theorem ev_il0 {N p : Nat} {X : xs_S} {r : Int32} (hp : p < 16) (h8 : X 8 0 = Int32.ofNat nl) (hn : nl ≤ 8) : ∀ (d j n : Nat), j + d = nl → d < n → g_X10_isLeft_b9 N n (Int32.ofNat p) (r - sI (TK X p) j) (Int32.ofNat j) X = some ((if r - sI (TK X p) nl ≤ 0 then 0 else 1), X) := by
  intro d
  induction d with
  | zero =>
    intro j n hj hd
    obtain ⟨m, rfl⟩ : ∃ m, n = m + 1 := ⟨n - 1, by omega⟩
    unfold g_X10_isLeft_b9
    rw [if_pos (ev_le h8 (by omega) (by omega) (by omega)), show j = nl by omega]
    by_cases e : r - sI (TK X p) nl ≤ 0
    · rw [if_pos e, if_pos e]
      rfl
    · rw [if_neg e, if_neg e]
      rfl
  | succ d ih =>
    intro j n hj hd
    obtain ⟨m, rfl⟩ : ∃ m, n = m + 1 := ⟨n - 1, by omega⟩
    have hj8 : j < 8 := by omega
    have hsub : ∀ a b c : Int32, a - (b + c) = a - b - c := fun a b c => by
      rw [Int32.sub_eq_add_neg (a := a) (b := b + c), Int32.neg_add, Int32.sub_eq_add_neg (a := -b) (b := c), ← Int32.add_assoc, ← Int32.sub_eq_add_neg, ← Int32.sub_eq_add_neg]
    unfold g_X10_isLeft_b9 g_X10_isLeft_b47 g_X10_isLeft_b48
    rw [if_neg (ev_nle h8 (by omega) (by omega)), ld_ok hj8 (by decide), ld_ok hj8 (by decide), ld_ok hj8 (by decide)]
    simp only [xs_bnd_some, xs_lt_eq, Option.bind_some, bh_cs_n, bh_cs_s, if_true, if_false, i32_10, xs_retZ1, xs_retZ0]
    rw [i32_ofadd1 (by omega)]
    have q := ih (j + 1) m (by omega) (by omega)
    rw [sI, hsub] at q
    by_cases e1 : X 34 j = 1
    · rw [if_pos e1]
      by_cases e2 : X 35 j = Int32.ofNat p
      · rw [if_pos e2]
        rw [show TK X p j = X 33 j from if_pos ⟨e1, e2⟩] at q
        exact q
      · rw [if_neg e2]
        rw [show TK X p j = 0 from if_neg (fun z => e2 z.2)] at q
        exact q
    · rw [if_neg e1]
      rw [show TK X p j = 0 from if_neg (fun z => e1 z.1)] at q
      exact q
theorem TK_le (hL : PL nf nl Z) {p : Nat} : ∀ j, j ≤ nl → nl ≤ 8 → 0 ≤ (sI (TK Z p) j).toInt ∧ (sI (TK Z p) j).toInt ≤ 100 * j := by
  intro j
  induction j with
  | zero =>
    intro _ _
    show 0 ≤ (0 : Int32).toInt ∧ (0 : Int32).toInt ≤ 100 * ((0 : Nat) : Int)
    exact ⟨by decide, by decide⟩
  | succ j ih =>
    intro h1 h2
    obtain ⟨a, b⟩ := ih (by omega) h2
    have c := (hL j (by omega)).1
    have e : 0 ≤ (TK Z p j).toInt ∧ (TK Z p j).toInt ≤ 100 := by
      unfold TK
      split
      · omega
      · exact ⟨by decide, by decide⟩
    unfold sI
    rw [i32_add (by omega) (by omega)]
    omega
/-- the field has roots to spare -/
abbrev LF (nl : Nat) (Z : xs_S) (p : Nat) : Prop := ¬ Z 22 p ≤ sI (TK Z p) nl
theorem ev_spare {N p : Nat} (hN : 4000 ≤ N) (hA : PA nf nl np Z) (hp : p < nf) : g_X9_hasRootsToSpare N p Z = some ((if LF nl Z p then 1 else 0), Z) := by
  have hn := hA.1.2.1
  have q := ev_sp (N := N) (p := p) (by have := hA.1.1; omega) hA.2.1.2.1 hn nl 0 N (by omega) (by omega)
  unfold g_X9_hasRootsToSpare
  show g_X9_hasRootsToSpare_b4 N N p (sI (TK Z p) 0) (Int32.ofNat 0) Z = _
  refine q.trans ?_
  unfold LF
  by_cases e : Z 22 p ≤ sI (TK Z p) nl
  · rw [if_pos e, if_neg (fun z => z e)]
  · rw [if_neg e, if_pos e]
theorem ev_isLeft {N p : Nat} (hN : 4000 ≤ N) (h : PI nf nl np Z) (hp : p < nf) : g_X10_isLeft N (Int32.ofNat p) (xs_mg Z Y) = some ((if LF nl Z p then 1 else 0), xs_mg Z Y) := by
  obtain ⟨hA, hB, hC, hD, hG, hL, hY, hS, hT⟩ := h
  have hn := hA.1.2.1
  have hf := hA.1.1
  have q := ev_il0 (N := N) (p := p) (X := xs_mg Z Y) (r := Z 22 p) (by omega) hA.2.1.2.1 hn nl 0 N (by omega) (by omega)
  unfold g_X10_isLeft
  rw [ld_ok (show p < 16 by omega) (by decide)]
  simp only [xs_bnd_some, xs_lt_eq, Option.bind_some, bh_cs_n, bh_cs_s, if_true, if_false, i32_10, xs_retZ1, xs_retZ0]
  rw [show Z 22 p - sI (TK (xs_mg Z Y) p) 0 = Z 22 p from Int32.sub_zero _] at q
  refine q.trans ?_
  have t := TK_le hL (p := p) nl (Nat.le_refl _) hn
  have r := (hC p hp).2.1
  unfold LF
  show some ((if Z 22 p - sI (TK Z p) nl ≤ 0 then (0 : Int32) else 1), xs_mg Z Y) = _
  have e0 : Z 22 p - sI (TK Z p) nl ≤ 0 ↔ Z 22 p ≤ sI (TK Z p) nl := by
    rw [i32_le, i32_le, i32_sub (by omega) (by omega)]
    show _ ≤ (0 : Int) ↔ _
    omega
  by_cases e : Z 22 p ≤ sI (TK Z p) nl
  · rw [if_pos (e0.mpr e), if_neg (fun z => z e)]
  · rw [if_neg (fun z => e (e0.mp z)), if_pos e]
theorem pe_fieldOf {N : Nat} (hN : 4000 ≤ N) (h : RI nf nl np Z Y) (p1 p2 : Int32) : PR (RI nf nl np) (g_X9_fieldOf N p1 p2 Z) (g_X10_fieldOf N p1 p2 (xs_mg Z Y)) := by
  obtain ⟨⟨hA, hB, hC, hD, hG, hL, hY, hS, hT⟩, h15, h16⟩ := id h
  have h7 : Z 7 0 = Int32.ofNat nf := hA.2.1.1
  have hn : nf ≤ 16 := hA.1.1
  unfold g_X9_fieldOf g_X10_fieldOf
  rcases i32_in p1 nf (by omega) with hp | ⟨j, hj, rfl⟩
  · rw [ev_paB h7 hp, ev_ifB (X := xs_mg Z Y) h7 hp]
    simp only [xs_bnd_some, xs_lt_eq, Option.bind_some, bh_cs_n, bh_cs_s, if_true, if_false, i32_10, xs_retZ1, xs_retZ0]
    exact pe_ref h (by decide)
  · rw [ev_pa h7 hn hj, ev_if (X := xs_mg Z Y) h7 hn hj]
    simp only [xs_bnd_some, xs_lt_eq, Option.bind_some, bh_cs_n, bh_cs_s, if_true, if_false, i32_10, xs_retZ1, xs_retZ0]
    have hj2 : j < 16 := by omega
    have q := hC j hj
    by_cases e0 : p2 = 0
    · rw [if_pos e0, if_pos e0, ld_ok hj2 (by decide)]
      exact PR.ret h
    rw [if_neg e0, if_neg e0]
    by_cases e1 : p2 = 1
    · rw [if_pos e1, if_pos e1, ld_ok hj2 (by decide)]
      exact PR.ret h
    rw [if_neg e1, if_neg e1]
    by_cases e2 : p2 = 2
    · rw [if_pos e2, if_pos e2, ld_ok hj2 (by decide)]
      exact PR.ret h
    rw [if_neg e2, if_neg e2]
    by_cases e3 : p2 = 3
    · rw [if_pos e3, if_pos e3, ld_ok hj2 (by decide)]
      simp only [xs_bnd_some, xs_lt_eq, Option.bind_some, bh_cs_n, bh_cs_s, if_true, if_false, i32_10, xs_retZ1, xs_retZ0, mg_29]
      by_cases e : Z 29 j = 0
      · rw [if_pos e, if_pos e]
        exact PR.ret h
      · rw [if_neg e, if_neg e]
        exact PR.ret h
    rw [if_neg e3, if_neg e3]
    by_cases e4 : p2 = 4
    · rw [if_pos e4, if_pos e4, ld_ok hj2 (by decide)]
      simp only [xs_bnd_some, xs_lt_eq, Option.bind_some, bh_cs_n, bh_cs_s, if_true, if_false, i32_10, xs_retZ1, xs_retZ0, mg_30]
      by_cases e : Z 30 j = 0
      · rw [if_pos e, if_pos e]
        exact PR.ret h
      · rw [if_neg e, if_neg e]
        exact PR.ret h
    rw [if_neg e4, if_neg e4]
    by_cases e5 : p2 = 5
    · rw [if_pos e5, if_pos e5, ld_ok hj2 (by decide)]
      exact PR.ret h
    rw [if_neg e5, if_neg e5]
    by_cases e6 : p2 = 6
    · rw [if_pos e6, if_pos e6, ld_ok hj2 (by decide)]
      exact PR.ret h
    rw [if_neg e6, if_neg e6]
    by_cases e7 : p2 = 7
    · rw [if_pos e7, if_pos e7, ld_ok hj2 (by decide)]
      exact PR.ret h
    rw [if_neg e7, if_neg e7]
    by_cases e8 : p2 = 8
    · rw [if_pos e8, if_pos e8, ld_ok hj2 (by decide)]
      exact PR.ret h
    rw [if_neg e8, if_neg e8]
    by_cases e9 : p2 = 9
    · rw [if_pos e9, if_pos e9, ld_ok hj2 (by decide)]
      obtain ⟨f, hf, ef⟩ := i32_inI (n := 6) q.1.1 q.1.2
      rw [ef, rf_ok (by omega)]
      simp only [xs_bnd_some, xs_lt_eq, Option.bind_some, bh_cs_n, bh_cs_s, if_true, if_false, i32_10, xs_retZ1, xs_retZ0, mg_18]
      rw [hB.2.2.1 f hf, ef]
      exact PR.ret h
    rw [if_neg e9, if_neg e9]
    by_cases e10 : p2 = 10
    · rw [if_pos e10, if_pos e10]
      unfold g_X9_lorriesOutTo
      have q1 := ev_lo (N := N) (p := j) hj2 hA.2.1.2.1 hA.1.2.1 nl 0 N (by omega) (by have := hA.1.2.1; omega)
      have q2 := ev_loM (N := N) (p := j) (X := xs_mg Z Y) hj2 hA.2.1.2.1 hA.1.2.1 nl 0 N (by omega) (by have := hA.1.2.1; omega)
      have q1' : g_X9_lorriesOutTo_b4 N N j 0 0 Z = some (sI (NO Z j) nl, Z) := q1
      have q2' : g_X10_fieldOf_b165 N N (Int32.ofNat j) 0 0 (xs_mg Z Y) = some (sI (NO Z j) nl, xs_mg Z Y) := q2
      rw [q1', q2']
      exact PR.ret h
    rw [if_neg e10, if_neg e10]
    exact pe_ref h (by decide)
theorem pe_count {N : Nat} (hN : 4000 ≤ N) (h : RI nf nl np Z Y) (p1 : Int32) : PR (RI nf nl np) (g_X9_count N p1 Z) (g_X10_count N p1 (xs_mg Z Y)) := by
  obtain ⟨⟨hA, hB, hC, hD, hG, hL, hY, hS, hT⟩, h15, h16⟩ := id h
  have h7 : Z 7 0 = Int32.ofNat nf := hA.2.1.1
  have hn : nf ≤ 16 := hA.1.1
  have key : PR (RI nf nl np) (g_X9_count_b22 N p1 Z) (g_X10_count_b22 N p1 (xs_mg Z Y)) := by
    unfold g_X9_count_b22 g_X10_count_b22
    by_cases e : p1 = 0
    · rw [if_pos e, if_pos e]; exact PR.ret h
    rw [if_neg e, if_neg e]; clear e
    by_cases e : p1 = 1
    · rw [if_pos e, if_pos e]; exact PR.ret h
    rw [if_neg e, if_neg e]; clear e
    by_cases e : p1 = 2
    · rw [if_pos e, if_pos e]; exact PR.ret h
    rw [if_neg e, if_neg e]; clear e
    by_cases e : p1 = 3
    · rw [if_pos e, if_pos e, ev_inYard hN hA hY]; exact PR.ret h
    rw [if_neg e, if_neg e]; clear e
    by_cases e : p1 = 4
    · rw [if_pos e, if_pos e]; exact PR.ret h
    rw [if_neg e, if_neg e]; clear e
    by_cases e : p1 = 5
    · rw [if_pos e, if_pos e]; exact PR.ret h
    rw [if_neg e, if_neg e]; clear e
    by_cases e : p1 = 6
    · rw [if_pos e, if_pos e]; exact PR.ret h
    rw [if_neg e, if_neg e]; clear e
    by_cases e : p1 = 7
    · rw [if_pos e, if_pos e]; exact PR.ret h
    rw [if_neg e, if_neg e]; clear e
    by_cases e : p1 = 8
    · rw [if_pos e, if_pos e]
      have q : g_X9_wasteOfAll N Z = some (sI (Z 25) nf, Z) := ev_woa h7 hn nf 0 N (by omega) (by omega)
      rw [q]
      simp only [xs_bnd_some, xs_lt_eq, Option.bind_some, bh_cs_n, bh_cs_s, if_true, if_false, i32_10, xs_retZ1, xs_retZ0, mg_15]
      rw [h15]
      exact PR.ret h
    rw [if_neg e, if_neg e]; clear e
    by_cases e : p1 = 9
    · rw [if_pos e, if_pos e]
      have q : g_X9_spoiledOfAll N Z = some (sI (Z 26) nf, Z) := ev_soa h7 hn nf 0 N (by omega) (by omega)
      rw [q]
      simp only [xs_bnd_some, xs_lt_eq, Option.bind_some, bh_cs_n, bh_cs_s, if_true, if_false, i32_10, xs_retZ1, xs_retZ0, mg_16]
      rw [h16]
      exact PR.ret h
    rw [if_neg e, if_neg e]; clear e
    by_cases e : p1 = 10
    · rw [if_pos e, if_pos e]; exact PR.ret h
    rw [if_neg e, if_neg e]; clear e
    by_cases e : p1 = 11
    · rw [if_pos e, if_pos e]; exact PR.ret h
    rw [if_neg e, if_neg e]; clear e
    by_cases e : p1 = 12
    · rw [if_pos e, if_pos e]; exact PR.ret h
    rw [if_neg e, if_neg e]; clear e
    by_cases e : p1 = 13
    · rw [if_pos e, if_pos e]; exact PR.ret h
    rw [if_neg e, if_neg e]; clear e
    by_cases e : p1 = 14
    · rw [if_pos e, if_pos e]; exact PR.ret h
    rw [if_neg e, if_neg e]; clear e
    by_cases e : p1 = 15
    · rw [if_pos e, if_pos e]; exact PR.ret h
    rw [if_neg e, if_neg e]; clear e
    by_cases e : p1 = 16
    · rw [if_pos e, if_pos e]; exact PR.ret h
    rw [if_neg e, if_neg e]; clear e
    by_cases e : p1 = 17
    · rw [if_pos e, if_pos e]
      by_cases e2 : Z 17 0 = 0
      · rw [if_pos e2, if_pos (show xs_mg Z Y 17 0 = 0 from e2)]; exact PR.ret h
      · rw [if_neg e2, if_neg (show ¬ xs_mg Z Y 17 0 = 0 from e2)]; exact PR.ret h
    rw [if_neg e, if_neg e]
    exact PR.ret h
  unfold g_X9_count g_X10_count
  have c1 : p1 < 11 ↔ p1 ≤ 10 := by
    rw [i32_lt, i32_le]
    show p1.toInt < 11 ↔ p1.toInt ≤ 10
    omega
  have c2 : 16 < p1 ↔ 17 ≤ p1 := by
    rw [i32_lt, i32_le]
    show 16 < p1.toInt ↔ 17 ≤ p1.toInt
    omega
  by_cases e1 : p1 < 11
  · rw [if_pos e1, if_pos (c1.mp e1)]
    exact key
  · rw [if_neg e1, if_neg (fun z => e1 (c1.mpr z))]
    by_cases e2 : 16 < p1
    · rw [if_pos e2, if_pos (c2.mp e2)]
      exact key
    · rw [if_neg e2, if_neg (fun z => e2 (c2.mpr z))]
      rw [i32_lt] at e1 e2
      have e1 : ¬ p1.toInt < 11 := e1
      have e2 : ¬ 16 < p1.toInt := e2
      have t : (p1 - 10).toInt = p1.toInt - 10 := i32_sub (by show _ ≤ p1.toInt - 10; omega) (by show p1.toInt - 10 < _; omega)
      obtain ⟨j, hj, ej⟩ := i32_inI (p := p1 - 10) (n := 7) (by omega) (by omega)
      rw [ej, ld_ok hj (by decide), ld_ok hj (by decide)]
      exact PR.ret h
/-! a new lorry, a new field -/
theorem pe_lorry (h : RI nf nl np Z Y) (p1 : Int32) : PR RE (g_X9_lorry p1 Z) (g_X10_lorry p1 (xs_mg Z Y)) := by
  obtain ⟨⟨hA, hB, hC, hD, hG, hL, hY, hS, hT⟩, h15, h16⟩ := id h
  have h8 : Z 8 0 = Int32.ofNat nl := hA.2.1.2.1
  have hn : nl ≤ 8 := hA.1.2.1
  have mono : ∀ Z Y, RI nf nl np Z Y → RE Z Y := fun Z Y h => ⟨nf, nl, np, h⟩
  unfold g_X9_lorry g_X10_lorry g_X9_lorry_b30 g_X10_lorry_b27
  by_cases c1 : 1 ≤ p1
  · rw [if_pos c1, if_pos c1]
    by_cases c2 : 100 < p1
    · rw [if_pos c2, if_pos c2]
      exact (pe_ref h (by decide)).mono mono
    · rw [if_neg c2, if_neg c2]
      by_cases c3 : nl = 8
      · rw [if_neg (show ¬ Z 8 0 < 8 by rw [h8, c3]; decide), if_pos (show xs_mg Z Y 8 0 = 8 by show Z 8 0 = 8; rw [h8, c3]; rfl)]
        exact (pe_ref h (by decide)).mono mono
      · have hl8 : nl < 8 := by omega
        have n8 : (Z 8 0).toNatClampNeg = nl := by rw [h8]; exact i32_natof (by omega)
        have hT1 := hT.1
        have hT2 := hT.2
        have hA1 := hA.2.2.1
        have hf := hA.1.1
        have hg : Z 8 0 < 8 ∧ 0 ≤ Z 90 0 ∧ Z 90 0 < 1000000 := by
          refine ⟨?_, ?_, ?_⟩
          · rw [h8]
            exact (i32_oflt (n := 8) (by omega) (by decide)).mpr hl8
          · rw [i32_le]
            show (0 : Int) ≤ _
            omega
          · rw [i32_lt]
            show _ < (1000000 : Int)
            omega
        rw [if_pos hg.1, if_neg (show ¬ xs_mg Z Y 8 0 = 8 by show ¬ Z 8 0 = 8; rw [h8]; intro e; have := (i32_ofeq (n := 8) (by omega) (by decide)).mp e; omega)]
        unfold g_X9_lorry_new
        rw [if_pos hg]
        show PR RE _ (((xs_st 8 (xs_mg Z Y) 33 (Z 8 0) p1)).bind _)
        rw [h8, st_ok hl8 (by decide), mg_up (by decide)]
        simp only [xs_bnd_some, xs_lt_eq, Option.bind_some, bh_cs_n, bh_cs_s, if_true, if_false, i32_10, xs_retZ1, xs_retZ0]
        show PR RE _ (((xs_st 8 (xs_mg (xs_up Z 33 nl p1) Y) 35 (Z 8 0) (-9))).bind _)
        rw [h8, st_ok hl8 (by decide), mg_up (by decide)]
        simp only [xs_bnd_some, xs_lt_eq, Option.bind_some, bh_cs_n, bh_cs_s, if_true, if_false, i32_10, xs_retZ1, xs_retZ0]
        show PR RE _ (((xs_st 8 (xs_mg (xs_up (xs_up Z 33 nl p1) 35 nl (-9)) Y) 36 (Z 8 0) (-9))).bind _)
        rw [h8, st_ok hl8 (by decide), mg_up (by decide)]
        simp only [xs_bnd_some, xs_lt_eq, Option.bind_some, bh_cs_n, bh_cs_s, if_true, if_false, i32_10, xs_retZ1, xs_retZ0]
        rw [mg_up (by decide)]
        have hd := hD.2 nl (Nat.le_refl _)
        have hZ : xs_mg (xs_up (xs_up (xs_up (xs_up Z 33 nl p1) 35 nl (-9)) 36 nl (-9)) 8 0 (Z 8 0 + 1)) Y = xs_mg (xs_nO p1 Z) Y := by
          unfold xs_nO
          rw [n8, mg_ign (k := 90) (by decide)]
          rw [xs_up_same (k := 40) (by show Z 40 nl = 0; exact hd.2.2.2.2), xs_up_same (k := 39) (by show Z 39 nl = 0; exact hd.2.2.2.1), xs_up_same (k := 38) (by show Z 38 nl = 0; exact hd.2.2.1), xs_up_same (k := 37) (by show Z 37 nl = 0; exact hd.2.1), xs_up_same (k := 34) (by show Z 34 nl = 0; exact hd.1)]
        show PR RE _ (some (xs_up Z 8 0 (Z 8 0 + 1) 8 0 - 1, xs_mg (xs_up (xs_up (xs_up (xs_up Z 33 nl p1) 35 nl (-9)) 36 nl (-9)) 8 0 (Z 8 0 + 1)) Y))
        rw [hZ]
        refine PR.ret ⟨nf, nl + 1, np, ⟨⟨⟨⟨hA.1.1, by omega, hA.1.2.2⟩, ⟨hA.2.1.1, ?_, hA.2.1.2.2⟩, hA.2.2⟩, hB, hC, ⟨hD.1, fun i hi => ?_⟩, hG, fun i hi => ?_, hY, hS, ?_⟩, h15, h16⟩⟩
        · show Z 8 0 + 1 = _
          rw [h8]
          exact i32_ofadd1 (by omega)
        · have hi' : i ≠ (Z 8 0).toNatClampNeg := by rw [n8]; omega
          rw [xs_nO_ni hi' (by decide) (by decide), xs_nO_ni hi' (by decide) (by decide), xs_nO_ni hi' (by decide) (by decide), xs_nO_ni hi' (by decide) (by decide), xs_nO_ni hi' (by decide) (by decide)]
          exact hD.2 i (by omega)
        · by_cases e : i = nl
          · subst e
            have v : LO nf p1 0 (-9) (-9) 0 0 := by
              rw [i32_le] at c1
              rw [i32_lt] at c2
              exact ⟨⟨c1, Int.not_lt.mp c2⟩, Or.inl ⟨rfl, rfl, rfl⟩, ⟨by decide, by decide⟩, ⟨by decide, by decide⟩⟩
            have e1 : ∀ k v, xs_nO p1 Z k i = v → xs_nO p1 Z k i = v := fun _ _ h => h
            unfold xs_nO
            rw [n8]
            simp only [xs_up]
            exact v
          · have hi' : i ≠ (Z 8 0).toNatClampNeg := by rw [n8]; omega
            rw [xs_nO_ni hi' (by decide) (by decide), xs_nO_ni hi' (by decide) (by decide), xs_nO_ni hi' (by decide) (by decide), xs_nO_ni hi' (by decide) (by decide), xs_nO_ni hi' (by decide) (by decide), xs_nO_ni hi' (by decide) (by decide)]
            exact hL i (by omega)
        · have e9 : (Z 90 0 + 1).toInt = (Z 90 0).toInt + 1 := i32_add (b := 1) (by show _ ≤ (Z 90 0).toInt + 1; omega) (by show (Z 90 0).toInt + 1 < _; omega)
          show 0 ≤ (Z 90 0 + 1).toInt ∧ (Z 90 0 + 1).toInt ≤ nf + ((nl + 1 : Nat) : Int) + 8 * (Z 6 0).toInt
          rw [e9]
          omega
  · rw [if_neg c1, if_neg c1]
    exact (pe_ref h (by decide)).mono mono
end PL
