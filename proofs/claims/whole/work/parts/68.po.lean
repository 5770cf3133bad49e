/-! ===== the pure side: BEST, its rows ===== -/
theorem bt_shl : ∀ k, k < 9 → (1 : Int32) <<< (Int32.ofNat k &&& 31) = Int32.ofNat (2 ^ k) := by decide +kernel
theorem bt_and : ∀ k, k < 8 → ∀ s, s < 256 → ((Int32.ofNat s &&& Int32.ofNat (2 ^ k) = 0) ↔ s.testBit k = false) := by decide +kernel
theorem bt_shr : ∀ k, k < 8 → ∀ s, s < 256 → (((Int32.ofNat s >>> (Int32.ofNat k &&& 31)) &&& 1 = 1) ↔ s.testBit k = true) := by decide +kernel
theorem bt_or : ∀ k, k < 8 → ∀ s, s < 256 → s.testBit k = false → Int32.ofNat s ||| Int32.ofNat (2 ^ k) = Int32.ofNat (s + 2 ^ k) := by decide +kernel
theorem bt_lt : ∀ H, H < 9 → ∀ k, k < H → ∀ s, s < 2 ^ H → s.testBit k = false → s + 2 ^ k < 2 ^ H := by decide +kernel
theorem bt_all : ∀ H, H < 9 → ∀ s, s < 2 ^ H → (∀ k, k < H → s.testBit k = true) → s + 1 = 2 ^ H := by decide +kernel
theorem bt_hi : ∀ H, H < 9 → ∀ s, s < 2 ^ H → s.testBit H = false ∧ (s + 2 ^ H).testBit H = true ∧ ∀ k, k < H → (s + 2 ^ H).testBit k = s.testBit k := by decide +kernel
theorem bt_pow : ∀ H, H < 9 → 2 ^ H ≤ 256 ∧ 1 ≤ 2 ^ H ∧ Int32.ofNat (2 ^ H) - 1 = Int32.ofNat (2 ^ H - 1) ∧ Int32.ofNat (2 ^ H - 1) - 1 = Int32.ofNat (2 ^ H - 1) + -1 ∧ Int32.ofNat (2 ^ H) - 2 = Int32.ofNat (2 ^ H - 1) + -1 := by decide +kernel
def bc (s : Nat) : Nat → Nat
  | 0 => 0
  | k + 1 => bc s k + if s.testBit k = true then 1 else 0
theorem bc_up : ∀ H, H < 9 → ∀ k, k < H → ∀ s, s < 2 ^ H → s.testBit k = false → bc (s + 2 ^ k) H = bc s H + 1 := by decide +kernel
theorem bc_lt : ∀ H, H < 9 → ∀ s, s < 2 ^ H → bc s H < H → s + 1 < 2 ^ H := by decide +kernel
theorem bc_0 : ∀ H, H < 9 → bc 0 H = 0 := by decide +kernel
theorem i32_ofdiv {m n : Nat} (hm : m < 2147483648) (hn : n < 2147483648) : Int32.ofNat m / Int32.ofNat n = Int32.ofNat (m / n) := by
  have := Nat.div_le_self m n
  apply i32_ext
  rw [i32_div (by rw [i32_of hm]; omega), i32_of hm, i32_of hn, i32_of (by omega)]
  rfl
theorem i32_ofmul24 {m : Nat} (hm : m < 1000000) : Int32.ofNat m * 24 = Int32.ofNat (m * 24) := by
  have e : (24 : Int32).toInt = 24 := by decide
  apply i32_ext
  rw [i32_mul, i32_of (by omega), i32_of (by omega), e]
  · omega
  · rw [i32_of (by omega), e]; omega
  · rw [i32_of (by omega), e]; omega
theorem i32_subsub {a v : Int32} : a - (a - v) = v := by
  rw [Int32.sub_eq_iff_eq_add, Int32.add_comm, Int32.sub_add_cancel]
def tbl (Z : xs_S) (d : Nat) : Int32 := Z 4 (Z 3 d).toNatClampNeg
/-- what heap f has wasted behind e ends of days -/
def VV (Z : xs_S) (f to : Nat) : Nat → Int32
  | 0 => 0
  | e + 1 => VV Z f to e + WO Z f (Z 23 f - VV Z f to e) (tbl Z (to + e))
def en (hr b : Nat) : Nat := min b 2400 / 24 - hr / 24
def bg (hr : Nat) (l : Nat → Nat) (s : Nat) : Nat → Nat
  | 0 => hr
  | k + 1 => bg hr l s k + if s.testBit k = true then l k else 0
theorem bg_le {hr H : Nat} {l : Nat → Nat} {s : Nat} (hl : ∀ k, k < H → l k ≤ 11000) : ∀ k, k ≤ H → hr ≤ bg hr l s k ∧ bg hr l s k ≤ hr + 11000 * k := by
  intro k
  induction k with
  | zero => intro _; unfold bg; omega
  | succ k ih =>
    intro h
    have q := ih (by omega)
    have q2 := hl k (by omega)
    unfold bg
    split <;> omega
theorem bg_congr {hr : Nat} {l l' : Nat → Nat} {s s' : Nat} : ∀ k, (∀ i, i < k → l i = l' i) → (∀ i, i < k → s.testBit i = s'.testBit i) → bg hr l s k = bg hr l' s' k := by
  intro k
  induction k with
  | zero => intro _ _; rfl
  | succ k ih =>
    intro h1 h2
    unfold bg
    rw [ih (fun i hi => h1 i (by omega)) (fun i hi => h2 i (by omega)), h1 k (by omega), h2 k (by omega)]
section PO
variable {nf nl np : Nat} {Z Y Z0 : xs_S} {N : Nat}
theorem tbl_le (hB : PB nf Z) {d : Nat} (hd : d < 100) : 0 ≤ (tbl Z d).toInt ∧ (tbl Z d).toInt ≤ 100 := by
  have q := hB.1 d hd
  exact hB.2.1 (Z 3 d).toNatClampNeg (by rw [i32_nat]; omega)
theorem VV_le (hB : PB nf Z) {f to : Nat} (hs : 0 ≤ (Z 23 f).toInt) : ∀ e, to + e ≤ 100 → 0 ≤ (VV Z f to e).toInt ∧ (VV Z f to e).toInt ≤ (Z 23 f).toInt := by
  intro e
  induction e with
  | zero =>
    intro _
    have z0 : (0 : Int32).toInt = 0 := by decide
    show 0 ≤ (0 : Int32).toInt ∧ (0 : Int32).toInt ≤ _
    omega
  | succ e ih =>
    intro h
    have q := ih (by omega)
    have hi := i32_hi (Z 23 f)
    have e1 : (Z 23 f - VV Z f to e).toInt = (Z 23 f).toInt - (VV Z f to e).toInt := i32_sub (by omega) (by omega)
    have w := WO_le (Z := Z) (f := f) (s := Z 23 f - VV Z f to e) (t := tbl Z (to + e)) (by omega) (tbl_le hB (by omega))
    rw [VV, i32_add (by omega) (by omega)]
    omega
/-! the reference's loop over the days -/
theorem ev_lloop {f hr b : Nat} (hB : PB nf Z) (hf : f < 16) (hb2 : b < 1000000) : ∀ (d e n : Nat), e + d = en hr b → hr ≤ 2400 → d < n → g_X10_lies_b78 N n (Int32.ofNat b) (Int32.ofNat f) (Z 23 f - VV Z f (hr / 24) e) (Int32.ofNat ((hr / 24 + 1 + e) * 24)) (xs_mg Z Y) = some (VV Z f (hr / 24) (en hr b), xs_mg Z Y) := by
  intro d
  induction d with
  | zero =>
    intro e n he hhr hn
    obtain ⟨m, rfl⟩ : ∃ m, n = m + 1 := ⟨n - 1, by omega⟩
    have e0 : e = en hr b := by omega
    subst e0
    have fin : g_X10_lies_b118 N (Int32.ofNat f) (Z 23 f - VV Z f (hr / 24) (en hr b)) (xs_mg Z Y) = some (VV Z f (hr / 24) (en hr b), xs_mg Z Y) := by
      unfold g_X10_lies_b118
      rw [ld_ok hf (by decide)]
      simp only [xs_bnd_some, xs_lt_eq, Option.bind_some, bh_cs_n, bh_cs_s, if_true, if_false, i32_10, xs_retZ1, xs_retZ0, mg_23]
      rw [i32_subsub]
    have q : b < (hr / 24 + 1 + en hr b) * 24 ∨ 2400 < (hr / 24 + 1 + en hr b) * 24 := by unfold en; omega
    have q2 : en hr b ≤ 100 := by unfold en; omega
    rw [g_X10_lies_b78]
    by_cases c : Int32.ofNat b < Int32.ofNat ((hr / 24 + 1 + en hr b) * 24)
    · rw [if_pos c]
      exact fin
    · have c2 : ¬ b < (hr / 24 + 1 + en hr b) * 24 := fun z => c ((i32_oflt (by omega) (by omega)).mpr z)
      rw [if_neg c, if_pos (show (2400 : Int32) < Int32.ofNat ((hr / 24 + 1 + en hr b) * 24) from (i32_oflt (m := 2400) (by omega) (by omega)).mpr (by omega))]
      exact fin
  | succ d ih =>
    intro e n he hhr hn
    obtain ⟨m, rfl⟩ : ∃ m, n = m + 1 := ⟨n - 1, by omega⟩
    have q : (hr / 24 + 1 + e) * 24 ≤ b ∧ (hr / 24 + 1 + e) * 24 ≤ 2400 := by unfold en at he; omega
    have e1 : Int32.ofNat ((hr / 24 + 1 + e) * 24) / 24 - 1 = Int32.ofNat (hr / 24 + e) := by
      rw [show (24 : Int32) = Int32.ofNat 24 from rfl, i32_ofdiv (by omega) (by omega), show (1 : Int32) = Int32.ofNat 1 from rfl, i32_ofsub (by omega) (by omega)]
      congr 1
      omega
    have e3 : Int32.ofNat ((hr / 24 + 1 + e) * 24) + 24 = Int32.ofNat ((hr / 24 + 1 + (e + 1)) * 24) := by
      rw [show (24 : Int32) = Int32.ofNat 24 from rfl, i32_ofadd (by omega)]
      congr 1
      omega
    rw [g_X10_lies_b78, if_neg (fun z => by have := (i32_oflt (by omega) (by omega)).mp z; omega), if_neg (fun z => by have := (i32_oflt (m := 2400) (by omega) (by omega)).mp z; omega), e1, ev_woM hB hf (by omega)]
    simp only [xs_bnd_some, xs_lt_eq, Option.bind_some, bh_cs_n, bh_cs_s, if_true, if_false, i32_10, xs_retZ1, xs_retZ0]
    rw [e3, Int32.sub_sub]
    exact ih (e + 1) m (by omega) hhr (by omega)
theorem ev_lb8 {H s k f hr : Nat} {l : Nat → Nat} (hN : 4000 ≤ N) (hB : PB nf Z) (h6 : Z 6 0 = Int32.ofNat hr) (hhr : hr ≤ 2400) (h48 : Y 48 0 = Int32.ofNat H) (hH : H ≤ 8) (hs : s < 256) (hk : k < H) (hf : f < 16) (h45 : Y 45 k = Int32.ofNat f) (h46 : ∀ i, i < H → Y 46 i = Int32.ofNat (l i)) (hl : ∀ i, i < H → l i ≤ 11000) : ∀ (d j n : Nat), j + d = H → d < n → g_X10_lies_b8 N n (Int32.ofNat s) (Int32.ofNat k) (Int32.ofNat (bg hr l s j)) (Int32.ofNat j) (xs_mg Z Y) = some (VV Z f (hr / 24) (en hr (bg hr l s H)), xs_mg Z Y) := by
  intro d
  induction d with
  | zero =>
    intro j n hj hn
    obtain ⟨m, rfl⟩ : ∃ m, n = m + 1 := ⟨n - 1, by omega⟩
    have e0 : j = H := by omega
    subst e0
    have q := bg_le (hr := hr) (s := s) hl j (Nat.le_refl _)
    have q2 : en hr (bg hr l s j) ≤ 100 := by unfold en; omega
    have e1 : (xs_mg Z Y 6 0 / 24 + 1) * 24 = Int32.ofNat ((hr / 24 + 1 + 0) * 24) := by
      rw [show xs_mg Z Y 6 0 = Int32.ofNat hr from h6, show Int32.ofNat hr / 24 = Int32.ofNat (hr / 24) from i32_ofdiv (n := 24) (by omega) (by omega), i32_ofadd1 (by omega), i32_ofmul24 (by omega)]
    rw [g_X10_lies_b8, if_pos (ev_le (v := xs_mg Z Y 48 0) h48 (by omega) (by omega) (by omega)), ld_ok (show k < 8 by omega) (by decide), e1]
    simp only [xs_bnd_some, xs_lt_eq, Option.bind_some, bh_cs_n, bh_cs_s, if_true, if_false, i32_10, xs_retZ1, xs_retZ0, mg_45]
    rw [h45, ld_ok hf (by decide)]
    simp only [xs_bnd_some, xs_lt_eq, Option.bind_some, bh_cs_n, bh_cs_s, if_true, if_false, i32_10, xs_retZ1, xs_retZ0, mg_23]
    have := ev_lloop (N := N) (Y := Y) (b := bg hr l s j) (hr := hr) hB hf (by omega) (en hr (bg hr l s j)) 0 N (by omega) hhr (by omega)
    rw [show VV Z f (hr / 24) 0 = 0 from rfl, Int32.sub_zero] at this
    exact this
  | succ d ih =>
    intro j n hj hn
    obtain ⟨m, rfl⟩ : ∃ m, n = m + 1 := ⟨n - 1, by omega⟩
    have q := bg_le (hr := hr) (s := s) hl j (by omega)
    have nx := ih (j + 1) m (by omega) (by omega)
    rw [g_X10_lies_b8, if_neg (ev_nle (v := xs_mg Z Y 48 0) h48 (by omega) (by omega))]
    by_cases c : s.testBit j = true
    · rw [if_pos ((bt_shr j (by omega) s hs).mpr c), ld_ok (show j < 8 by omega) (by decide)]
      simp only [xs_bnd_some, xs_lt_eq, Option.bind_some, bh_cs_n, bh_cs_s, if_true, if_false, i32_10, xs_retZ1, xs_retZ0, mg_46]
      unfold g_X10_lies_b39
      have q2 := hl j (by omega)
      rw [h46 j (by omega), i32_ofadd (by omega), i32_ofadd1 (by omega)]
      rw [bg, if_pos c] at nx
      exact nx
    · rw [if_neg (fun z => c ((bt_shr j (by omega) s hs).mp z))]
      unfold g_X10_lies_b39
      rw [Int32.add_zero, i32_ofadd1 (by omega)]
      rw [bg, if_neg c] at nx
      exact nx
theorem ev_lies {H s k f hr : Nat} {l : Nat → Nat} (hN : 4000 ≤ N) (hB : PB nf Z) (h6 : Z 6 0 = Int32.ofNat hr) (hhr : hr ≤ 2400) (h48 : Y 48 0 = Int32.ofNat H) (hH : H ≤ 8) (hs : s < 256) (hk : k < H) (hf : f < 16) (h45 : Y 45 k = Int32.ofNat f) (h46 : ∀ i, i < H → Y 46 i = Int32.ofNat (l i)) (hl : ∀ i, i < H → l i ≤ 11000) : g_X10_lies N (Int32.ofNat s) (Int32.ofNat k) (xs_mg Z Y) = some (VV Z f (hr / 24) (en hr (bg hr l s H)), xs_mg Z Y) := by
  unfold g_X10_lies
  rw [show xs_mg Z Y 6 0 = Int32.ofNat hr from h6]
  exact ev_lb8 hN hB h6 hhr h48 hH hs hk hf h45 h46 hl H 0 N (by omega) (by omega)
/-- alike but for the rows of BEST -/
def OE (Z0 Z : xs_S) : Prop := ∀ a, (a < 63 ∨ 90 ≤ a) → Z a = Z0 a
theorem OE.rf : OE Z0 Z0 := fun _ _ => rfl
theorem OE.up (h : OE Z0 Z) {a i : Nat} {v : Int32} (ha : 63 ≤ a ∧ a < 90) : OE Z0 (xs_up Z a i v) := fun b hb => by
  funext j
  rw [xs_up_ne (by omega), h b hb]
theorem OE.mg (h : OE Z0 Z) : xs_mg Z Y = xs_mg Z0 Y := by
  funext k i
  unfold xs_mg
  by_cases c : k < 45 ∧ k ≠ 15 ∧ k ≠ 16
  · rw [if_pos c, if_pos c, h k (by omega)]
  · rw [if_neg c, if_neg c]
theorem PB.oe (h : PB nf Z0) (e : OE Z0 Z) : PB nf Z := by
  unfold PB
  rw [e 3 (by omega), e 4 (by omega), e 100 (by omega), e 101 (by omega)]
  exact h
theorem RI.oe (h : RI nf nl np Z0 Y) (e : OE Z0 Z) : RI nf nl np Z Y := by
  have q : Z = fun a => if a < 63 ∨ 90 ≤ a then Z0 a else Z a := by
    funext a
    by_cases c : a < 63 ∨ 90 ≤ a
    · rw [if_pos c, e a c]
    · rw [if_neg c]
  rw [q]
  exact h
theorem WO_oe (e : OE Z0 Z) {f : Nat} {s t : Int32} : WO Z f s t = WO Z0 f s t := by
  unfold WO
  rw [e 30 (by omega), e 24 (by omega), e 29 (by omega)]
/-! the rows of the forecast -/
theorem ev_fore {f to k : Nat} (hB : PB nf Z0) (hk : k < 8) (hto : to ≤ 100) : ∀ (d e n : Nat) (Z : xs_S), OE Z0 Z → (∀ i, i ≤ e → Z (70 + k) i = VV Z0 f to i) → to + e + d = 100 → d < n → ∃ Z', g_X5_foresee_b19 N n (k + 8) f (Int32.ofNat to) (VV Z0 f to e) (Int32.ofNat (e + 1)) Z = some ((), Z') ∧ OE Z0 Z' ∧ (∀ a, a ≠ 70 + k → Z' a = Z a) ∧ ∀ i, to + i ≤ 100 → Z' (70 + k) i = VV Z0 f to i := by
  intro d
  induction d with
  | zero =>
    intro e n Z hO hV he hn
    obtain ⟨m, rfl⟩ : ∃ m, n = m + 1 := ⟨n - 1, by omega⟩
    refine ⟨Z, ?_, hO, fun _ _ => rfl, fun i hi => hV i (by omega)⟩
    rw [g_X5_foresee_b19, i32_ofadd (by omega), if_pos (show (100 : Int32) < Int32.ofNat (to + (e + 1)) from (i32_oflt (m := 100) (by omega) (by omega)).mpr (by omega))]
  | succ d ih =>
    intro e n Z hO hV he hn
    obtain ⟨m, rfl⟩ : ∃ m, n = m + 1 := ⟨n - 1, by omega⟩
    have e1 : Int32.ofNat (to + (e + 1)) - 1 = Int32.ofNat (to + e) := by
      rw [show to + (e + 1) = (to + e) + 1 by omega]
      exact i32_ofsub1 (by omega)
    have e4 : cv_al (k + 8) = 101 := rfl
    have e2 : VV Z0 f to e + WO Z f (Z 23 f - VV Z0 f to e) (Z 4 (Z 3 (to + e)).toNatClampNeg) = VV Z0 f to (e + 1) := by
      rw [WO_oe hO, hO 23 (by omega), hO 4 (by omega), hO 3 (by omega)]
      rfl
    obtain ⟨Z', g1, g2, g3, g4⟩ := ih (e + 1) m (xs_up Z (70 + k) (e + 1) (VV Z0 f to (e + 1))) (hO.up (by omega)) (fun i hi => by
      by_cases c : i = e + 1
      · subst c
        exact xs_up_eq
      · rw [xs_up_ni c]
        exact hV i (by omega)) (by omega) (by omega)
    refine ⟨Z', ?_, g2, fun a ha => ?_, g4⟩
    · rw [g_X5_foresee_b19, i32_ofadd (by omega), if_neg (show ¬ (100 : Int32) < Int32.ofNat (to + (e + 1)) from fun z => by have := (i32_oflt (m := 100) (by omega) (by omega)).mp z; omega), e4, if_neg (show ¬ Int32.ofNat 101 ≤ Int32.ofNat (e + 1) from fun z => by have := (i32_ofle (by omega) (by omega)).mp z; omega), e1, ev_number (hB.oe hO) (by omega)]
      simp only [xs_bnd_some, xs_lt_eq, Option.bind_some, bh_cs_n, bh_cs_s, if_true, if_false, i32_10, xs_retZ1, xs_retZ0]
      rw [ev_woC]
      simp only [xs_bnd_some, xs_lt_eq, Option.bind_some, bh_cs_n, bh_cs_s, if_true, if_false, i32_10, xs_retZ1, xs_retZ0]
      rw [e2]
      show (xs_st 101 Z (70 + k) (Int32.ofNat (e + 1)) (VV Z0 f to (e + 1))).bind _ = _
      rw [st_ok (show e + 1 < 101 by omega) (by decide)]
      simp only [xs_bnd_some, xs_lt_eq, Option.bind_some, bh_cs_n, bh_cs_s, if_true, if_false, i32_10, xs_retZ1, xs_retZ0]
      rw [i32_ofadd1 (by omega)]
      exact g1
    · rw [g3 a ha]
      funext j
      exact xs_up_ne ha
theorem ev_foresee {f hr k : Nat} (hN : 4000 ≤ N) (hB : PB nf Z0) (hO : OE Z0 Z) (hk : k < 8) (hhr : hr ≤ 2400) (h68 : Z 68 0 = Int32.ofNat hr) : ∃ Z', g_X5_foresee N (k + 8) f Z = some ((), Z') ∧ OE Z0 Z' ∧ (∀ a, a ≠ 70 + k → Z' a = Z a) ∧ ∀ i, hr / 24 + i ≤ 100 → Z' (70 + k) i = VV Z0 f (hr / 24) i := by
  obtain ⟨Z', g1, g2, g3, g4⟩ := ev_fore (N := N) (f := f) hB hk (show hr / 24 ≤ 100 by omega) (100 - hr / 24) 0 N (xs_up Z (70 + k) 0 0) (hO.up (by omega)) (fun i hi => by
    have : i = 0 := by omega
    subst this
    exact xs_up_eq) (by omega) (by omega)
  refine ⟨Z', ?_, g2, fun a ha => ?_, g4⟩
  · unfold g_X5_foresee
    show (xs_st 101 Z (70 + k) (Int32.ofNat 0) 0).bind _ = _
    rw [st_ok (show 0 < 101 by omega) (by decide)]
    simp only [xs_bnd_some, xs_lt_eq, Option.bind_some, bh_cs_n, bh_cs_s, if_true, if_false, i32_10, xs_retZ1, xs_retZ0]
    rw [h68, show Int32.ofNat hr / 24 = Int32.ofNat (hr / 24) from i32_ofdiv (n := 24) (by omega) (by omega)]
    exact g1
  · rw [g3 a ha]
    funext j
    exact xs_up_ne ha
theorem ev_addl {L q : Nat} {B : Nat → Nat} (hq : q ≤ 128) (hL : ∀ s, s < q → B s + L < 2147483648) : ∀ (d j n : Nat) (Z : xs_S), j + d = q → d < n → (∀ s, s < q → Z 64 s = Int32.ofNat (B s)) → (∀ s, s < j → Z 64 (s + q) = Int32.ofNat (B s + L)) → ∃ Z', g_X5_add_b71 N n (Int32.ofNat L) (Int32.ofNat q) (Int32.ofNat j) Z = some (1, Z') ∧ (∀ a, a ≠ 64 → a ≠ 67 → Z' a = Z a) ∧ Z' 67 0 = Z 67 0 + 1 ∧ (∀ s, s < q → Z' 64 s = Int32.ofNat (B s)) ∧ ∀ s, s < q → Z' 64 (s + q) = Int32.ofNat (B s + L) := by
  intro d
  induction d with
  | zero =>
    intro j n Z hj hn hB hC
    obtain ⟨m, rfl⟩ : ∃ m, n = m + 1 := ⟨n - 1, by omega⟩
    refine ⟨xs_up Z 67 0 (Z 67 0 + 1), ?_, fun a _ ha => ?_, xs_up_eq, hB, fun s hs => hC s (by omega)⟩
    · rw [g_X5_add_b71, if_pos ((i32_ofle (by omega) (by omega)).mpr (by omega))]
      rfl
    · funext i
      exact xs_up_ne ha
  | succ d ih =>
    intro j n Z hj hn hB hC
    obtain ⟨m, rfl⟩ : ∃ m, n = m + 1 := ⟨n - 1, by omega⟩
    obtain ⟨Z', g1, g2, g3, g4, g5⟩ := ih (j + 1) m (xs_up Z 64 (j + q) (Int32.ofNat (B j + L))) (by omega) (by omega) (fun s hs => by
      rw [xs_up_ni (by omega)]
      exact hB s hs) (fun s hs => by
      by_cases c : s = j
      · subst c
        exact xs_up_eq
      · rw [xs_up_ni (by omega)]
        exact hC s (by omega))
    have := hL j (by omega)
    refine ⟨Z', ?_, fun a h1 h2 => ?_, g3, g4, g5⟩
    · rw [g_X5_add_b71, if_neg (fun z => by have := (i32_ofle (by omega) (by omega)).mp z; omega), ld_ok (show j < 256 by omega) (by decide)]
      simp only [xs_bnd_some, xs_lt_eq, Option.bind_some, bh_cs_n, bh_cs_s, if_true, if_false, i32_10, xs_retZ1, xs_retZ0]
      rw [hB j (by omega), i32_ofadd (by omega), i32_ofadd (by omega), st_ok (show j + q < 256 by omega) (by decide)]
      simp only [xs_bnd_some, xs_lt_eq, Option.bind_some, bh_cs_n, bh_cs_s, if_true, if_false, i32_10, xs_retZ1, xs_retZ0]
      rw [i32_ofadd1 (by omega)]
      exact g1
    · rw [g2 a h1 h2]
      funext i
      exact xs_up_ne h1
/-- how many hours a heap lasts -/
def la (rt : Nat) (Z : xs_S) (f : Nat) : Nat := (co (Z 28 f) * (Z 22 f).toNatClampNeg + rt - 1) / rt
theorem co_le {v : Int32} : 1 ≤ co v ∧ co v ≤ 2 := by
  unfold co
  split <;> omega
theorem la_le (hC : PC nf Z) {f rt : Nat} (hf : f < nf) (hrt : 1 ≤ rt ∧ rt ≤ 300) : co (Z 28 f) * (Z 22 f).toNatClampNeg ≤ 10000 ∧ la rt Z f ≤ 11000 := by
  have q := (hC f hf).2.1
  have r : (Z 22 f).toNatClampNeg ≤ 5000 := by rw [i32_nat]; omega
  have e : co (Z 28 f) * (Z 22 f).toNatClampNeg ≤ 10000 := Nat.le_trans (Nat.mul_le_mul co_le.2 r) (by decide)
  refine ⟨e, ?_⟩
  unfold la
  exact Nat.le_trans (Nat.div_le_self _ _) (by omega)
/-- what the rows of BEST hold -/
def CI (Z0 : xs_S) (nf hr rt H : Nat) (h : Nat → Nat) (Z : xs_S) : Prop := OE Z0 Z ∧ Z 67 0 = Int32.ofNat H ∧ Z 68 0 = Int32.ofNat hr ∧ (∀ k, k < H → h k < nf ∧ Z 63 k = Int32.ofNat (h k) ∧ ∀ i, hr / 24 + i ≤ 100 → Z (70 + k) i = VV Z0 (h k) (hr / 24) i) ∧ ∀ s, s < 2 ^ H → Z 64 s = Int32.ofNat (bg hr (fun k => la rt Z0 (h k)) s H)
theorem ev_add {hr rt H f : Nat} {h : Nat → Nat} (hN : 4000 ≤ N) (hI : PI nf nl np Z0) (hhr : hr ≤ 2400) (hrt : 1 ≤ rt ∧ rt ≤ 300) (hH : H < 8) (hf : f < nf) (hC : CI Z0 nf hr rt H h Z) : ∃ Z', g_X5_add N f (Int32.ofNat rt) Z = some (1, Z') ∧ CI Z0 nf hr rt (H + 1) (fun k => if k = H then f else h k) Z' := by
  obtain ⟨hO, h67, h68, hh, h64⟩ := hC
  obtain ⟨hA, hB, hP, -⟩ := hI
  have hnf := hA.1.1
  have h101 : Z 101 f = Int32.ofNat f := by
    rw [hO 101 (by omega)]
    exact hB.2.2.2 f hf
  obtain ⟨Z2, a1, a2, a3, a4⟩ := ev_foresee (N := N) (Z := xs_up Z 63 H (Z 101 f)) (f := f) (hr := hr) (k := H) hN hB (hO.up (by omega)) hH hhr h68
  have hq := bt_pow H (by omega)
  have hq2 : 2 ^ H ≤ 128 := Nat.le_trans (Nat.pow_le_pow_right (by decide) (show H ≤ 7 by omega)) (by decide)
  have hlf := la_le hP hf hrt
  have hl : ∀ k, k < H → la rt Z0 (h k) ≤ 11000 := fun k hk => (la_le hP (hh k hk).1 hrt).2
  have h2n : ∀ a, a ≠ 63 → a ≠ 70 + H → Z2 a = Z a := fun a b1 b2 => by
    rw [a3 a b2]
    funext i
    exact xs_up_ne b1
  have h267 : Z2 67 0 = Int32.ofNat H := by rw [h2n 67 (by omega) (by omega)]; exact h67
  have hro := (hP f hf).2.1
  obtain ⟨r, hr5, er⟩ := i32_inI (p := Z0 22 f) (n := 5001) (by omega) (by omega)
  have era : (Z0 22 f).toNatClampNeg = r := by rw [er, i32_natof (by omega)]
  rw [era] at hlf
  have ela : la rt Z0 f = (co (Z0 28 f) * r + rt - 1) / rt := by unfold la; rw [era]
  obtain ⟨Z3, b1, b2, b3, b4, b5⟩ := ev_addl (N := N) (L := la rt Z0 f) (q := 2 ^ H) (B := fun s => bg hr (fun k => la rt Z0 (h k)) s H) hq2 (fun s hs => by
    have := (bg_le (hr := hr) (s := s) hl H (Nat.le_refl _)).2
    have := hlf.2
    show bg hr (fun k => la rt Z0 (h k)) s H + la rt Z0 f < _
    omega) (2 ^ H) 0 N Z2 (by omega) (by omega) (fun s hs => by
    rw [h2n 64 (by omega) (by omega)]
    exact h64 s hs) (fun s hs => by omega)
  refine ⟨Z3, ?_, ?_, ?_, ?_, ?_, ?_⟩
  · unfold g_X5_add
    rw [h67, if_neg (show ¬ (8 : Int32) ≤ Int32.ofNat H from ev_nle (m := 8) rfl (by decide) hH), if_pos (show (1 : Int32) ≤ Int32.ofNat rt from ev_le (m := 1) rfl (by decide) hrt.1 (by omega)), st_ok hH (by decide)]
    simp only [xs_bnd_some, xs_lt_eq, Option.bind_some, bh_cs_n, bh_cs_s, if_true, if_false, i32_10, xs_retZ1, xs_retZ0]
    rw [show xs_up Z 63 H (Z 101 f) 67 0 = Int32.ofNat H from h67, ix_ok hH (by decide)]
    simp only [xs_bnd_some, xs_lt_eq, Option.bind_some, bh_cs_n, bh_cs_s, if_true, if_false, i32_10, xs_retZ1, xs_retZ0]
    rw [a1]
    simp only [xs_bnd_some, xs_lt_eq, Option.bind_some, bh_cs_n, bh_cs_s, if_true, if_false, i32_10, xs_retZ1, xs_retZ0]
    rw [show Z2 22 f = Int32.ofNat r by rw [a2 22 (by omega)]; exact er, ev_uf2 (by omega), a2 28 (by omega)]
    simp only [xs_bnd_some, xs_lt_eq, Option.bind_some, bh_cs_n, bh_cs_s, if_true, if_false, i32_10, xs_retZ1, xs_retZ0]
    rw [show bh_nz (Int32.ofNat rt) = some () from if_neg (fun z => by have := (i32_ofeq (n := 0) (by omega) (by omega)).mp z; omega)]
    simp only [xs_bnd_some, xs_lt_eq, Option.bind_some, bh_cs_n, bh_cs_s, if_true, if_false, i32_10, xs_retZ1, xs_retZ0]
    rw [i32_ofadd (by omega), show Int32.ofNat (co (Z0 28 f) * r + rt) - 1 = Int32.ofNat (co (Z0 28 f) * r + rt - 1) from i32_ofsub (n := 1) (by omega) (by omega), i32_ofdiv (by omega) (by omega), h267, bt_shl H (by omega), ← ela]
    exact b1
  · intro a ha
    rw [b2 a (by omega) (by omega), a2 a ha]
  · rw [b3, h267, i32_ofadd1 (by omega)]
  · rw [b2 68 (by omega) (by omega), h2n 68 (by omega) (by omega)]
    exact h68
  · intro k hk
    by_cases c : k = H
    · subst c
      dsimp only
      rw [if_pos rfl]
      refine ⟨hf, ?_, fun i hi => ?_⟩
      · rw [b2 63 (by omega) (by omega), a3 63 (by omega), xs_up_eq]
        exact h101
      · rw [b2 _ (by omega) (by omega)]
        exact a4 i hi
    · dsimp only
      rw [if_neg c]
      obtain ⟨c1, c2, c3⟩ := hh k (by omega)
      refine ⟨c1, ?_, fun i hi => ?_⟩
      · rw [b2 63 (by omega) (by omega), a3 63 (by omega), xs_up_ni c]
        exact c2
      · rw [b2 _ (by omega) (by omega), h2n _ (by omega) (by omega)]
        exact c3 i hi
  · intro s hs
    have hp : 2 ^ (H + 1) = 2 ^ H + 2 ^ H := by rw [Nat.pow_succ]; omega
    have key : ∀ s', (∀ i, i < H → s.testBit i = s'.testBit i) → bg hr (fun k => la rt Z0 (if k = H then f else h k)) s H = bg hr (fun k => la rt Z0 (h k)) s' H := fun s' hs' => bg_congr H (fun i hi => by rw [if_neg (by omega)]) hs'
    dsimp only
    rw [bg]
    by_cases c : s < 2 ^ H
    · rw [if_neg (by rw [(bt_hi H (by omega) s c).1]; decide), key s (fun _ _ => rfl)]
      exact b4 s c
    · obtain ⟨s', rfl⟩ : ∃ s', s = s' + 2 ^ H := ⟨s - 2 ^ H, by omega⟩
      have hb := bt_hi H (by omega) s' (by omega)
      rw [if_pos hb.2.1, key s' hb.2.2, if_pos rfl]
      exact b5 s' (by omega)
/-- what the reference's rows of BEST hold -/
def MI (nf H : Nat) (h : Nat → Nat) (Y : xs_S) : Prop := Y 48 0 = Int32.ofNat H ∧ ∀ k, k < H → h k < nf ∧ Y 45 k = Int32.ofNat (h k)
/-- with RATE 0 -/
theorem ev_b70 (h7 : Z 7 0 = Int32.ofNat nf) (hn : nf ≤ 16) (h10 : Z 10 0 = 0) : ∀ (d j n H : Nat) (Y : xs_S), H ≤ 8 → Y 48 0 = Int32.ofNat H → j + d = nf → d < n → ∃ Y', g_X10_knows_b7 N n (Int32.ofNat j) (xs_mg Z Y) = some (0, xs_mg Z Y') ∧ Y' 15 = Y 15 ∧ Y' 16 = Y 16 := by
  intro d
  induction d with
  | zero =>
    intro j n H Y hH h48 hj hd
    obtain ⟨m, rfl⟩ : ∃ m, n = m + 1 := ⟨n - 1, by omega⟩
    refine ⟨Y, ?_, rfl, rfl⟩
    rw [g_X10_knows_b7, if_pos (ev_le (v := xs_mg Z Y 7 0) h7 (by omega) (by omega) (by omega)), if_pos (show xs_mg Z Y 10 0 = 0 from h10)]
    rfl
  | succ d ih =>
    intro j n H Y hH h48 hj hd
    obtain ⟨m, rfl⟩ : ∃ m, n = m + 1 := ⟨n - 1, by omega⟩
    have hj16 : j < 16 := by omega
    rw [g_X10_knows_b7, if_neg (ev_nle (v := xs_mg Z Y 7 0) h7 (by omega) (by omega)), ld_ok hj16 (by decide)]
    simp only [xs_bnd_some, xs_lt_eq, Option.bind_some, bh_cs_n, bh_cs_s, if_true, if_false, i32_10, xs_retZ1, xs_retZ0, mg_22]
    unfold g_X10_knows_b58
    by_cases c : Z 22 j = 0
    · rw [if_pos c, i32_ofadd1 (by omega)]
      exact ih (j + 1) m H Y hH h48 (by omega) (by omega)
    · rw [if_neg c, show xs_mg Z Y 48 0 = Int32.ofNat H from h48]
      by_cases c2 : H = 8
      · subst c2
        rw [if_pos (show Int32.ofNat 8 = 8 from rfl)]
        exact ⟨Y, rfl, rfl, rfl⟩
      · rw [if_neg (show ¬ Int32.ofNat H = 8 from fun z => c2 ((i32_ofeq (n := 8) (by omega) (by omega)).mp z)), st_ok (show H < 8 by omega) (by decide), mg_upY (by decide)]
        simp only [xs_bnd_some, xs_lt_eq, Option.bind_some, bh_cs_n, bh_cs_s, if_true, if_false, i32_10, xs_retZ1, xs_retZ0]
        rw [show xs_mg Z (xs_up Y 45 H (Int32.ofNat j)) 48 0 = Int32.ofNat H from h48, mg_upY (by decide), i32_ofadd1 (by omega), i32_ofadd1 (by omega)]
        obtain ⟨Y', g1, g2, g3⟩ := ih (j + 1) m (H + 1) (xs_up (xs_up Y 45 H (Int32.ofNat j)) 48 0 (Int32.ofNat (H + 1))) (by omega) xs_up_eq (by omega) (by omega)
        exact ⟨Y', g1, g2, g3⟩
/-- both gather the heaps -/
theorem pb_loop {hr rt : Nat} (hN : 4000 ≤ N) (hI : PI nf nl np Z0) (hhr : hr ≤ 2400) (hrt : 1 ≤ rt ∧ rt ≤ 300) (h10 : Z0 10 0 = Int32.ofNat rt) : ∀ (d j n1 n2 H : Nat) (h : Nat → Nat) (Z Y : xs_S), CI Z0 nf hr rt H h Z → MI nf H h Y → H ≤ 8 → j + d = nf → d < n1 → d < n2 → (∃ Z' Y', g_X9_findOrder_b25 N n1 (Int32.ofNat j) Z = some (0, Z') ∧ g_X10_knows_b7 N n2 (Int32.ofNat j) (xs_mg Z0 Y) = some (0, xs_mg Z0 Y') ∧ OE Z0 Z' ∧ Y' 15 = Y 15 ∧ Y' 16 = Y 16) ∨ ∃ H' h' Z' Y', H' ≤ 8 ∧ CI Z0 nf hr rt H' h' Z' ∧ MI nf H' h' Y' ∧ (Y' 15 = Y 15 ∧ Y' 16 = Y 16) ∧ g_X9_findOrder_b25 N n1 (Int32.ofNat j) Z = xs_bnd (g_X5_search N Z') (fun _ Z16 => xs_retZ Z16 1) ∧ g_X10_knows_b7 N n2 (Int32.ofNat j) (xs_mg Z0 Y) = g_X10_knows_b75 N N 0 (xs_mg Z0 Y') := by
  have h7 : Z0 7 0 = Int32.ofNat nf := hI.1.2.1.1
  have hn : nf ≤ 16 := hI.1.1.1
  intro d
  induction d with
  | zero =>
    intro j n1 n2 H h Z Y hC hM hH hj h1 h2
    obtain ⟨m1, rfl⟩ : ∃ m, n1 = m + 1 := ⟨n1 - 1, by omega⟩
    obtain ⟨m2, rfl⟩ : ∃ m, n2 = m + 1 := ⟨n2 - 1, by omega⟩
    have h7' : Z 7 0 = Int32.ofNat nf := by rw [hC.1 7 (by omega)]; exact h7
    refine Or.inr ⟨H, h, Z, Y, hH, hC, hM, ⟨rfl, rfl⟩, ?_, ?_⟩
    · rw [g_X9_findOrder_b25, if_pos (ev_le h7' (by omega) (by omega) (by omega))]
    · rw [g_X10_knows_b7, if_pos (ev_le (v := xs_mg Z0 Y 7 0) h7 (by omega) (by omega) (by omega)), show xs_mg Z0 Y 10 0 = Int32.ofNat rt from h10, if_neg (fun z => by have := (i32_ofeq (n := 0) (by omega) (by omega)).mp z; omega)]
  | succ d ih =>
    intro j n1 n2 H h Z Y hC hM hH hj h1 h2
    obtain ⟨m1, rfl⟩ : ∃ m, n1 = m + 1 := ⟨n1 - 1, by omega⟩
    obtain ⟨m2, rfl⟩ : ∃ m, n2 = m + 1 := ⟨n2 - 1, by omega⟩
    have h7' : Z 7 0 = Int32.ofNat nf := by rw [hC.1 7 (by omega)]; exact h7
    have h10' : Z 10 0 = Int32.ofNat rt := by rw [hC.1 10 (by omega)]; exact h10
    have h22 : Z 22 j = Z0 22 j := by rw [hC.1 22 (by omega)]
    have hj16 : j < 16 := by omega
    have hjf : j < nf := by omega
    have hro := (hI.2.2.1 j hjf).2.1
    have z0 : (0 : Int32).toInt = 0 := by decide
    rw [g_X9_findOrder_b25, g_X10_knows_b7, if_neg (ev_nle h7' (by omega) (by omega)), if_neg (ev_nle (v := xs_mg Z0 Y 7 0) h7 (by omega) (by omega)), gt_ok h7' hjf (by omega), ld_ok hj16 (by decide)]
    simp only [xs_bnd_some, xs_lt_eq, Option.bind_some, bh_cs_n, bh_cs_s, if_true, if_false, i32_10, xs_retZ1, xs_retZ0, mg_22]
    unfold g_X9_findOrder_b79 g_X10_knows_b58
    rw [h22, h10']
    by_cases c : Z0 22 j = 0
    · rw [if_pos c, if_pos (show Z0 22 j ≤ 0 by rw [c]; decide), i32_ofadd1 (by omega)]
      exact ih (j + 1) m1 m2 H h Z Y hC hM hH (by omega) (by omega) (by omega)
    · have c' : ¬ Z0 22 j ≤ 0 := fun z => by
        rw [i32_le] at z
        apply c
        apply i32_ext
        omega
      rw [if_neg c, if_neg c', show xs_mg Z0 Y 48 0 = Int32.ofNat H from hM.1]
      by_cases c2 : H = 8
      · refine Or.inl ⟨Z, Y, ?_, ?_, hC.1, rfl, rfl⟩
        · have : g_X5_add N j (Int32.ofNat rt) Z = some (0, Z) := by
            unfold g_X5_add
            rw [hC.2.1, c2, if_pos (show (8 : Int32) ≤ Int32.ofNat 8 by decide)]
            rfl
          rw [this]
          rfl
        · subst c2
          rw [if_pos (show Int32.ofNat 8 = 8 from rfl)]
      · obtain ⟨Z1, a1, a2⟩ := ev_add hN hI hhr hrt (show H < 8 by omega) hjf hC
        rw [if_neg (show ¬ Int32.ofNat H = 8 from fun z => c2 ((i32_ofeq (n := 8) (by omega) (by omega)).mp z)), st_ok (show H < 8 by omega) (by decide), mg_upY (by decide), a1]
        simp only [xs_bnd_some, xs_lt_eq, Option.bind_some, bh_cs_n, bh_cs_s, if_true, if_false, i32_10, xs_retZ1, xs_retZ0]
        rw [show xs_mg Z0 (xs_up Y 45 H (Int32.ofNat j)) 48 0 = Int32.ofNat H from hM.1, mg_upY (by decide), i32_ofadd1 (by omega), i32_ofadd1 (by omega)]
        have hM' : MI nf (H + 1) (fun k => if k = H then j else h k) (xs_up (xs_up Y 45 H (Int32.ofNat j)) 48 0 (Int32.ofNat (H + 1))) := by
          refine ⟨xs_up_eq, fun k hk => ?_⟩
          show (if k = H then j else h k) < nf ∧ xs_up Y 45 H (Int32.ofNat j) 45 k = Int32.ofNat (if k = H then j else h k)
          by_cases c3 : k = H
          · subst c3
            rw [if_pos rfl, xs_up_eq]
            exact ⟨hjf, rfl⟩
          · rw [if_neg c3, xs_up_ni c3]
            exact hM.2 k (by omega)
        exact ih (j + 1) m1 m2 (H + 1) _ Z1 _ a2 hM' (by omega) (by omega) (by omega) (by omega)
/-- how long the heaps last, the reference's way -/
theorem ev_lasts {rt H : Nat} {h : Nat → Nat} (hI : PI nf nl np Z0) (hrt : 1 ≤ rt ∧ rt ≤ 300) (h10 : Z0 10 0 = Int32.ofNat rt) (hH : H ≤ 8) : ∀ (d j n : Nat) (Y : xs_S), MI nf H h Y → (∀ i, i < j → Y 46 i = Int32.ofNat (la rt Z0 (h i))) → j + d = H → d < n → ∃ Y', MI nf H h Y' ∧ (∀ i, i < H → Y' 46 i = Int32.ofNat (la rt Z0 (h i))) ∧ (Y' 15 = Y 15 ∧ Y' 16 = Y 16) ∧ Y' 47 (2 ^ H - 1) = 0 ∧ g_X10_knows_b75 N n (Int32.ofNat j) (xs_mg Z0 Y) = g_X10_knows_b163 N N (Int32.ofNat (2 ^ H - 1) + -1) (xs_mg Z0 Y') := by
  have hn : nf ≤ 16 := hI.1.1.1
  have hq := bt_pow H (by omega)
  intro d
  induction d with
  | zero =>
    intro j n Y hM h46 hj hd
    obtain ⟨m, rfl⟩ : ∃ m, n = m + 1 := ⟨n - 1, by omega⟩
    refine ⟨xs_up Y 47 (2 ^ H - 1) 0, hM, fun i hi => h46 i (by omega), ⟨rfl, rfl⟩, xs_up_eq, ?_⟩
    have h48 : xs_mg Z0 Y 48 0 = Int32.ofNat H := hM.1
    rw [g_X10_knows_b75, if_pos (ev_le h48 (by omega) (by omega) (by omega)), h48, bt_shl H (by omega), hq.2.2.1, st_ok (show 2 ^ H - 1 < 257 by omega) (by decide), mg_upY (by decide)]
    simp only [xs_bnd_some, xs_lt_eq, Option.bind_some, bh_cs_n, bh_cs_s, if_true, if_false, i32_10, xs_retZ1, xs_retZ0]
    rw [show xs_mg Z0 (xs_up Y 47 (2 ^ H - 1) 0) 48 0 = Int32.ofNat H from hM.1, bt_shl H (by omega), hq.2.2.2.2]
  | succ d ih =>
    intro j n Y hM h46 hj hd
    obtain ⟨m, rfl⟩ : ∃ m, n = m + 1 := ⟨n - 1, by omega⟩
    have h48 : xs_mg Z0 Y 48 0 = Int32.ofNat H := hM.1
    obtain ⟨hf, e45⟩ := hM.2 j (by omega)
    have hj8 : j < 8 := by omega
    have hf16 : h j < 16 := by omega
    have hro := (hI.2.2.1 (h j) hf).2.1
    obtain ⟨r, hr5, er⟩ := i32_inI (p := Z0 22 (h j)) (n := 5001) (by omega) (by omega)
    have era : (Z0 22 (h j)).toNatClampNeg = r := by rw [er, i32_natof (by omega)]
    have e10 : ∀ Y : xs_S, xs_mg Z0 Y 10 0 = Int32.ofNat rt := fun _ => h10
    have fin : ∀ t0 : Int32, Int32.ofNat r * t0 = Int32.ofNat (co (Z0 28 (h j)) * r) → ∃ Y', MI nf H h Y' ∧ (∀ i, i < H → Y' 46 i = Int32.ofNat (la rt Z0 (h i))) ∧ (Y' 15 = Y 15 ∧ Y' 16 = Y 16) ∧ Y' 47 (2 ^ H - 1) = 0 ∧ g_X10_knows_b113 N (g_X10_knows_b75 N m) (Int32.ofNat j) t0 (Z0 22 (h j)) (xs_mg Z0 Y) = g_X10_knows_b163 N N (Int32.ofNat (2 ^ H - 1) + -1) (xs_mg Z0 Y') := by
      intro t0 ht
      have q3 := (la_le hI.2.2.1 hf hrt).1
      rw [era] at q3
      have ela : la rt Z0 (h j) = (co (Z0 28 (h j)) * r + rt - 1) / rt := by unfold la; rw [era]
      obtain ⟨Y', g1, g2, g3, g4, g5⟩ := ih (j + 1) m (xs_up Y 46 j (Int32.ofNat (la rt Z0 (h j)))) hM (fun i hi => by
        by_cases c : i = j
        · subst c
          exact xs_up_eq
        · rw [xs_up_ni c]
          exact h46 i (by omega)) (by omega) (by omega)
      refine ⟨Y', g1, g2, g3, g4, ?_⟩
      unfold g_X10_knows_b113
      rw [e10, show bh_nz (Int32.ofNat rt) = some () from if_neg (fun z => by have := (i32_ofeq (n := 0) (by omega) (by omega)).mp z; omega), er, ht, i32_ofadd (by omega), show Int32.ofNat (co (Z0 28 (h j)) * r + rt) - 1 = Int32.ofNat (co (Z0 28 (h j)) * r + rt - 1) from i32_ofsub (n := 1) (by omega) (by omega), i32_ofdiv (by omega) (by omega), ← ela]
      simp only [xs_bnd_some, xs_lt_eq, Option.bind_some, bh_cs_n, bh_cs_s, if_true, if_false, i32_10, xs_retZ1, xs_retZ0]
      rw [st_ok hj8 (by decide), mg_upY (by decide), i32_ofadd1 (by omega)]
      exact g5
    rw [g_X10_knows_b75, if_neg (ev_nle h48 (by omega) (by omega)), ld_ok hj8 (by decide)]
    simp only [xs_bnd_some, xs_lt_eq, Option.bind_some, bh_cs_n, bh_cs_s, if_true, if_false, i32_10, xs_retZ1, xs_retZ0, mg_45]
    rw [e45, ld_ok hf16 (by decide), ld_ok hf16 (by decide)]
    simp only [xs_bnd_some, xs_lt_eq, Option.bind_some, bh_cs_n, bh_cs_s, if_true, if_false, i32_10, xs_retZ1, xs_retZ0, mg_22, mg_28]
    by_cases c : Z0 28 (h j) = 0
    · rw [if_pos c]
      exact fin 1 (by unfold co; rw [if_pos c, Nat.one_mul, Int32.mul_one])
    · rw [if_neg c]
      exact fin 2 (by unfold co; rw [if_neg c, Int32.mul_comm, i32_ofmul2 (by omega)])
end PO
