/-! ===== the pure side: unloading ===== -/
def cq (A B : xs_S) : Prop := ∀ k i, (k < 45 ∧ k ≠ 15 ∧ k ≠ 16) → A k i = B k i
theorem cq.mg {A B Y : xs_S} (h : cq A B) : xs_mg A Y = xs_mg B Y := by
  funext k i
  unfold xs_mg
  by_cases q : k < 45 ∧ k ≠ 15 ∧ k ≠ 16
  · rw [if_pos q, if_pos q, h k i q]
  · rw [if_neg q, if_neg q]
theorem cq.rf {A : xs_S} : cq A A := fun _ _ _ => rfl
theorem cq.up {A B : xs_S} {k i : Nat} {v : Int32} (h : cq A B) : cq (xs_up A k i v) (xs_up B k i v) := by
  intro k' i' hk
  unfold xs_up
  by_cases q : k' = k ∧ i' = i
  · rw [if_pos q, if_pos q]
  · rw [if_neg q, if_neg q]
    exact h k' i' hk
theorem cq.r {A B : xs_S} {k i : Nat} {v : Int32} (h : cq A B) (hk : ¬ (k < 45 ∧ k ≠ 15 ∧ k ≠ 16)) : cq A (xs_up B k i v) := by
  intro k' i' hk'
  rw [xs_up_ne (fun e => hk (by rw [← e]; exact hk'))]
  exact h k' i' hk'
section PU
variable {nf nl np : Nat} {Z Y : xs_S} {b cc : Int32}
/-- the lorry is home -/
def HM (Z : xs_S) (l : Nat) : xs_S := xs_up (xs_up (xs_up (xs_up Z 34 l 0) 35 l (-9)) 37 l 0) 38 l 0
theorem ev_hmC {l : Nat} : g_X9_unloadOne_b57 l Z = some ((), HM Z l) := rfl
theorem ev_hmM {l : Nat} (hl : l < 8) : g_X10_brings_b138 (Int32.ofNat l) (xs_mg Z Y) = some ((), xs_mg (HM Z l) Y) := by
  unfold g_X10_brings_b138
  rw [st_ok hl (by decide), mg_up (by decide)]
  simp only [xs_bnd_some, xs_lt_eq, Option.bind_some, bh_cs_n, bh_cs_s, if_true, if_false, i32_10, xs_retZ1, xs_retZ0]
  rw [st_ok hl (by decide), mg_up (by decide)]
  simp only [xs_bnd_some, xs_lt_eq, Option.bind_some, bh_cs_n, bh_cs_s, if_true, if_false, i32_10, xs_retZ1, xs_retZ0]
  rw [st_ok hl (by decide), mg_up (by decide)]
  simp only [xs_bnd_some, xs_lt_eq, Option.bind_some, bh_cs_n, bh_cs_s, if_true, if_false, i32_10, xs_retZ1, xs_retZ0]
  rw [st_ok hl (by decide), mg_up (by decide)]
  rfl
theorem RI.home (h : RI nf nl np Z Y) {l : Nat} (hl : l < nl) (h36 : Z 36 l = -9) : RI nf nl np (HM Z l) Y := by
  obtain ⟨⟨hA, hB, hC, hD, hG, hL, hY, hS, hT⟩, h15, h16⟩ := h
  refine ⟨⟨hA, hB, hC, ⟨hD.1, fun i hi => ?_⟩, hG, fun i hi => ?_, hY, hS, hT⟩, h15, h16⟩
  · show xs_up Z 34 l 0 34 i = 0 ∧ xs_up Z 37 l 0 37 i = 0 ∧ xs_up Z 38 l 0 38 i = 0 ∧ Z 39 i = 0 ∧ Z 40 i = 0
    have e : i ≠ l := by omega
    rw [xs_up_ni e, xs_up_ni e, xs_up_ni e]
    exact hD.2 i hi
  · show LO nf (Z 33 i) (xs_up Z 34 l 0 34 i) (xs_up Z 35 l (-9) 35 i) (Z 36 i) (xs_up Z 37 l 0 37 i) (xs_up Z 38 l 0 38 i)
    have q := hL i hi
    by_cases e : i = l
    · subst e
      rw [xs_up_eq, xs_up_eq, xs_up_eq, xs_up_eq]
      exact ⟨q.1, Or.inl ⟨rfl, rfl, h36⟩, ⟨by decide, by decide⟩, ⟨by decide, by decide⟩⟩
    · rw [xs_up_ni e, xs_up_ni e, xs_up_ni e, xs_up_ni e]
      exact q
theorem RI.drown (h : RI nf nl np Z Y) {l : Nat} {v : Int32} (hl : l < nl) : RI nf nl np (xs_up Z 39 l v) Y := by
  obtain ⟨⟨hA, hB, hC, hD, hG, hL, hY, hS, hT⟩, h15, h16⟩ := h
  refine ⟨⟨hA, hB, hC, ⟨hD.1, fun i hi => ?_⟩, hG, hL, hY, hS, hT⟩, h15, h16⟩
  show Z 34 i = 0 ∧ Z 37 i = 0 ∧ Z 38 i = 0 ∧ xs_up Z 39 l v 39 i = 0 ∧ Z 40 i = 0
  rw [xs_up_ni (by omega)]
  exact hD.2 i hi
/-- the price of a step -/
def PX (Z : xs_S) (l : Nat) : Int32 := Z 5 (bh_min ((Z 38 l / Z 37 l) / 25) 9).toNatClampNeg
/-- after the load is brought, before the lorry is home -/
def BG (Z : xs_S) (l f fa n : Nat) : xs_S := xs_up (xs_up (xs_up (xs_up (xs_up (xs_up (xs_nL l Z) 60 0 (Z 60 0 + Z 37 l)) 61 0 (Z 61 0 + Z 37 l)) 27 f (Z 27 f + Z 37 l)) 62 fa (Z 62 fa + Z 37 l)) 2 fa (Z 2 fa + Z 37 l * PX Z l)) 40 l (Z 40 l + 1)
theorem stp {s r : Int32} (hs : 0 ≤ s.toInt) (hr : 1 ≤ r.toInt) : ∃ j, j < 10 ∧ bh_min ((s / r) / 25) 9 = Int32.ofNat j := by
  have e1 : (s / r).toInt = s.toInt / r.toInt := by
    rw [i32_div (by omega), Int.tdiv_eq_ediv_of_nonneg hs]
  have h1 : 0 ≤ s.toInt / r.toInt := Int.ediv_nonneg hs (by omega)
  have e2 : ((s / r) / 25).toInt = s.toInt / r.toInt / 25 := by
    rw [i32_div (by omega), e1]
    show (s.toInt / r.toInt).tdiv 25 = _
    rw [Int.tdiv_eq_ediv_of_nonneg h1]
  have h2 : 0 ≤ s.toInt / r.toInt / 25 := Int.ediv_nonneg h1 (by decide)
  have e3 : (bh_min ((s / r) / 25) 9).toInt = min (s.toInt / r.toInt / 25) 9 := by
    rw [bmin_toInt, e2]
    rfl
  obtain ⟨j, hj, e⟩ := i32_inI (p := bh_min ((s / r) / 25) 9) (n := 10) (by omega) (by omega)
  exact ⟨j, hj, e⟩
theorem nz_ok {r : Int32} (hr : 1 ≤ r.toInt) : bh_nz r = some () := by
  unfold bh_nz
  rw [if_neg]
  rintro rfl
  exact absurd hr (by decide)
theorem ev_take2 {l f fa n : Nat} (hn : (Z 44 0).toNatClampNeg = n) (hf : f < 16) (hfa : fa < 6) (h35 : Z 35 l = Int32.ofNat f) (h18 : Z 18 f = Int32.ofNat fa) : g_X8_take2 n (xs_nL l Z) = some ((), xs_up (xs_up (xs_up (xs_up (xs_nL l Z) 60 0 (Z 60 0 + Z 37 l)) 61 0 (Z 61 0 + Z 37 l)) 27 f (Z 27 f + Z 37 l)) 62 fa (Z 62 fa + Z 37 l)) := by
  have e42 : xs_nL l Z 42 n = Z 37 l := by
    unfold xs_nL
    rw [hn, xs_up_ne (by decide), xs_up_ne (by decide), xs_up_ne (by decide), xs_up_eq]
  have e41 : xs_nL l Z 41 n = Int32.ofNat f := by
    unfold xs_nL
    rw [hn, xs_up_ne (by decide), xs_up_ne (by decide), xs_up_ne (by decide), xs_up_ne (by decide), xs_up_eq, h35]
  unfold g_X8_take2
  simp only [xs_bnd_some, xs_lt_eq, Option.bind_some, bh_cs_n, bh_cs_s, if_true, if_false, i32_10, xs_retZ1, xs_retZ0]
  have a1 : ∀ v w : Int32, xs_up (xs_up (xs_nL l Z) 60 0 v) 61 0 w 41 n = Int32.ofNat f := fun v w => e41
  have a2 : ∀ v : Int32, xs_up (xs_nL l Z) 60 0 v 42 n = Z 37 l := fun v => e42
  have a3 : ∀ v w : Int32, xs_up (xs_up (xs_nL l Z) 60 0 v) 61 0 w 42 n = Z 37 l := fun v w => e42
  have a4 : ∀ v w u : Int32, ∀ x, xs_up (xs_up (xs_up (xs_nL l Z) 60 0 v) 61 0 w) 27 x u 41 n = Int32.ofNat f := fun v w u x => e41
  have a5 : ∀ v w u : Int32, ∀ x, xs_up (xs_up (xs_up (xs_nL l Z) 60 0 v) 61 0 w) 27 x u 42 n = Z 37 l := fun v w u x => e42
  have a6 : ∀ v w u : Int32, ∀ x, xs_up (xs_up (xs_up (xs_nL l Z) 60 0 v) 61 0 w) 27 x u 18 f = Int32.ofNat fa := fun v w u x => h18
  rw [e42, a2, a1, rf_ok (by omega)]
  simp only [xs_bnd_some, xs_lt_eq, Option.bind_some, bh_cs_n, bh_cs_s, if_true, if_false, i32_10, xs_retZ1, xs_retZ0]
  rw [a3, a4, rf_ok (by omega)]
  simp only [xs_bnd_some, xs_lt_eq, Option.bind_some, bh_cs_n, bh_cs_s, if_true, if_false, i32_10, xs_retZ1, xs_retZ0]
  rw [a6, rf_ok (by omega)]
  simp only [xs_bnd_some, xs_lt_eq, Option.bind_some, bh_cs_n, bh_cs_s, if_true, if_false, i32_10, xs_retZ1, xs_retZ0]
  rw [a5]
  rfl
theorem ev_pay {l f fa n : Nat} (hn : (Z 44 0).toNatClampNeg = n) (hf : f < 16) (hfa : fa < 6) (h35 : Z 35 l = Int32.ofNat f) (h18 : Z 18 f = Int32.ofNat fa) (hr : 1 ≤ (Z 37 l).toInt) (hs : 0 ≤ (Z 38 l).toInt) : g_X9_pay n (xs_up (xs_up (xs_up (xs_up (xs_nL l Z) 60 0 (Z 60 0 + Z 37 l)) 61 0 (Z 61 0 + Z 37 l)) 27 f (Z 27 f + Z 37 l)) 62 fa (Z 62 fa + Z 37 l)) = some ((), xs_up (xs_up (xs_up (xs_up (xs_up (xs_nL l Z) 60 0 (Z 60 0 + Z 37 l)) 61 0 (Z 61 0 + Z 37 l)) 27 f (Z 27 f + Z 37 l)) 62 fa (Z 62 fa + Z 37 l)) 2 fa (Z 2 fa + Z 37 l * PX Z l)) := by
  have e42 : xs_nL l Z 42 n = Z 37 l := by
    unfold xs_nL
    rw [hn, xs_up_ne (by decide), xs_up_ne (by decide), xs_up_ne (by decide), xs_up_eq]
  have e43 : xs_nL l Z 43 n = Z 38 l := by
    unfold xs_nL
    rw [hn, xs_up_ne (by decide), xs_up_ne (by decide), xs_up_eq]
  have e41 : xs_nL l Z 41 n = Int32.ofNat f := by
    unfold xs_nL
    rw [hn, xs_up_ne (by decide), xs_up_ne (by decide), xs_up_ne (by decide), xs_up_ne (by decide), xs_up_eq, h35]
  generalize hG : xs_up (xs_up (xs_up (xs_up (xs_nL l Z) 60 0 (Z 60 0 + Z 37 l)) 61 0 (Z 61 0 + Z 37 l)) 27 f (Z 27 f + Z 37 l)) 62 fa (Z 62 fa + Z 37 l) = G
  have g42 : G 42 n = Z 37 l := by rw [← hG]; exact e42
  have g43 : G 43 n = Z 38 l := by rw [← hG]; exact e43
  have g41 : G 41 n = Int32.ofNat f := by rw [← hG]; exact e41
  have g18 : G 18 f = Int32.ofNat fa := by rw [← hG]; exact h18
  have g2 : G 2 fa = Z 2 fa := by rw [← hG]; rfl
  have g5 : ∀ i, G 5 i = Z 5 i := by intro i; rw [← hG]; rfl
  obtain ⟨j, hj, ej⟩ := stp hs hr
  unfold g_X9_pay PX
  rw [g42, g43, if_pos (show (1 : Int32) ≤ Z 37 l by rw [i32_le]; exact hr), nz_ok hr, ej]
  simp only [xs_bnd_some, xs_lt_eq, Option.bind_some, bh_cs_n, bh_cs_s, if_true, if_false, i32_10, xs_retZ1, xs_retZ0]
  rw [if_neg (i32_nneg (by omega)), g41, rf_ok (by omega)]
  simp only [xs_bnd_some, xs_lt_eq, Option.bind_some, bh_cs_n, bh_cs_s, if_true, if_false, i32_10, xs_retZ1, xs_retZ0]
  rw [g18, rf_ok (by omega)]
  simp only [xs_bnd_some, xs_lt_eq, Option.bind_some, bh_cs_n, bh_cs_s, if_true, if_false, i32_10, xs_retZ1, xs_retZ0]
  rw [ld_ok hj (by decide)]
  simp only [xs_bnd_some, xs_lt_eq, Option.bind_some, bh_cs_n, bh_cs_s, if_true, if_false, i32_10, xs_retZ1, xs_retZ0]
  rw [g2, g5, i32_natof (by omega)]
theorem RI.bring (h : RI nf nl np Z Y) {l f fa : Nat} (hl : l < nl) (hf : f < nf) (hfa : fa < 6) (h35 : Z 35 l = Int32.ofNat f) (h36 : Z 36 l = -9) (h18 : Z 18 f = Int32.ofNat fa) (hr : 1 ≤ (Z 37 l).toInt) (hroom : (Z 60 0).toInt + (Z 37 l).toInt ≤ 3000) (hb : (Z 90 0).toInt + 1 ≤ nf + nl + 8 * (Z 6 0).toInt) : RI nf nl (np + 1) (HM (BG Z l f fa np) l) Y := by
  obtain ⟨⟨hA, hB, hC, hD, hG, hL, hY, hS, hT⟩, h15, h16⟩ := h
  have e44 : Z 44 0 = Int32.ofNat np := hA.2.1.2.2
  have hnp := hA.1.2.2
  have n44 : (Z 44 0).toNatClampNeg = np := by rw [e44]; exact i32_natof (by omega)
  have hT1 := hT.1
  have hA6 := hA.2.2.1
  have hnf := hA.1.1
  have hnl := hA.1.2.1
  have q := hL l hl
  have v42 : ∀ i, HM (BG Z l f fa np) l 42 i = xs_up Z 42 np (Z 37 l) 42 i := fun i => by
    show xs_up Z 42 (Z 44 0).toNatClampNeg (Z 37 l) 42 i = _
    rw [n44]
  have v41 : ∀ i, HM (BG Z l f fa np) l 41 i = xs_up Z 41 np (Z 35 l) 41 i := fun i => by
    show xs_up Z 41 (Z 44 0).toNatClampNeg (Z 35 l) 41 i = _
    rw [n44]
  have v27 : ∀ i, HM (BG Z l f fa np) l 27 i = xs_up Z 27 f (Z 27 f + Z 37 l) 27 i := fun i => rfl
  have hsum : sZ (HM (BG Z l f fa np) l 42) np = sZ (Z 42) np := sZ_congr (fun i hi => by rw [v42, xs_up_ni (by omega)])
  have hs1 : sZ (HM (BG Z l f fa np) l 42) (np + 1) = sZ (Z 42) np + (Z 37 l).toInt := by
    rw [sZ, hsum, v42, xs_up_eq]
  have hone : ∀ i, i < np + 1 → 1 ≤ (HM (BG Z l f fa np) l 42 i).toInt := by
    intro i hi
    rw [v42]
    by_cases e : i = np
    · rw [e, xs_up_eq]; exact hr
    · rw [xs_up_ni e]; exact (hY.1 i (by omega)).2
  have hge := sZ_ge hone
  have h60 := hY.2.2
  refine ⟨⟨⟨⟨hA.1.1, hA.1.2.1, by omega⟩, ⟨hA.2.1.1, hA.2.1.2.1, ?_⟩, hA.2.2⟩, hB, hC, ⟨fun i hi => ?_, fun i hi => ?_⟩, hG, fun i hi => ?_, ⟨fun i hi => ⟨?_, hone i hi⟩, by omega, ?_⟩, ⟨?_, fun g hg => ?_⟩, ?_⟩, h15, h16⟩
  · show Z 44 0 + 1 = _
    rw [e44]
    exact i32_ofadd1 (by omega)
  · show Z 22 i = 0 ∧ Z 23 i = 0 ∧ Z 25 i = 0 ∧ Z 26 i = 0 ∧ xs_up Z 27 f (Z 27 f + Z 37 l) 27 i = 0 ∧ Z 29 i = 0 ∧ Z 30 i = 0
    rw [xs_up_ni (by omega)]
    exact hD.1 i hi
  · show xs_up Z 34 l 0 34 i = 0 ∧ xs_up Z 37 l 0 37 i = 0 ∧ xs_up Z 38 l 0 38 i = 0 ∧ Z 39 i = 0 ∧ xs_up Z 40 l (Z 40 l + 1) 40 i = 0
    have e : i ≠ l := by omega
    rw [xs_up_ni e, xs_up_ni e, xs_up_ni e, xs_up_ni e]
    exact hD.2 i hi
  · show LO nf (Z 33 i) (xs_up Z 34 l 0 34 i) (xs_up Z 35 l (-9) 35 i) (Z 36 i) (xs_up Z 37 l 0 37 i) (xs_up Z 38 l 0 38 i)
    have q := hL i hi
    by_cases e : i = l
    · subst e
      rw [xs_up_eq, xs_up_eq, xs_up_eq, xs_up_eq]
      exact ⟨q.1, Or.inl ⟨rfl, rfl, h36⟩, ⟨by decide, by decide⟩, ⟨by decide, by decide⟩⟩
    · rw [xs_up_ni e, xs_up_ni e, xs_up_ni e, xs_up_ni e]
      exact q
  · rw [v41]
    by_cases e : i = np
    · rw [e, xs_up_eq, h35, i32_of (by omega)]
      omega
    · rw [xs_up_ni e]
      exact (hY.1 i (by omega)).1
  · show (Z 60 0 + Z 37 l).toInt = _
    have := sZ_ge (fun i hi => (hY.1 i hi).2)
    rw [hs1, i32_add (by omega) (by omega)]
    omega
  · show Z 61 0 + Z 37 l = _
    rw [hS.1]
    exact (sI_add (d := Z 37 l) hf (by rw [v27, xs_up_eq]) (fun i hi hne => by rw [v27, xs_up_ni hne])).symm
  · show xs_up Z 62 fa (Z 62 fa + Z 37 l) 62 g = sI (fun k => if Z 18 k = Int32.ofNat g then xs_up Z 27 f (Z 27 f + Z 37 l) 27 k else 0) nf
    by_cases e : g = fa
    · subst e
      rw [xs_up_eq, hS.2 g hg]
      refine (sI_add (d := Z 37 l) hf ?_ (fun i hi hne => ?_)).symm
      · show (if Z 18 f = Int32.ofNat g then xs_up Z 27 f (Z 27 f + Z 37 l) 27 f else 0) = (if Z 18 f = Int32.ofNat g then Z 27 f else 0) + Z 37 l
        rw [if_pos h18, if_pos h18, xs_up_eq]
      · show (if Z 18 i = Int32.ofNat g then xs_up Z 27 f (Z 27 f + Z 37 l) 27 i else 0) = (if Z 18 i = Int32.ofNat g then Z 27 i else 0)
        rw [xs_up_ni hne]
    · rw [xs_up_ni e, hS.2 g hg]
      refine sI_congr (fun i hi => ?_)
      show (if Z 18 i = Int32.ofNat g then Z 27 i else 0) = (if Z 18 i = Int32.ofNat g then xs_up Z 27 f (Z 27 f + Z 37 l) 27 i else 0)
      by_cases e2 : i = f
      · have n : ¬ Z 18 i = Int32.ofNat g := by
          rw [e2, h18]
          intro z
          exact e ((i32_ofeq (by omega) (by omega)).mp z).symm
        rw [if_neg n, if_neg n]
      · rw [xs_up_ni e2]
  · show 0 ≤ (Z 90 0 + 1).toInt ∧ (Z 90 0 + 1).toInt ≤ nf + nl + 8 * (Z 6 0).toInt
    have e9 : (Z 90 0 + 1).toInt = (Z 90 0).toInt + 1 := i32_add (b := 1) (by show _ ≤ (Z 90 0).toInt + 1; omega) (by show (Z 90 0).toInt + 1 < _; omega)
    rw [e9]
    omega
theorem pe_bring (h : RI nf nl np Z Y) {l : Nat} (hl : l < nl) (h34 : Z 34 l = 3) (hroom : Z 37 l = 0 ∨ (Z 60 0).toInt + (Z 37 l).toInt ≤ 3000) (hb : (Z 90 0).toInt + 1 ≤ nf + nl + 8 * (Z 6 0).toInt) : PR (fun Z' Y' => Y' = Y ∧ (Z' 6 0 = Z 6 0 ∧ Z' 11 0 = Z 11 0) ∧ (Z' 90 0).toInt ≤ (Z 90 0).toInt + 1 ∧ (∀ i, i ≠ l → Z' 34 i = Z 34 i) ∧ ∃ np', RI nf nl np' Z' Y') (g_X9_unloadOne l Z) (g_X10_brings (Int32.ofNat l) (xs_mg Z Y)) := by
  obtain ⟨hA, hB, hC, hD, hG, hL, hY, hS, hT⟩ := h.1
  have hl8 : l < 8 := by have := hA.1.2.1; omega
  have hn : nf ≤ 16 := hA.1.1
  have q := hL l hl
  have hst : (0 ≤ (Z 35 l).toInt ∧ (Z 35 l).toInt < nf) ∧ Z 36 l = -9 := by
    rcases q.2.1 with ⟨e, _⟩ | ⟨e, _⟩ | ⟨_, e⟩
    · rw [h34] at e; exact absurd e (by decide)
    · rw [h34] at e; exact absurd e (by decide)
    · exact e
  obtain ⟨f, hf, h35⟩ := i32_inI (n := nf) hst.1.1 hst.1.2
  have hf16 : f < 16 := by omega
  unfold g_X9_unloadOne g_X10_brings
  rw [ld_ok hl8 (by decide), ld_ok hl8 (by decide)]
  simp only [xs_bnd_some, xs_lt_eq, Option.bind_some, bh_cs_n, bh_cs_s, if_true, if_false, i32_10, xs_retZ1, xs_retZ0, mg_35, mg_37]
  by_cases c : Z 37 l ≤ 0
  · rw [if_pos c, if_pos c, ev_hmC, ev_hmM hl8]
    exact PR.ret ⟨rfl, ⟨rfl, rfl⟩, by show (Z 90 0).toInt ≤ _; omega, fun i hi => (show xs_up Z 34 l 0 34 i = Z 34 i from xs_up_ni hi), np, h.home hl hst.2⟩
  · have hr : 1 ≤ (Z 37 l).toInt := by
      rw [i32_le] at c
      have c : ¬ (Z 37 l).toInt ≤ 0 := c
      omega
    have hroom2 : (Z 60 0).toInt + (Z 37 l).toInt ≤ 3000 := by
      rcases hroom with e | e
      · rw [e] at hr; exact absurd hr (by decide)
      · exact e
    have hs := q.2.2.2.1
    have e44 : Z 44 0 = Int32.ofNat np := hA.2.1.2.2
    have n44 : (Z 44 0).toNatClampNeg = np := by rw [e44]; exact i32_natof (by have := hA.1.2.2; omega)
    obtain ⟨fa, hfa, h18⟩ := i32_inI (n := 6) (hC f hf).1.1 (hC f hf).1.2
    have hge := sZ_ge (fun i hi => (hY.1 i hi).2)
    have h60 := hY.2.2
    have hnp31 : np < 3100 := by have := hA.1.2.2; omega
    have hT1 := hT.1
    have hA6 := hA.2.2.1
    have hnl := hA.1.2.1
    have hg : Z 44 0 < 3100 ∧ 0 ≤ Z 90 0 ∧ Z 90 0 < 1000000 := by
      refine ⟨?_, ?_, ?_⟩
      · rw [e44]
        exact (i32_oflt (n := 3100) (by omega) (by decide)).mpr hnp31
      · rw [i32_le]
        show (0 : Int) ≤ _
        omega
      · rw [i32_lt]
        show _ < (1000000 : Int)
        omega
    rw [if_neg c, if_neg c, h35, rf_ok (by omega)]
    simp only [xs_bnd_some, xs_lt_eq, Option.bind_some, bh_cs_n, bh_cs_s, if_true, if_false, i32_10, xs_retZ1, xs_retZ0]
    unfold g_X9_unloadOne_new
    rw [if_pos hg, h35, rf_ok (by omega), n44]
    simp only [xs_bnd_some, xs_lt_eq, Option.bind_some, bh_cs_n, bh_cs_s, if_true, if_false, i32_10, xs_retZ1, xs_retZ0]
    rw [ev_take2 n44 hf16 hfa h35 h18]
    simp only [xs_bnd_some, xs_lt_eq, Option.bind_some, bh_cs_n, bh_cs_s, if_true, if_false, i32_10, xs_retZ1, xs_retZ0]
    rw [ev_pay n44 hf16 hfa h35 h18 hr hs]
    simp only [xs_bnd_some, xs_lt_eq, Option.bind_some, bh_cs_n, bh_cs_s, if_true, if_false, i32_10, xs_retZ1, xs_retZ0]
    rw [ev_hmC]
    have e44' : xs_mg Z Y 44 0 = Int32.ofNat np := e44
    rw [e44', st_ok hnp31 (by decide), mg_up (by decide)]
    simp only [Option.bind_some]
    rw [ld_ok hl8 (by decide), show xs_mg (xs_up Z 41 np (Int32.ofNat f)) Y 37 l = Z 37 l from rfl]
    simp only [Option.bind_some]
    rw [show xs_mg (xs_up Z 41 np (Int32.ofNat f)) Y 44 0 = Int32.ofNat np from e44, st_ok hnp31 (by decide), mg_up (by decide)]
    simp only [Option.bind_some]
    rw [ld_ok hl8 (by decide), show xs_mg (xs_up (xs_up Z 41 np (Int32.ofNat f)) 42 np (Z 37 l)) Y 38 l = Z 38 l from rfl]
    simp only [Option.bind_some]
    rw [show xs_mg (xs_up (xs_up Z 41 np (Int32.ofNat f)) 42 np (Z 37 l)) Y 44 0 = Int32.ofNat np from e44, st_ok hnp31 (by decide), mg_up (by decide)]
    simp only [Option.bind_some]
    rw [mg_up (by decide), show xs_mg (xs_up (xs_up (xs_up Z 41 np (Int32.ofNat f)) 42 np (Z 37 l)) 43 np (Z 38 l)) Y 44 0 = Z 44 0 from rfl]
    generalize hM : xs_up (xs_up (xs_up (xs_up Z 41 np (Int32.ofNat f)) 42 np (Z 37 l)) 43 np (Z 38 l)) 44 0 (Z 44 0 + 1) = M
    have m18 : xs_mg M Y 18 f = Int32.ofNat fa := by rw [← hM]; exact h18
    have m2 : xs_mg M Y 2 fa = Z 2 fa := by rw [← hM]; rfl
    have m37 : xs_mg M Y 37 l = Z 37 l := by rw [← hM]; rfl
    have m38 : xs_mg M Y 38 l = Z 38 l := by rw [← hM]; rfl
    have m5 : ∀ i, xs_mg M Y 5 i = Z 5 i := by intro i; rw [← hM]; rfl
    obtain ⟨j, hj, ej⟩ := stp hs hr
    have ej2 : bh_min 9 ((Z 38 l / Z 37 l) / 25) = Int32.ofNat j := by rw [bmin_comm]; exact ej
    have epx : PX Z l = Z 5 j := by unfold PX; rw [ej, i32_natof (by omega)]
    rw [ld_ok hf16 (by decide)]
    simp only [xs_bnd_some, xs_lt_eq, Option.bind_some, bh_cs_n, bh_cs_s, if_true, if_false, i32_10, xs_retZ1, xs_retZ0]
    rw [m18, ld_ok hfa (by decide), ld_ok hl8 (by decide), ld_ok hl8 (by decide)]
    simp only [xs_bnd_some, xs_lt_eq, Option.bind_some, bh_cs_n, bh_cs_s, if_true, if_false, i32_10, xs_retZ1, xs_retZ0]
    rw [m37, m38, nz_ok hr, ej2]
    simp only [xs_bnd_some, xs_lt_eq, Option.bind_some, bh_cs_n, bh_cs_s, if_true, if_false, i32_10, xs_retZ1, xs_retZ0]
    rw [ld_ok hj (by decide)]
    simp only [xs_bnd_some, xs_lt_eq, Option.bind_some, bh_cs_n, bh_cs_s, if_true, if_false, i32_10, xs_retZ1, xs_retZ0]
    rw [st_ok hfa (by decide), mg_up (by decide), m2, m5, ← epx]
    simp only [xs_bnd_some, xs_lt_eq, Option.bind_some, bh_cs_n, bh_cs_s, if_true, if_false, i32_10, xs_retZ1, xs_retZ0]
    rw [ld_ok hf16 (by decide), ld_ok hl8 (by decide)]
    simp only [xs_bnd_some, xs_lt_eq, Option.bind_some, bh_cs_n, bh_cs_s, if_true, if_false, i32_10, xs_retZ1, xs_retZ0]
    rw [st_ok hf16 (by decide), mg_up (by decide)]
    simp only [xs_bnd_some, xs_lt_eq, Option.bind_some, bh_cs_n, bh_cs_s, if_true, if_false, i32_10, xs_retZ1, xs_retZ0]
    rw [ld_ok hl8 (by decide)]
    simp only [xs_bnd_some, xs_lt_eq, Option.bind_some, bh_cs_n, bh_cs_s, if_true, if_false, i32_10, xs_retZ1, xs_retZ0]
    rw [st_ok hl8 (by decide), mg_up (by decide)]
    simp only [xs_bnd_some, xs_lt_eq, Option.bind_some, bh_cs_n, bh_cs_s, if_true, if_false, i32_10, xs_retZ1, xs_retZ0]
    rw [ev_hmM hl8]
    have x27 : xs_mg (xs_up M 2 fa (Z 2 fa + Z 37 l * PX Z l)) Y 27 f = Z 27 f := by rw [← hM]; rfl
    have x37 : xs_mg (xs_up M 2 fa (Z 2 fa + Z 37 l * PX Z l)) Y 37 l = Z 37 l := by rw [← hM]; rfl
    have x40 : ∀ v : Int32, xs_mg (xs_up (xs_up M 2 fa (Z 2 fa + Z 37 l * PX Z l)) 27 f v) Y 40 l = Z 40 l := by intro v; rw [← hM]; rfl
    rw [x27, x37, x40]
    have hcq : cq (HM (xs_up (xs_up (xs_up M 2 fa (Z 2 fa + Z 37 l * PX Z l)) 27 f (Z 27 f + Z 37 l)) 40 l (Z 40 l + 1)) l) (HM (BG Z l f fa np) l) := by
      have c1 : cq (xs_up (xs_up M 2 fa (Z 2 fa + Z 37 l * PX Z l)) 27 f (Z 27 f + Z 37 l)) (xs_up (xs_up (xs_up (xs_up (xs_up (xs_nL l Z) 60 0 (Z 60 0 + Z 37 l)) 61 0 (Z 61 0 + Z 37 l)) 27 f (Z 27 f + Z 37 l)) 62 fa (Z 62 fa + Z 37 l)) 2 fa (Z 2 fa + Z 37 l * PX Z l)) := by
        rw [xs_up_comm (by decide)]
        refine cq.up (cq.r (cq.up ?_) (by decide))
        refine cq.r (cq.r ?_ (by decide)) (by decide)
        unfold xs_nL
        rw [n44, h35, ← hM]
        exact cq.r cq.rf (by decide)
      exact cq.up (cq.up (cq.up (cq.up (cq.up c1))))
    rw [hcq.mg]
    refine PR.ret ⟨rfl, ⟨rfl, rfl⟩, ?_, fun i hi => ?_, np + 1, h.bring hl hf hfa h35 hst.2 h18 hr hroom2 hb⟩
    · show (Z 90 0 + 1).toInt ≤ _
      have e9 : (Z 90 0 + 1).toInt = (Z 90 0).toInt + 1 := i32_add (b := 1) (by show _ ≤ (Z 90 0).toInt + 1; omega) (by show (Z 90 0).toInt + 1 < _; omega)
      omega
    · show xs_up Z 34 l 0 34 i = _
      exact xs_up_ni hi
theorem pe_unl {N : Nat} (hN : 4000 ≤ N) : ∀ (d j n1 n2 np : Nat) (xc xm : Int32) (Z Y : xs_S), (xc = 0 ∧ xm = 1 ∨ xc = 1 ∧ xm = 0) → RI nf nl np Z Y → (Z 6 0 = b ∧ Z 11 0 = cc) → (Z 90 0).toInt + d ≤ nf + nl + 8 * (Z 6 0).toInt → j + d = nl → d < n1 → d < n2 → PR (fun Z' Y' => (Z' 6 0 = b ∧ Z' 11 0 = cc) ∧ ∃ np', RI nf nl np' Z' Y') (g_X9_unloadLorries_b4 N n1 xc (Int32.ofNat j) Z) (g_X10_unloads_b4 N n2 xm (Int32.ofNat j) (xs_mg Z Y)) := by
  intro d
  induction d with
  | zero =>
    intro j n1 n2 np xc xm Z Y hx h h6 h90 hj h1 h2
    obtain ⟨m1, rfl⟩ : ∃ m, n1 = m + 1 := ⟨n1 - 1, by omega⟩
    obtain ⟨m2, rfl⟩ : ∃ m, n2 = m + 1 := ⟨n2 - 1, by omega⟩
    have h8 : Z 8 0 = Int32.ofNat nl := h.1.1.2.1.2.1
    have hn : nl ≤ 8 := h.1.1.1.2.1
    unfold g_X9_unloadLorries_b4 g_X10_unloads_b4
    rw [if_pos (ev_le h8 (by omega) (by omega) (by omega)), if_pos (ev_le (v := xs_mg Z Y 8 0) h8 (by omega) (by omega) (by omega))]
    exact PR.ret ⟨h6, np, h⟩
  | succ d ih =>
    intro j n1 n2 np xc xm Z Y hx h h6 h90 hj h1 h2
    obtain ⟨m1, rfl⟩ : ∃ m, n1 = m + 1 := ⟨n1 - 1, by omega⟩
    obtain ⟨m2, rfl⟩ : ∃ m, n2 = m + 1 := ⟨n2 - 1, by omega⟩
    obtain ⟨hA, hB, hC, hD, hG, hL, hY, hS, hT⟩ := h.1
    have h8 : Z 8 0 = Int32.ofNat nl := hA.2.1.2.1
    have hn : nl ≤ 8 := hA.1.2.1
    have hj8 : j < 8 := by omega
    have hjl : j < nl := by omega
    have nx := fun np xc xm Z Y hx h h6 h90 => ih (j + 1) m1 m2 np xc xm Z Y hx h h6 h90 (by omega) (by omega) (by omega)
    rw [← i32_ofadd1 (by omega)] at nx
    have drown : ∀ (k : Unit), PR (fun Z' Y' => (Z' 6 0 = b ∧ Z' 11 0 = cc) ∧ ∃ np', RI nf nl np' Z' Y') (g_X9_unloadLorries_b56 N (g_X9_unloadLorries_b4 N m1) (Int32.ofNat j) j Z) (g_X10_unloads_b60 N (g_X10_unloads_b4 N m2) (Int32.ofNat j) (xs_mg Z Y)) := by
      intro _
      unfold g_X9_unloadLorries_b56 g_X9_unloadLorries_b61 g_X9_unloadLorries_b84 g_X10_unloads_b60 g_X10_unloads_b61 g_X10_unloads_b84
      rw [if_neg (by decide), if_pos rfl, ld_ok hj8 (by decide)]
      simp only [xs_bnd_some, xs_lt_eq, Option.bind_some, bh_cs_n, bh_cs_s, if_true, if_false, i32_10, xs_retZ1, xs_retZ0]
      rw [st_ok hj8 (by decide), mg_up (by decide)]
      exact nx np 1 0 _ Y (Or.inr ⟨rfl, rfl⟩) (h.drown hjl) h6 (by show (Z 90 0).toInt + d ≤ nf + nl + 8 * (Z 6 0).toInt; omega)
    have bring : (Z 34 j = 3) → (Z 37 j = 0 ∨ (Z 60 0).toInt + (Z 37 j).toInt ≤ 3000) → PR (fun Z' Y' => (Z' 6 0 = b ∧ Z' 11 0 = cc) ∧ ∃ np', RI nf nl np' Z' Y') (g_X9_unloadLorries_b61 N (g_X9_unloadLorries_b4 N m1) (Int32.ofNat j) j 0 Z) (g_X10_unloads_b56 N (g_X10_unloads_b4 N m2) (Int32.ofNat j) (xs_mg Z Y)) := by
      intro h34 hroom
      unfold g_X9_unloadLorries_b61 g_X9_unloadLorries_b84 g_X10_unloads_b56 g_X10_unloads_b61 g_X10_unloads_b84
      rw [if_pos rfl, if_neg (by decide)]
      refine (pe_bring h hjl h34 hroom (by omega)).bnd (fun r Z1 Y1 q => ?_)
      obtain ⟨rfl, q1, q2, q3, np', q4⟩ := q
      exact nx np' 0 1 Z1 _ (Or.inl ⟨rfl, rfl⟩) q4 ⟨q1.1.trans h6.1, q1.2.trans h6.2⟩ (by rw [q1.1]; omega)
    unfold g_X9_unloadLorries_b4 g_X10_unloads_b4
    rw [if_neg (ev_nle h8 (by omega) (by omega)), if_neg (ev_nle (v := xs_mg Z Y 8 0) h8 (by omega) (by omega)), gt_ok h8 hjl (by omega), ld_ok hj8 (by decide)]
    simp only [xs_bnd_some, xs_lt_eq, Option.bind_some, bh_cs_n, bh_cs_s, if_true, if_false, i32_10, xs_retZ1, xs_retZ0, mg_34]
    by_cases c3 : Z 34 j = 3
    · rw [if_pos c3, if_pos c3]
      rcases hx with ⟨rfl, rfl⟩ | ⟨rfl, rfl⟩
      · rw [if_pos rfl, if_neg (by decide), ld_ok hj8 (by decide)]
        simp only [xs_bnd_some, xs_lt_eq, Option.bind_some, bh_cs_n, bh_cs_s, if_true, if_false, i32_10, xs_retZ1, xs_retZ0, mg_37]
        unfold g_X8_hasRoomFor
        by_cases c4 : Z 37 j = 0
        · rw [if_pos c4, if_pos c4]
          simp only [xs_bnd_some, xs_lt_eq, Option.bind_some, bh_cs_n, bh_cs_s, if_true, if_false, i32_10, xs_retZ1, xs_retZ0]
          exact bring c3 (Or.inl c4)
        · rw [if_neg c4, if_neg c4, ev_inYard hN hA hY]
          simp only [xs_bnd_some, xs_lt_eq, Option.bind_some, bh_cs_n, bh_cs_s, if_true, if_false, i32_10, xs_retZ1, xs_retZ0]
          rw [ld_ok hj8 (by decide)]
          simp only [xs_bnd_some, xs_lt_eq, Option.bind_some, bh_cs_n, bh_cs_s, if_true, if_false, i32_10, xs_retZ1, xs_retZ0, mg_37]
          have hro := (hL j hjl).2.2.1
          have h60 := hY.2.2
          have hge := sZ_ge (fun i hi => (hY.1 i hi).2)
          have hs := hY.2.1
          have e6 : (Z 60 0 + Z 37 j).toInt = (Z 60 0).toInt + (Z 37 j).toInt := i32_add (by omega) (by omega)
          by_cases c5 : Z 9 0 < Z 60 0 + Z 37 j
          · rw [if_pos c5, if_pos (show xs_mg Z Y 9 0 < Z 60 0 + Z 37 j from c5)]
            simp only [xs_bnd_some, xs_lt_eq, Option.bind_some, bh_cs_n, bh_cs_s, if_true, if_false, i32_10, xs_retZ1, xs_retZ0]
            exact drown ()
          · rw [if_neg c5, if_neg (show ¬ xs_mg Z Y 9 0 < Z 60 0 + Z 37 j from c5)]
            simp only [xs_bnd_some, xs_lt_eq, Option.bind_some, bh_cs_n, bh_cs_s, if_true, if_false, i32_10, xs_retZ1, xs_retZ0]
            refine bring c3 (Or.inr ?_)
            rw [i32_lt, e6] at c5
            have := hA.2.2.2.1.2
            omega
      · rw [if_neg (by decide), if_pos rfl]
        exact drown ()
    · rw [if_neg c3, if_neg c3]
      exact nx np xc xm Z Y hx h h6 (by omega)
end PU
