/-! ===== second level, the class: the steps ===== -/
section CVR
variable {α β : Type} {G : α → bh_S → β → xs_S → Prop} {go : Option (β × xs_S)} {w : Nat → Nat → Nat} {nf nl : Nat} {mb z1 n1 : Nat} {σ0 : bh_S} {lp : Nat → Nat} {np : Nat} {σ : bh_S} {Z : xs_S} {c i k d t j n : Nat}
theorem cv_R.K (h : cv_R w nf nl mb z1 n1 σ0 lp np σ Z) (hi : i < cv_cn nf nl c) : bh_K σ (w c i) = c := by
  obtain ⟨ea, hO, -⟩ := h
  exact (hO c i hi).1
theorem cv_ck {f : Unit → Option (α × bh_S)} (h : cv_R w nf nl mb z1 n1 σ0 lp np σ Z) (hi : i < cv_cn nf nl c) (kk : sm G (f ()) go) : sm G ((bh_ck σ (w c i) c).bind f) go := by
  unfold bh_ck
  rw [if_pos (h.K hi)]
  exact kk
theorem cv_ck0 {f : Unit → Option (α × bh_S)} (h : cv_R w nf nl mb z1 n1 σ0 lp np σ Z) (hj : j < 3) (kk : sm G (f ()) go) : sm G ((bh_ck σ (w 0 j) 0).bind f) go := by
  obtain ⟨ea, hO, hV, hC, hA, hS, -⟩ := h
  unfold bh_ck
  rw [if_pos (hS.2.2 j hj).1.1]
  exact kk
theorem cv_cst {f : Unit → Option (α × bh_S)} (h : cv_R w nf nl mb z1 n1 σ0 lp np σ Z) (hi : i < cv_cn nf nl c) (kk : sm G (f ()) go) : sm G ((bh_cst σ c (some (w c i))).bind f) go := by
  show sm G ((if bh_K σ (w c i) = c then some () else none).bind f) go
  rw [if_pos (h.K hi)]
  exact kk
theorem cv_cst3 {f : Unit → Option (α × bh_S)} (h : cv_R w nf nl mb z1 n1 σ0 lp np σ Z) (hi : i < np) (kk : sm G (f ()) go) : sm G ((bh_cst σ 3 (some (lp i))).bind f) go := by
  obtain ⟨ea, hO, hV, hC, hA, hS, hL, -⟩ := h
  show sm G ((if bh_K σ (lp i) = 3 then some () else none).bind f) go
  rw [if_pos (hL i hi).1]
  exact kk
theorem cv_rdI {f : Int32 → Option (α × bh_S)} (h : cv_R w nf nl mb z1 n1 σ0 lp np σ Z) (hi : i < cv_cn nf nl c) (hk : cv_iF c k = true) (hd : cv_cd c k = d) (kk : sm G (f (Z d i)) go) : sm G ((bh_rdI σ c (w c i) k).bind f) go := by
  subst hd
  obtain ⟨ea, hO, -⟩ := h
  unfold bh_rdI
  rw [if_pos (hO c i hi).1, (hO c i hi).2.2.2 k hk]
  exact kk
theorem cv_rdI3 {f : Int32 → Option (α × bh_S)} (h : cv_R w nf nl mb z1 n1 σ0 lp np σ Z) (hi : i < np) (hk : k = 1 ∨ k = 2) (hd : 41 + k = d) (kk : sm G (f (Z d i)) go) : sm G ((bh_rdI σ 3 (lp i) k).bind f) go := by
  subst hd
  obtain ⟨ea, hO, hV, hC, hA, hS, hL, -⟩ := h
  obtain ⟨g1, g2, g3, ⟨g4, g5⟩, -⟩ := hL i hi
  unfold bh_rdI
  rcases hk with rfl | rfl
  · rw [if_pos g1, g4]
    exact kk
  · rw [if_pos g1, g5]
    exact kk
theorem cv_wrI {f : bh_S → Option (α × bh_S)} {g : xs_S → Option (β × xs_S)} {v : Int32} (h : cv_R w nf nl mb z1 n1 σ0 lp np σ Z) (hi : i < cv_cn nf nl c) (hk : cv_iF c k = true) (hd : cv_cd c k = d) (kk : ∀ (σ1 : bh_S) (Z1 : xs_S), cv_R w nf nl mb z1 n1 σ0 lp np σ1 Z1 → sm G (f σ1) (g Z1)) : sm G ((bh_wrI σ c (w c i) k v).bind f) (xs_lt (xs_up Z d i v) g) := by
  subst hd
  unfold bh_wrI
  rw [if_pos (h.K hi)]
  exact kk _ _ (h.setI hi hk)
theorem cv_wrI3 {f : bh_S → Option (α × bh_S)} {g : xs_S → Option (β × xs_S)} {v : Int32} (h : cv_R w nf nl mb z1 n1 σ0 lp np σ Z) (hi : i < np) (hk : k = 1 ∨ k = 2) (hd : 41 + k = d) (kk : ∀ (σ1 : bh_S) (Z1 : xs_S), cv_R w nf nl mb z1 n1 σ0 lp np σ1 Z1 → sm G (f σ1) (g Z1)) : sm G ((bh_wrI σ 3 (lp i) k v).bind f) (xs_lt (xs_up Z d i v) g) := by
  subst hd
  have hK : bh_K σ (lp i) = 3 := by
    obtain ⟨ea, hO, hV, hC, hA, hS, hL, -⟩ := h
    exact (hL i hi).1
  unfold bh_wrI
  rw [if_pos hK]
  exact kk _ _ (h.setI3 hi hk)
theorem cv_wrZ {f : bh_S → Option (α × bh_S)} {g : xs_S → Option (β × xs_S)} {v : Int32} (h : cv_R w nf nl mb z1 n1 σ0 lp np σ Z) (hi : i < cv_cn nf nl c) (hk : cv_iF c k = true) (hd : cv_cd c k = d) (kk : ∀ (σ1 : bh_S) (Z1 : xs_S), cv_R w nf nl mb z1 n1 σ0 lp np σ1 Z1 → sm G (f σ1) (g Z1)) : sm G ((bh_wrZ σ c (w c i) k v).bind f) ((xs_wZ Z d i v).bind g) := by
  subst hd
  unfold bh_wrZ xs_wZ
  by_cases q : v = 0 ∨ v = 1
  · rw [if_pos ⟨h.K hi, q⟩, if_pos q]
    exact kk _ _ (h.setI hi hk)
  · rw [if_neg q]
    exact sm_none
theorem cv_rdV {f : Option Nat → Option (α × bh_S)} {g : Option Nat → Option (β × xs_S)} (h : cv_R w nf nl mb z1 n1 σ0 lp np σ Z) (hi : i < cv_cn nf nl c) (ht : cv_tk c k = t) (h0 : t ≠ 0) (hd : cv_cd c k = d) (kk : ∀ o : Option Nat, (∀ j, o = some j → j < cv_cn nf nl t) → sm G (f (o.map (w t))) (g o)) : sm G ((bh_rdR σ c (w c i) k).bind f) (xs_lt (xs_rf (Z d i)) g) := by
  subst hd
  subst ht
  obtain ⟨ea, hO, hV, -⟩ := h
  unfold bh_rdR
  rw [if_pos (hO c i hi).1, (hV c k i h0 hi).1]
  exact kk _ (hV c k i h0 hi).2
theorem cv_rdV3 {f : Option Nat → Option (α × bh_S)} {g : Option Nat → Option (β × xs_S)} (h : cv_R w nf nl mb z1 n1 σ0 lp np σ Z) (hi : i < np) (kk : ∀ o : Option Nat, (∀ j, o = some j → j < cv_cn nf nl 7) → sm G (f (o.map (w 7))) (g o)) : sm G ((bh_rdR σ 3 (lp i) 0).bind f) (xs_lt (xs_rf (Z 41 i)) g) := by
  obtain ⟨ea, hO, hV, hC, hA, hS, hL, -⟩ := h
  obtain ⟨g1, g2, g3, g4, j', g5, g6, g7⟩ := hL i hi
  unfold bh_rdR
  rw [if_pos g1, g7, g6]
  exact kk (some j') (fun j hj => by cases hj; exact g5)
theorem cv_wrV {f : bh_S → Option (α × bh_S)} {g : xs_S → Option (β × xs_S)} {dn : Int32} {o : Option Nat} (h : cv_R w nf nl mb z1 n1 σ0 lp np σ Z) (hi : i < cv_cn nf nl c) (ht : cv_tk c k = t) (h0 : t ≠ 0) (hd : cv_cd c k = d) (hn : dn < 0) (ho : ∀ j, o = some j → j < cv_cn nf nl t) (kk : ∀ (σ1 : bh_S) (Z1 : xs_S), cv_R w nf nl mb z1 n1 σ0 lp np σ1 Z1 → sm G (f σ1) (g Z1)) : sm G ((bh_wrR σ c (w c i) k (o.map (w t))).bind f) (xs_lt (xs_up Z d i (xs_fr dn o)) g) := by
  subst hd
  unfold bh_wrR
  rw [if_pos (h.K hi)]
  exact kk _ _ (h.setV hi ht h0 hn ho)
theorem cv_wrV1 {f : bh_S → Option (α × bh_S)} {g : xs_S → Option (β × xs_S)} {dn : Int32} {x : Nat} (h : cv_R w nf nl mb z1 n1 σ0 lp np σ Z) (hi : i < cv_cn nf nl c) (ht : cv_tk c k = t) (h0 : t ≠ 0) (hd : cv_cd c k = d) (hn : dn < 0) (hx : x < cv_cn nf nl t) (kk : ∀ (σ1 : bh_S) (Z1 : xs_S), cv_R w nf nl mb z1 n1 σ0 lp np σ1 Z1 → sm G (f σ1) (g Z1)) : sm G ((bh_wrR σ c (w c i) k (some (w t x))).bind f) (xs_lt (xs_up Z d i (xs_fr dn (some x))) g) :=
  cv_wrV (o := some x) h hi ht h0 hd hn (fun j hj => by cases hj; exact hx) kk
theorem cv_wrV0 {f : bh_S → Option (α × bh_S)} {g : xs_S → Option (β × xs_S)} {dn : Int32} (h : cv_R w nf nl mb z1 n1 σ0 lp np σ Z) (hi : i < cv_cn nf nl c) (ht : cv_tk c k = t) (h0 : t ≠ 0) (hd : cv_cd c k = d) (hn : dn < 0) (kk : ∀ (σ1 : bh_S) (Z1 : xs_S), cv_R w nf nl mb z1 n1 σ0 lp np σ1 Z1 → sm G (f σ1) (g Z1)) : sm G ((bh_wrR σ c (w c i) k none).bind f) (xs_lt (xs_up Z d i (xs_fr dn none)) g) :=
  cv_wrV (o := none) h hi ht h0 hd hn (fun j hj => by cases hj) kk
theorem cv_rdC {f : Option Nat → Option (α × bh_S)} (h : cv_R w nf nl mb z1 n1 σ0 lp np σ Z) (hi : 0 < cv_cn nf nl c) (hc : cv_ct c k = some (t, j)) (kk : sm G (f (some (w t j))) go) : sm G ((bh_rdR σ c (w c 0) k).bind f) go := by
  obtain ⟨ea, hO, hV, hC, -⟩ := h
  unfold bh_rdR
  rw [if_pos (hO c 0 hi).1, hC.1 c k t j hc]
  exact kk
theorem sm_bv {W : Nat → Nat} {q : Nat → Prop} {o : Option Nat} {f : Nat → Option (α × bh_S)} {g : Nat → Option (β × xs_S)} (ho : ∀ j, o = some j → q j) (kk : ∀ j, q j → sm G (f (W j)) (g j)) : sm G ((o.map W).bind f) (o.bind g) := by
  cases o with
  | none => exact sm_none
  | some j => exact kk j (ho j rfl)
theorem sm_cs {W : Nat → Nat} {q : Nat → Prop} {o : Option Nat} {A : Option (α × bh_S)} {B : Nat → Option (α × bh_S)} {A' : Option (β × xs_S)} {B' : Nat → Option (β × xs_S)} (ho : ∀ j, o = some j → q j) (ka : sm G A A') (kk : ∀ j, q j → sm G (B (W j)) (B' j)) : sm G (bh_cs (o.map W) A B) (bh_cs o A' B') := by
  cases o with
  | none => exact ka
  | some j => exact kk j (ho j rfl)
theorem cv_R.inj (h : cv_R w nf nl mb z1 n1 σ0 lp np σ Z) (hi : i < cv_cn nf nl c) (hj : j < cv_cn nf nl c) (e : w c j = w c i) : j = i := by
  obtain ⟨ea, hO, -⟩ := h
  exact (hO c i hi).2.2.1 j hj e
/-- two references are the same -/
theorem sm_ite2 {q q' : Prop} [Decidable q] [Decidable q'] {A B : Option (α × bh_S)} {A' B' : Option (β × xs_S)} (e : q ↔ q') (ht : q' → sm G A A') (hf : ¬ q' → sm G B B') : sm G (if q then A else B) (if q' then A' else B') := by
  by_cases h : q'
  · rw [if_pos (e.mpr h), if_pos h]; exact ht h
  · rw [if_neg (fun z => h (e.mp z)), if_neg h]; exact hf h
theorem cv_same {o o' : Option Nat} (h : cv_R w nf nl mb z1 n1 σ0 lp np σ Z) (ho : ∀ j, o = some j → j < cv_cn nf nl c) (ho' : ∀ j, o' = some j → j < cv_cn nf nl c) : o.map (w c) = o'.map (w c) ↔ o = o' := by
  constructor
  · intro e
    cases o with
    | none => cases o' with
      | none => rfl
      | some b => cases e
    | some a => cases o' with
      | none => cases e
      | some b => exact congrArg some (h.inj (ho' b rfl) (ho a rfl) (Option.some.inj e))
  · rintro rfl; rfl
theorem cv_same1 {o : Option Nat} {x : Nat} (h : cv_R w nf nl mb z1 n1 σ0 lp np σ Z) (ho : ∀ j, o = some j → j < cv_cn nf nl c) (hx : x < cv_cn nf nl c) : o.map (w c) = some (w c x) ↔ o = some x :=
  cv_same (o' := some x) h ho (fun j hj => by cases hj; exact hx)
theorem cv_ldF {f : Option Nat → Option (α × bh_S)} {g : Nat → Option (β × xs_S)} {x : Int32} (h : cv_R w nf nl mb z1 n1 σ0 lp np σ Z) (kk : ∀ i, i < cv_cn nf nl 1 → sm G (f (some (w 1 i))) (g i)) : sm G ((bh_ldR σ 14 (w 14 0) x).bind f) ((xs_ix 6 x).bind g) := by
  obtain ⟨ea, hO, hV, hC, -⟩ := h
  obtain ⟨g1, g2, g3, g4⟩ := hC.2.1
  unfold bh_ldR xs_ix
  rw [g3]
  by_cases q : ¬ (x < 0 ∨ 6 ≤ x.toNatClampNeg)
  · have hq : x.toNatClampNeg < 6 := Nat.lt_of_not_le (fun e => q (Or.inr e))
    rw [if_pos ⟨g1, q⟩, if_pos q, g4 _ hq]
    exact kk _ hq
  · rw [if_neg q]
    exact sm_none
theorem cv_ldG {f : Option Nat → Option (α × bh_S)} {g : Nat → Option (β × xs_S)} {x : Int32} (h : cv_R w nf nl mb z1 n1 σ0 lp np σ Z) (kk : ∀ i, i < cv_cn nf nl 2 → sm G (f (some (w 2 i))) (g i)) : sm G ((bh_ldR σ 15 (w 15 0) x).bind f) ((xs_ix 4 x).bind g) := by
  obtain ⟨ea, hO, hV, hC, -⟩ := h
  obtain ⟨g1, g2, g3, g4⟩ := hC.2.2.1
  unfold bh_ldR xs_ix
  rw [g3]
  by_cases q : ¬ (x < 0 ∨ 4 ≤ x.toNatClampNeg)
  · have hq : x.toNatClampNeg < 4 := Nat.lt_of_not_le (fun e => q (Or.inr e))
    rw [if_pos ⟨g1, q⟩, if_pos q, g4 _ hq]
    exact kk _ hq
  · rw [if_neg q]
    exact sm_none
theorem cv_ldW {f : Option Nat → Option (α × bh_S)} {g : Nat → Option (β × xs_S)} {x : Int32} (h : cv_R w nf nl mb z1 n1 σ0 lp np σ Z) (kk : ∀ i, i + 8 < 16 → sm G (f (some (w 12 (i + 8)))) (g i)) : sm G ((bh_ldR σ 17 (w 17 0) x).bind f) ((xs_ix 8 x).bind g) := by
  obtain ⟨ea, hO, hV, hC, -⟩ := h
  obtain ⟨g1, g2, g3, g4⟩ := hC.2.2.2
  unfold bh_ldR xs_ix
  rw [g3]
  by_cases q : ¬ (x < 0 ∨ 8 ≤ x.toNatClampNeg)
  · have hq : x.toNatClampNeg < 8 := Nat.lt_of_not_le (fun e => q (Or.inr e))
    rw [if_pos ⟨g1, q⟩, if_pos q, g4 _ hq]
    exact kk _ (Nat.add_lt_add_right hq 8)
  · rw [if_neg q]
    exact sm_none
theorem cv_len {f : Int32 → Option (α × bh_S)} (h : cv_R w nf nl mb z1 n1 σ0 lp np σ Z) (hj : j < 16) (kk : sm G (f (Int32.ofNat (cv_al j))) go) : sm G ((bh_len σ 12 (w 12 j)).bind f) go := by
  obtain ⟨ea, hO, hV, hC, hA, -⟩ := h
  unfold bh_len
  rw [if_pos (hA.2 j hj).1, (hA.2 j hj).2.1]
  exact kk
theorem cv_ldA {f : Int32 → Option (α × bh_S)} {g : Int32 → Option (β × xs_S)} {x : Int32} (h : cv_R w nf nl mb z1 n1 σ0 lp np σ Z) (hj : j < 16) (hn : cv_al j = n) (hd : cv_ac j = d) (kk : ∀ v, sm G (f v) (g v)) : sm G ((bh_ldI σ 12 (w 12 j) x).bind f) ((xs_ld n Z d x).bind g) := by
  subst hn
  subst hd
  obtain ⟨ea, hO, hV, hC, hA, -⟩ := h
  obtain ⟨g1, g2, g3, g4, g5⟩ := hA.2 j hj
  unfold bh_ldI xs_ld
  rw [g2]
  by_cases q : ¬ (x < 0 ∨ cv_al j ≤ x.toNatClampNeg)
  · rw [if_pos ⟨g1, q⟩, if_pos q, g5]
    exact kk _
  · rw [if_neg q]
    exact sm_none
theorem cv_stA {f : bh_S → Option (α × bh_S)} {g : xs_S → Option (β × xs_S)} {x v : Int32} (h : cv_R w nf nl mb z1 n1 σ0 lp np σ Z) (hj : j < 16) (hn : cv_al j = n) (hd : cv_ac j = d) (kk : ∀ (σ1 : bh_S) (Z1 : xs_S), cv_R w nf nl mb z1 n1 σ0 lp np σ1 Z1 → sm G (f σ1) (g Z1)) : sm G ((bh_stI σ 12 (w 12 j) x v).bind f) ((xs_st n Z d x v).bind g) := by
  subst hn
  subst hd
  have hA : bh_K σ (w 12 j) = 12 ∧ bh_L σ (w 12 j) = cv_al j := by
    obtain ⟨ea, hO, hV, hC, hA, -⟩ := h
    exact ⟨(hA.2 j hj).1, (hA.2 j hj).2.1⟩
  unfold bh_stI xs_st
  rw [hA.2]
  by_cases q : ¬ (x < 0 ∨ cv_al j ≤ x.toNatClampNeg)
  · rw [if_pos ⟨hA.1, q⟩, if_pos q]
    exact kk _ _ (h.setA hj)
  · rw [if_neg q]
    exact sm_none
theorem cv_size {f : Int32 → bh_S → Option (α × bh_S)} (h : cv_R w nf nl mb z1 n1 σ0 lp np σ Z) (hj : j < 3) (hd : cv_lc j = d) (kk : sm G (f (Z d 0) σ) go) : sm G (bh_bnd (f_Jx4a65c_size_8abf5 (w 0 j) σ) f) go := by
  subst hd
  obtain ⟨ea, hO, hV, hC, hA, hS, -⟩ := h
  obtain ⟨g1, g2, -⟩ := hS.2.2 j hj
  unfold f_Jx4a65c_size_8abf5 bh_rdI
  rw [if_pos g1.1, g2.1]
  exact kk
theorem cv_empty {f : Int32 → bh_S → Option (α × bh_S)} (h : cv_R w nf nl mb z1 n1 σ0 lp np σ Z) (hj : j < 3) (hd : cv_lc j = d) (kk : sm G (f (if Z d 0 = 0 then 1 else 0) σ) go) : sm G (bh_bnd (f_Jx4a65c_isEmpty_aae02 (w 0 j) σ) f) go := by
  subst hd
  obtain ⟨ea, hO, hV, hC, hA, hS, -⟩ := h
  obtain ⟨g1, g2, -⟩ := hS.2.2 j hj
  unfold f_Jx4a65c_isEmpty_aae02 bh_rdI
  rw [if_pos g1.1, g2.1]
  show sm G (bh_bnd (if Z (cv_lc j) 0 = 0 then bh_retZ σ 1 else bh_retZ σ 0) f) go
  by_cases e : Z (cv_lc j) 0 = 0
  · rw [if_pos e] at kk ⊢
    exact kk
  · rw [if_neg e] at kk ⊢
    exact kk
theorem cv_getv {x : Int32} {v : Option Nat} {i s : Nat} {l e : Nat} (h0 : bh_K σ l = 0) (h1 : bh_I σ 0 l 2 = Int32.ofNat s) (h2 : bh_R σ 0 l 1 = some e) (h3 : bh_K σ e = 16) (h4 : s ≤ bh_L σ e) (hs : s < 2147483648) (hx : ¬ x < 0) (hlt : x < Int32.ofNat s) (hi : x.toNatClampNeg = i) (hv : bh_R σ 16 e i = v) : f_Jx4a65c_get_915e3 l x σ = some (v, σ) := by
  have hi2 : i < s := by
    rw [Int32.lt_iff_toInt_lt, Int32.toInt_ofNat_of_lt (by omega)] at hlt
    have hx2 : ¬ x.toInt < 0 := by rw [Int32.lt_iff_toInt_lt] at hx; exact hx
    have : x.toInt.toNat = i := hi
    omega
  have e1 : f_J15_checkIndex_7cf53 x (Int32.ofNat s) σ = some (x, σ) := by
    unfold f_J15_checkIndex_7cf53 f_J3_checkIndex_8e157
    rw [if_neg hx, if_pos hlt]
    rfl
  have e2 : f_Jx4a65c_elementData_915e3 l x σ = some (v, σ) := by
    unfold f_Jx4a65c_elementData_915e3 bh_rdR
    rw [if_pos h0, h2]
    show (bh_ldR σ 16 e x).bind _ = _
    unfold bh_ldR
    have hq : ¬ (x < 0 ∨ bh_L σ e ≤ x.toNatClampNeg) := by
      rintro (q | q)
      · exact hx q
      · omega
    rw [if_pos ⟨h3, hq⟩, hi, hv]
    rfl
  unfold f_Jx4a65c_get_915e3 bh_rdI
  rw [if_pos h0, h1]
  show bh_bnd (f_J15_checkIndex_7cf53 x (Int32.ofNat s) σ) _ = _
  rw [e1]
  show (bh_ck σ l 0).bind _ = _
  unfold bh_ck
  rw [if_pos h0]
  show bh_bnd (f_Jx4a65c_elementData_915e3 l x σ) _ = _
  rw [e2]
  rfl
theorem cv_get {f : Option Nat → bh_S → Option (α × bh_S)} {g : Nat → Option (β × xs_S)} {x : Int32} (h : cv_R w nf nl mb z1 n1 σ0 lp np σ Z) (hj : j < 3) (hd : cv_lc j = d) (kk : ∀ i, i < cv_n nf nl np j → sm G (f (some (cv_el w lp j i)) σ) (g i)) : sm G (bh_bnd (f_Jx4a65c_get_915e3 (w 0 j) x σ) f) ((xs_gt Z d x).bind g) := by
  subst hd
  obtain ⟨ea, hO, hV, hC, hA, hS, -⟩ := h
  obtain ⟨g1, g2, g3, g4, g5, g6, g7, g8⟩ := hS.2.2 j hj
  have hb : cv_n nf nl np j ≤ 3100 := by
    have := hS.1
    unfold cv_n
    split <;> omega
  unfold xs_gt
  by_cases q : x < 0
  · rw [if_pos q]
    exact sm_none
  · rw [if_neg q]
    by_cases q2 : x < Z (cv_lc j) 0
    · rw [if_pos q2]
      have q3 : x < Int32.ofNat (cv_n nf nl np j) := by rw [← g2.2]; exact q2
      have hi2 : x.toNatClampNeg < cv_n nf nl np j := by
        have q4 := q3
        rw [Int32.lt_iff_toInt_lt, Int32.toInt_ofNat_of_lt (by omega)] at q4
        have hx2 : ¬ x.toInt < 0 := by rw [Int32.lt_iff_toInt_lt] at q; exact q
        show x.toInt.toNat < _
        omega
      rw [cv_getv g1.1 (g2.1.trans g2.2) g3 g4 g6 (by omega) q q3 rfl (g7 _ hi2)]
      exact kk _ hi2
    · rw [if_neg q2]
      exact sm_none
theorem cv_get0 {f : Option Nat → bh_S → Option (α × bh_S)} {g : Nat → Option (β × xs_S)} {x : Int32} (h : cv_R w nf nl mb z1 n1 σ0 lp np σ Z) (kk : ∀ i, i < cv_cn nf nl 7 → sm G (f (some (w 7 i)) σ) (g i)) : sm G (bh_bnd (f_Jx4a65c_get_915e3 (w 0 0) x σ) f) ((xs_gt Z 7 x).bind g) :=
  cv_get (j := 0) h (by decide) rfl kk
theorem cv_get1 {f : Option Nat → bh_S → Option (α × bh_S)} {g : Nat → Option (β × xs_S)} {x : Int32} (h : cv_R w nf nl mb z1 n1 σ0 lp np σ Z) (kk : ∀ i, i < cv_cn nf nl 4 → sm G (f (some (w 4 i)) σ) (g i)) : sm G (bh_bnd (f_Jx4a65c_get_915e3 (w 0 1) x σ) f) ((xs_gt Z 8 x).bind g) :=
  cv_get (j := 1) h (by decide) rfl kk
theorem cv_get2 {f : Option Nat → bh_S → Option (α × bh_S)} {g : Nat → Option (β × xs_S)} {x : Int32} (h : cv_R w nf nl mb z1 n1 σ0 lp np σ Z) (kk : ∀ i, i < np → sm G (f (some (lp i)) σ) (g i)) : sm G (bh_bnd (f_Jx4a65c_get_915e3 (w 0 2) x σ) f) ((xs_gt Z 44 x).bind g) :=
  cv_get (j := 2) h (by decide) rfl kk
end CVR
