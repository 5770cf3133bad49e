/-! ===== second level: a plain memory (place, index) for the reference; the flat memory follows it ===== -/
abbrev xs_S : Type := Nat → Nat → Int32
def xs_up (X : xs_S) (k i : Nat) (v : Int32) : xs_S := fun k' i' => if k' = k ∧ i' = i then v else X k' i'
def xs_lt {α β : Type} (a : α) (f : α → β) : β := f a
def xs_ld (n : Nat) (X : xs_S) (k : Nat) (i : Int32) : Option Int32 := if ¬ (i < 0 ∨ n ≤ i.toNatClampNeg) then some (X k i.toNatClampNeg) else none
def xs_st (n : Nat) (X : xs_S) (k : Nat) (i v : Int32) : Option xs_S := if ¬ (i < 0 ∨ n ≤ i.toNatClampNeg) then some (xs_up X k i.toNatClampNeg v) else none
def xs_stZ (n : Nat) (X : xs_S) (k : Nat) (i v : Int32) : Option xs_S := if ¬ (i < 0 ∨ n ≤ i.toNatClampNeg) ∧ (v = 0 ∨ v = 1) then some (xs_up X k i.toNatClampNeg v) else none
def xs_wrZ (X : xs_S) (k : Nat) (v : Int32) : Option xs_S := if v = 0 ∨ v = 1 then some (xs_up X k 0 v) else none
def xs_retZ (X : xs_S) (v : Int32) : Option (Int32 × xs_S) := if v = 0 ∨ v = 1 then some (v, X) else none
def xs_bnd {α β : Type} (o : Option (α × xs_S)) (f : α → xs_S → Option β) : Option β := match o with
  | some (a, s) => f a s
  | none => none
def sm {α β : Type} (G : α → bh_S → β → xs_S → Prop) (fo : Option (α × bh_S)) (go : Option (β × xs_S)) : Prop := ∀ (b : β) (X' : xs_S), go = some (b, X') → ∃ (a : α) (σ' : bh_S), fo = some (a, σ') ∧ G a σ' b X'
section SM
variable {α β γ δ : Type} {G : α → bh_S → β → xs_S → Prop} {fo : Option (α × bh_S)} {go : Option (β × xs_S)}
theorem sm_none : sm G fo none := fun _ _ h => by cases h
theorem sm_ret {a : α} {σ : bh_S} {b : β} {X : xs_S} (h : G a σ b X) : sm G (some (a, σ)) (some (b, X)) := fun b' X' e => by cases e; exact ⟨a, σ, rfl, h⟩
theorem sm_ite {q : Prop} [Decidable q] {A B : Option (α × bh_S)} {A' B' : Option (β × xs_S)} (ht : q → sm G A A') (hf : ¬ q → sm G B B') : sm G (if q then A else B) (if q then A' else B') := by
  by_cases h : q
  · rw [if_pos h, if_pos h]; exact ht h
  · rw [if_neg h, if_neg h]; exact hf h
theorem sm_nn {a : Nat} {f : Nat → Option (α × bh_S)} (k : sm G (f a) go) : sm G ((some a).bind f) go := k
theorem sm_op {o : Option γ} {f : γ → Option (α × bh_S)} {g : γ → Option (β × xs_S)} (k : ∀ v, o = some v → sm G (f v) (g v)) : sm G (o.bind f) (o.bind g) := by
  cases o with
  | none => exact sm_none
  | some v => exact k v rfl
theorem sm_call {Gc : γ → bh_S → δ → xs_S → Prop} {f1 : Option (γ × bh_S)} {g1 : Option (δ × xs_S)} {f : γ → bh_S → Option (α × bh_S)} {g : δ → xs_S → Option (β × xs_S)} (hc : sm Gc f1 g1) (k : ∀ (a : γ) (σ1 : bh_S) (b : δ) (X1 : xs_S), Gc a σ1 b X1 → sm G (f a σ1) (g b X1)) : sm G (bh_bnd f1 f) (xs_bnd g1 g) := by
  cases g1 with
  | none => exact sm_none
  | some q =>
    obtain ⟨b, X1⟩ := q
    obtain ⟨a, σ1, e, h⟩ := hc b X1 rfl
    rw [e]
    exact k a σ1 b X1 h
end SM
theorem sm_retZ {G : Int32 → bh_S → Int32 → xs_S → Prop} {σ : bh_S} {X : xs_S} {v : Int32} (h : G v σ v X) : sm G (bh_retZ σ v) (xs_retZ X v) := by
  intro b X' e
  unfold xs_retZ at e
  split at e
  · rename_i h9
    cases e
    exact ⟨v, σ, if_pos h9, h⟩
  · cases e
def mo_ln (k : Nat) : Nat := match k with
  | 0 => 7
  | 1 => 6
  | 2 => 6
  | 3 => 100
  | 4 => 10
  | 5 => 10
  | 31 => 4
  | 32 => 4
  | 41 => 3100
  | 42 => 3100
  | 43 => 3100
  | 45 => 8
  | 46 => 8
  | 47 => 257
  | k => if 18 ≤ k ∧ k ≤ 30 then 16 else if 33 ≤ k ∧ k ≤ 40 then 8 else 0
def mo_kd (k : Nat) : Nat := if k = 28 ∨ k = 29 ∨ k = 30 then 13 else 12
/-- the reference at m, its rows at rr, all from mb on: it holds X -/
def mo_R (m : Nat) (rr : Nat → Nat) (mb : Nat) (σ : bh_S) (X : xs_S) : Prop :=
  (bh_K σ m = 11 ∧ m < bh_z σ) ∧
  (∀ k, bh_isR 11 k = true → bh_R σ 11 m k = some (rr k) ∧ bh_K σ (rr k) = mo_kd k ∧ bh_L σ (rr k) = mo_ln k ∧ mb ≤ rr k ∧ rr k < bh_z σ ∧ ∀ i, bh_I σ (mo_kd k) (rr k) i = X k i) ∧
  (∀ k k', bh_isR 11 k = true → bh_isR 11 k' = true → rr k = rr k' → k = k') ∧
  (∀ k, k < 49 → bh_isR 11 k = false → bh_I σ 11 m k = X k 0)
/-- what the reference's methods leave as it was -/
def mo_F (mb : Nat) (σ0 σ : bh_S) : Prop := bh_K σ = bh_K σ0 ∧ bh_R σ = bh_R σ0 ∧ bh_L σ = bh_L σ0 ∧ bh_z σ = bh_z σ0 ∧ bh_n σ = bh_n σ0 ∧ bh_e σ = bh_e σ0 ∧ ∀ c a k, c ≠ 11 → c ≠ 13 → (c = 12 → a < mb) → bh_I σ c a k = bh_I σ0 c a k
def mo_G (m : Nat) (rr : Nat → Nat) (mb : Nat) (σ0 : bh_S) {α : Type} : α → bh_S → α → xs_S → Prop := fun a σ' b X' => a = b ∧ mo_R m rr mb σ' X' ∧ mo_F mb σ0 σ'
section MO
variable {α β : Type} {G : α → bh_S → β → xs_S → Prop} {go : Option (β × xs_S)} {m mb : Nat} {rr : Nat → Nat} {σ σ0 : bh_S} {X : xs_S} {k n : Nat}
theorem mo_F.rf : mo_F mb σ0 σ0 := ⟨rfl, rfl, rfl, rfl, rfl, rfl, fun _ _ _ _ _ _ => rfl⟩
theorem mo_ck {f : Unit → Option (α × bh_S)} (h : mo_R m rr mb σ X) (k : sm G (f ()) go) : sm G ((bh_ck σ m 11).bind f) go := by
  unfold bh_ck
  rw [if_pos h.1.1]
  exact k
theorem mo_rdI {f : Int32 → Option (α × bh_S)} (h : mo_R m rr mb σ X) (hk : (decide (k < 49) && !bh_isR 11 k) = true) (kk : sm G (f (X k 0)) go) : sm G ((bh_rdI σ 11 m k).bind f) go := by
  simp only [Bool.and_eq_true, decide_eq_true_eq, Bool.not_eq_true'] at hk
  unfold bh_rdI
  rw [if_pos h.1.1, h.2.2.2 k hk.1 hk.2]
  exact kk
theorem mo_rdR {f : Option Nat → Option (α × bh_S)} (h : mo_R m rr mb σ X) (hk : bh_isR 11 k = true) (kk : sm G (f (some (rr k))) go) : sm G ((bh_rdR σ 11 m k).bind f) go := by
  unfold bh_rdR
  rw [if_pos h.1.1, (h.2.1 k hk).1]
  exact kk
theorem mo_ld0 {i : Int32} {c : Nat} (h : mo_R m rr mb σ X) (hk : bh_isR 11 k = true) (hc : mo_kd k = c) (hn : mo_ln k = n) : bh_ldI σ c (rr k) i = xs_ld n X k i := by
  obtain ⟨-, h2, h3, -, -, h4⟩ := h.2.1 k hk
  unfold bh_ldI xs_ld
  rw [h3, hn]
  subst hc
  by_cases q : ¬ (i < 0 ∨ n ≤ i.toNatClampNeg)
  · rw [if_pos ⟨h2, q⟩, if_pos q, h4]
  · rw [if_neg (fun z => q z.2), if_neg q]
theorem mo_ldI {f : Int32 → Option (α × bh_S)} {g : Int32 → Option (β × xs_S)} {i : Int32} (h : mo_R m rr mb σ X) (hk : bh_isR 11 k = true) (hc : mo_kd k = 12) (hn : mo_ln k = n) (kk : ∀ v, xs_ld n X k i = some v → sm G (f v) (g v)) : sm G ((bh_ldI σ 12 (rr k) i).bind f) ((xs_ld n X k i).bind g) := by
  rw [mo_ld0 h hk hc hn]
  exact sm_op kk
theorem mo_ldZ {f : Int32 → Option (α × bh_S)} {g : Int32 → Option (β × xs_S)} {i : Int32} (h : mo_R m rr mb σ X) (hk : bh_isR 11 k = true) (hc : mo_kd k = 13) (hn : mo_ln k = n) (kk : ∀ v, xs_ld n X k i = some v → sm G (f v) (g v)) : sm G ((bh_ldI σ 13 (rr k) i).bind f) ((xs_ld n X k i).bind g) := by
  rw [mo_ld0 h hk hc hn]
  exact sm_op kk
theorem mo_R.setA {i : Nat} {v : Int32} (h : mo_R m rr mb σ X) (hk : bh_isR 11 k = true) : mo_R m rr mb (bh_setI σ (mo_kd k) (rr k) i v) (xs_up X k i v) := by
  obtain ⟨h1, h2, h3, h4⟩ := h
  refine ⟨h1, fun k' hk' => ?_, h3, fun k' h49 hk' => ?_⟩
  · obtain ⟨g1, g2, g3, g4, g5, g6⟩ := h2 k' hk'
    refine ⟨g1, g2, g3, g4, g5, fun j => ?_⟩
    show (if mo_kd k' = mo_kd k ∧ rr k' = rr k ∧ j = i then v else bh_I σ (mo_kd k') (rr k') j) = if k' = k ∧ j = i then v else X k' j
    by_cases e : k' = k
    · subst e
      by_cases e2 : j = i
      · rw [if_pos ⟨rfl, rfl, e2⟩, if_pos ⟨rfl, e2⟩]
      · rw [if_neg (fun z => e2 z.2.2), if_neg (fun z => e2 z.2), g6]
    · rw [if_neg (fun z => e (h3 k' k hk' hk z.2.1)), if_neg (fun z => e z.1), g6]
  · show (if 11 = mo_kd k ∧ m = rr k ∧ k' = i then v else bh_I σ 11 m k') = if k' = k ∧ 0 = i then v else X k' 0
    have e1 : ¬ 11 = mo_kd k := by unfold mo_kd; split <;> decide
    have e2 : ¬ k' = k := fun e => by subst e; rw [hk] at hk'; cases hk'
    rw [if_neg (fun z => e1 z.1), if_neg (fun z => e2 z.1)]
    exact h4 k' h49 hk'
theorem mo_R.setF {v : Int32} (h : mo_R m rr mb σ X) (hk : bh_isR 11 k = false) : mo_R m rr mb (bh_setI σ 11 m k v) (xs_up X k 0 v) := by
  obtain ⟨h1, h2, h3, h4⟩ := h
  refine ⟨h1, fun k' hk' => ?_, h3, fun k' h49 hk' => ?_⟩
  · obtain ⟨g1, g2, g3, g4, g5, g6⟩ := h2 k' hk'
    refine ⟨g1, g2, g3, g4, g5, fun j => ?_⟩
    show (if mo_kd k' = 11 ∧ rr k' = m ∧ j = k then v else bh_I σ (mo_kd k') (rr k') j) = if k' = k ∧ j = 0 then v else X k' j
    have e1 : ¬ mo_kd k' = 11 := by unfold mo_kd; split <;> decide
    have e2 : ¬ k' = k := fun e => by subst e; rw [hk] at hk'; cases hk'
    rw [if_neg (fun z => e1 z.1), if_neg (fun z => e2 z.1), g6]
  · show (if 11 = 11 ∧ m = m ∧ k' = k then v else bh_I σ 11 m k') = if k' = k ∧ 0 = 0 then v else X k' 0
    by_cases e : k' = k
    · rw [if_pos ⟨rfl, rfl, e⟩, if_pos ⟨e, rfl⟩]
    · rw [if_neg (fun z => e z.2.2), if_neg (fun z => e z.1)]
      exact h4 k' h49 hk'
theorem mo_F.setA {i : Nat} {v : Int32} (hF : mo_F mb σ0 σ) (h : mo_R m rr mb σ X) (hk : bh_isR 11 k = true) : mo_F mb σ0 (bh_setI σ (mo_kd k) (rr k) i v) := by
  obtain ⟨g1, g2, g3, g4, g5, g6, g7⟩ := hF
  refine ⟨g1, g2, g3, g4, g5, g6, fun c a k' n1 n2 n3 => ?_⟩
  show (if c = mo_kd k ∧ a = rr k ∧ k' = i then v else bh_I σ c a k') = _
  have hmb := (h.2.1 k hk).2.2.2.1
  rw [if_neg, g7 c a k' n1 n2 n3]
  rintro ⟨e1, e2, -⟩
  unfold mo_kd at e1
  split at e1
  · exact n2 e1
  · have := n3 e1
    omega
theorem mo_F.setF {v : Int32} (hF : mo_F mb σ0 σ) : mo_F mb σ0 (bh_setI σ 11 m k v) := by
  obtain ⟨g1, g2, g3, g4, g5, g6, g7⟩ := hF
  refine ⟨g1, g2, g3, g4, g5, g6, fun c a k' n1 n2 n3 => ?_⟩
  show (if c = 11 ∧ a = m ∧ k' = k then v else bh_I σ c a k') = _
  rw [if_neg (fun z => n1 z.1), g7 c a k' n1 n2 n3]
theorem mo_stI {f : bh_S → Option (α × bh_S)} {g : xs_S → Option (β × xs_S)} {i v : Int32} (h : mo_R m rr mb σ X) (hF : mo_F mb σ0 σ) (hk : bh_isR 11 k = true) (hc : mo_kd k = 12) (hn : mo_ln k = n) (kk : ∀ (σ1 : bh_S) (X1 : xs_S), xs_st n X k i v = some X1 → mo_R m rr mb σ1 X1 → mo_F mb σ0 σ1 → sm G (f σ1) (g X1)) : sm G ((bh_stI σ 12 (rr k) i v).bind f) ((xs_st n X k i v).bind g) := by
  obtain ⟨-, h2, h3, -⟩ := h.2.1 k hk
  by_cases q : ¬ (i < 0 ∨ n ≤ i.toNatClampNeg)
  · have e1 : bh_stI σ 12 (rr k) i v = some (bh_setI σ 12 (rr k) i.toNatClampNeg v) := by
      unfold bh_stI
      rw [h3, hn, if_pos ⟨h2.trans hc, q⟩]
    have e2 : xs_st n X k i v = some (xs_up X k i.toNatClampNeg v) := by
      unfold xs_st
      rw [if_pos q]
    rw [e1, e2]
    refine kk _ _ e2 ?_ ?_
    · have := h.setA (i := i.toNatClampNeg) (v := v) hk
      rw [hc] at this
      exact this
    · have := hF.setA (i := i.toNatClampNeg) (v := v) h hk
      rw [hc] at this
      exact this
  · have e2 : xs_st n X k i v = none := by
      unfold xs_st
      rw [if_neg q]
    rw [e2]
    exact sm_none
theorem mo_stZ {f : bh_S → Option (α × bh_S)} {g : xs_S → Option (β × xs_S)} {i v : Int32} (h : mo_R m rr mb σ X) (hF : mo_F mb σ0 σ) (hk : bh_isR 11 k = true) (hc : mo_kd k = 13) (hn : mo_ln k = n) (kk : ∀ (σ1 : bh_S) (X1 : xs_S), xs_stZ n X k i v = some X1 → mo_R m rr mb σ1 X1 → mo_F mb σ0 σ1 → sm G (f σ1) (g X1)) : sm G ((bh_stZ σ 13 (rr k) i v).bind f) ((xs_stZ n X k i v).bind g) := by
  obtain ⟨-, h2, h3, -⟩ := h.2.1 k hk
  by_cases q : ¬ (i < 0 ∨ n ≤ i.toNatClampNeg) ∧ (v = 0 ∨ v = 1)
  · have e1 : bh_stZ σ 13 (rr k) i v = some (bh_setI σ 13 (rr k) i.toNatClampNeg v) := by
      unfold bh_stZ
      rw [h3, hn, if_pos ⟨h2.trans hc, q⟩]
    have e2 : xs_stZ n X k i v = some (xs_up X k i.toNatClampNeg v) := by
      unfold xs_stZ
      rw [if_pos q]
    rw [e1, e2]
    refine kk _ _ e2 ?_ ?_
    · have := h.setA (i := i.toNatClampNeg) (v := v) hk
      rw [hc] at this
      exact this
    · have := hF.setA (i := i.toNatClampNeg) (v := v) h hk
      rw [hc] at this
      exact this
  · have e2 : xs_stZ n X k i v = none := by
      unfold xs_stZ
      rw [if_neg q]
    rw [e2]
    exact sm_none
theorem mo_wrI {f : bh_S → Option (α × bh_S)} {g : xs_S → Option (β × xs_S)} {v : Int32} (h : mo_R m rr mb σ X) (hF : mo_F mb σ0 σ) (hk : bh_isR 11 k = false) (kk : ∀ (σ1 : bh_S) (X1 : xs_S), X1 = xs_up X k 0 v → mo_R m rr mb σ1 X1 → mo_F mb σ0 σ1 → sm G (f σ1) (g X1)) : sm G ((bh_wrI σ 11 m k v).bind f) (xs_lt (xs_up X k 0 v) g) := by
  unfold bh_wrI
  rw [if_pos h.1.1]
  exact kk _ _ rfl (h.setF hk) hF.setF
theorem mo_wrZ {f : bh_S → Option (α × bh_S)} {g : xs_S → Option (β × xs_S)} {v : Int32} (h : mo_R m rr mb σ X) (hF : mo_F mb σ0 σ) (hk : bh_isR 11 k = false) (kk : ∀ (σ1 : bh_S) (X1 : xs_S), xs_wrZ X k v = some X1 → mo_R m rr mb σ1 X1 → mo_F mb σ0 σ1 → sm G (f σ1) (g X1)) : sm G ((bh_wrZ σ 11 m k v).bind f) ((xs_wrZ X k v).bind g) := by
  unfold bh_wrZ
  by_cases q : v = 0 ∨ v = 1
  · have e : xs_wrZ X k v = some (xs_up X k 0 v) := by unfold xs_wrZ; rw [if_pos q]
    rw [if_pos ⟨h.1.1, q⟩, e]
    exact kk _ _ e (h.setF hk) hF.setF
  · have e : xs_wrZ X k v = none := by unfold xs_wrZ; rw [if_neg q]
    rw [e]
    exact sm_none
end MO
