/-! ===== one more in a list: the relation ===== -/
/-- σb: a new cell of kind t at the end of σ, N slots, whatever it holds -/
def cv_nw (σ σb : bh_S) (t N : Nat) : Prop := bh_z σb = bh_z σ + 1 ∧ bh_n σb = bh_n σ + N ∧ bh_e σb = bh_e σ ∧ bh_K σb (bh_z σ) = t ∧ (∀ x, x < bh_z σ → bh_K σb x = bh_K σ x ∧ bh_L σb x = bh_L σ x) ∧ (∀ c x k, ¬ (c = t ∧ x = bh_z σ) → bh_I σb c x k = bh_I σ c x k) ∧ (∀ c x k, ¬ (c = t ∧ x = bh_z σ) → bh_R σb c x k = bh_R σ c x k)
theorem cv_nw.new {σ : bh_S} {t N : Nat} : cv_nw σ (bh_new σ t N 0) t N := by
  refine ⟨rfl, rfl, rfl, if_pos rfl, fun x hx => ⟨if_neg (by omega), if_neg (by omega)⟩, fun c x k hn => if_neg hn, fun c x k hn => if_neg hn⟩
theorem cv_nw.setI {σ σb : bh_S} {t N k : Nat} {v : Int32} (h : cv_nw σ σb t N) : cv_nw σ (bh_setI σb t (bh_z σ) k v) t N := by
  obtain ⟨h1, h2, h3, h4, h5, h6, h7⟩ := h
  refine ⟨h1, h2, h3, h4, h5, fun c x k' hn => ?_, h7⟩
  show (if c = t ∧ x = bh_z σ ∧ k' = k then v else bh_I σb c x k') = _
  rw [if_neg (fun z => hn ⟨z.1, z.2.1⟩)]
  exact h6 c x k' hn
theorem cv_nw.setR {σ σb : bh_S} {t N k : Nat} {v : Option Nat} (h : cv_nw σ σb t N) : cv_nw σ (bh_setR σb t (bh_z σ) k v) t N := by
  obtain ⟨h1, h2, h3, h4, h5, h6, h7⟩ := h
  refine ⟨h1, h2, h3, h4, h5, h6, fun c x k' hn => ?_⟩
  show (if c = t ∧ x = bh_z σ ∧ k' = k then v else bh_R σb c x k') = _
  rw [if_neg (fun z => hn ⟨z.1, z.2.1⟩)]
  exact h7 c x k' hn
/-- σc: after the add into the list at l -/
def cv_ad (σ σb σc : bh_S) (l e e' s C C' t N : Nat) : Prop :=
  (e' = e ∧ C' = C ∧ s < C ∧ bh_z σc = bh_z σ + 1 ∧ bh_n σc = bh_n σ + N ∨ e' = bh_z σ + 1 ∧ s = C ∧ C' ≤ C + C / 2 + 10 ∧ C < C' ∧ 4 * C ≤ 3 * C' ∧ bh_z σc = bh_z σ + 2 ∧ bh_n σc = bh_n σ + N + C') ∧
  (∀ x, x < bh_z σ → bh_K σc x = bh_K σ x ∧ bh_L σc x = bh_L σ x) ∧ bh_K σc (bh_z σ) = t ∧ bh_K σc e' = 16 ∧ bh_L σc e' = C' ∧ bh_e σc = bh_e σ ∧
  (∀ c x k, c ≠ 16 → ¬ (c = 0 ∧ x = l) → ¬ (c = t ∧ x = bh_z σ) → bh_I σc c x k = bh_I σ c x k) ∧ bh_I σc 0 l 2 = Int32.ofNat (s + 1) ∧
  (∀ c x k, c ≠ 16 → ¬ (c = 0 ∧ x = l ∧ k = 1) → ¬ (c = t ∧ x = bh_z σ) → bh_R σc c x k = bh_R σ c x k) ∧ bh_R σc 0 l 1 = some e' ∧ (∀ x k, x < bh_z σ → x ≠ e' → bh_R σc 16 x k = bh_R σ 16 x k) ∧ (∀ i, i < s → bh_R σc 16 e' i = bh_R σ 16 e i) ∧ bh_R σc 16 e' s = some (bh_z σ) ∧ (∀ k, bh_I σc t (bh_z σ) k = bh_I σb t (bh_z σ) k) ∧ (∀ k, bh_R σc t (bh_z σ) k = bh_R σb t (bh_z σ) k)
theorem cv_add {w : Nat → Nat → Nat} {nf nl np : Nat} {lp ea : Nat → Nat} {σ σb : bh_S} {Z : xs_S} {z1 n1 j t N : Nat} (hS : cv_S w nf nl lp np ea σ Z) (hQ : cv_Q z1 n1 ea σ Z) (hj : j < 3) (hn : cv_nw σ σb t N) (ht : t = 3 ∨ t = 4 ∨ t = 7) (hy : ∀ i, i < cv_n nf nl np j → bh_K σ (cv_el w lp j i) < 12 ∧ cv_el w lp j i < bh_z σ) : ∃ σc e' C', f_Jx4a65c_add_9ea2d (w 0 j) (bh_z σ) σb = some (1, σc) ∧ cv_ad σ σb σc (w 0 j) (ea j) e' (cv_n nf nl np j) (bh_L σ (ea j)) C' t N := by
  obtain ⟨g1, g2, g3, g4, g5, g6, g7, g8, g9⟩ := hS.2.2 j hj
  obtain ⟨b1, b2, b3, b4, b5, b6, b7⟩ := hn
  have hC5 : bh_L σ (ea j) ≤ 5000 := by
    obtain ⟨-, -, q1, q2, q3⟩ := hQ
    match j, hj with
    | 0, _ => omega
    | 1, _ => omega
    | 2, _ => exact q1
  have t0 : t ≠ 0 := by omega
  have t16 : t ≠ 16 := by omega
  obtain ⟨σc, e', C', r1, r2, r3, r4, r5, r6, r7, r8, r9, r10, r11, r12, r13⟩ := li_add (σ := σb) (l := w 0 j) (e := ea j) (a := bh_z σ) (s := cv_n nf nl np j) (C := bh_L σ (ea j)) (by rw [(b5 _ g1.2.1).1]; exact g1.1) (by rw [b6 _ _ _ (fun z => by omega)]; exact g2.1.trans g2.2) (by rw [b7 _ _ _ (fun z => by omega)]; exact g3) (by rw [(b5 _ g5).1]; exact g4) (b5 _ g5).2 g6 hC5 (by rw [b3]; exact g8) (by omega) (by omega) (fun i hi => ⟨_, by rw [b7 _ _ _ (fun z => by omega)]; exact g7 i hi, by rw [(b5 _ (hy i hi).2).1]; exact (hy i hi).1, by have := (hy i hi).2; omega⟩) (by rw [b4]; omega) (by omega)
  rw [b1] at r2 r3 r11
  rw [b2] at r2
  refine ⟨σc, e', C', r1, ?_, fun x hx => ?_, ?_, r4, r5, r6.trans b3, ?_, r8, ?_, r10, ?_, ?_, r13, ?_, ?_⟩
  · rcases r2 with ⟨q1, q2, q3, q4, q5⟩ | ⟨q1, q2, q3, q4, q5, q6, q7⟩
    · exact Or.inl ⟨q1, q2, q3, q4, q5⟩
    · exact Or.inr ⟨q1, q2, q3, q4, q5, q6, q7⟩
  · have := r3 x (by omega)
    have := b5 x hx
    exact ⟨by omega, by omega⟩
  · rw [(r3 (bh_z σ) (by omega)).1]
    exact b4
  · intro c x k q1 q2 q3
    rw [r7 c x k q1 q2, b6 c x k q3]
  · intro c x k q1 q2 q3
    rw [r9 c x k q1 q2, b7 c x k q3]
  · intro x k q1 q2
    rw [r11 x k (by omega) q2, b7 16 x k (fun z => by omega)]
  · intro i hi
    rw [r12 i hi, b7 16 (ea j) i (fun z => by omega)]
  · intro k
    exact r7 t (bh_z σ) k t16 (fun z => t0 z.1)
  · intro k
    exact r9 t (bh_z σ) k t16 (fun z => t0 z.1)
/-- what goes on unchanged, and the lists, the room -/
theorem cv_ext {w w' : Nat → Nat → Nat} {nf nl np nf' nl' np' : Nat} {lp lp' ea : Nat → Nat} {σ0 σ σb σc : bh_S} {Z Z' : xs_S} {mb z1 n1 j t N e' C' : Nat} (hO : cv_O w nf nl σ Z) (hC : cv_C w σ) (hA : cv_A w mb σ Z) (hS : cv_S w nf nl lp np ea σ Z) (hQ : cv_Q z1 n1 ea σ Z) (hF : cv_F mb σ0 σ) (hj : j < 3) (ht : t = 3 ∨ t = 4 ∨ t = 7) (hN : N ≤ 14)
    (ha : cv_ad σ σb σc (w 0 j) (ea j) e' (cv_n nf nl np j) (bh_L σ (ea j)) C' t N)
    (hw : ∀ c i, c ≠ t → w' c i = w c i) (hb : nf' ≤ 16 ∧ nl' ≤ 8 ∧ np' ≤ 3100) (hb2 : cv_n nf nl np j < 3100 ∧ (j ≠ 2 → cv_n nf nl np j < 16))
    (hn1 : cv_n nf' nl' np' j = cv_n nf nl np j + 1) (hn2 : ∀ j', j' < 3 → j' ≠ j → cv_n nf' nl' np' j' = cv_n nf nl np j')
    (he1 : ∀ j' i, j' < 3 → i < cv_n nf nl np j' → cv_el w' lp' j' i = cv_el w lp j' i) (he2 : cv_el w' lp' j (cv_n nf nl np j) = bh_z σ)
    (hZA : ∀ j, j < 16 → ∀ i, Z' (cv_ac j) i = Z (cv_ac j) i) (hZ1 : Z' (cv_lc j) 0 = Int32.ofNat (cv_n nf nl np j + 1)) (hZ2 : ∀ j', j' < 3 → j' ≠ j → Z' (cv_lc j') 0 = Z (cv_lc j') 0) (hZ3 : (Z' 90 0).toNatClampNeg = (Z 90 0).toNatClampNeg + 1) :
    cv_C w' σc ∧ cv_A w' mb σc Z' ∧ cv_S w' nf' nl' lp' np' (fun x => if x = j then e' else ea x) σc Z' ∧ cv_Q z1 n1 (fun x => if x = j then e' else ea x) σc Z' ∧ cv_F mb σ0 σc := by
  obtain ⟨a1, a2, a3, a4, a5, a6, a7, a8, a9, a10, a11, a12, a13, a14, a15⟩ := ha
  have hz' : bh_z σ < bh_z σc := by rcases a1 with ⟨_, _, _, q, _⟩ | ⟨_, _, _, _, _, q, _⟩ <;> omega
  have he'z : e' < bh_z σc := by
    have := (hS.2.2 j hj).2.2.2.2.1
    rcases a1 with ⟨_, _, _, q, _⟩ | ⟨_, _, _, _, _, q, _⟩ <;> omega
  have hee : ∀ j', j' < 3 → j' ≠ j → ea j' ≠ e' := by
    intro j' hj' hne e
    have q5 := (hS.2.2 j' hj').2.2.2.2.1
    rcases a1 with ⟨q1, _, q3, _, _⟩ | ⟨q1, _, _, _, _, _, _⟩
    · exact hne ((hS.2.2 j hj).2.2.2.2.2.2.2.2 (by omega) j' hj' (e.trans q1))
    · omega
  have t12 : t ≠ 12 := by omega
  have t11 : t ≠ 11 ∧ t ≠ 13 := by omega
  refine ⟨?_, ?_, ?_, ?_, ?_⟩
  · obtain ⟨q1, q2, q3, q4⟩ := hC
    have hR : ∀ c x k, c ≠ 16 → c ≠ 0 → c ≠ t → bh_R σc c x k = bh_R σ c x k := fun c x k n1 n2 n3 => a9 c x k n1 (fun z => n2 z.1) (fun z => n3 z.1)
    have n14 : 14 ≠ t ∧ 15 ≠ t ∧ 17 ≠ t ∧ 1 ≠ t ∧ 2 ≠ t ∧ 12 ≠ t := by omega
    refine ⟨fun c k tt jj h' => ?_, ?_, ?_, ?_⟩
    · have hc : c ≠ 16 ∧ c ≠ 0 ∧ c ≠ t ∧ tt ≠ t := by
        have hc0 : (c = 6 ∨ c = 8 ∨ c = 9 ∨ c = 10) ∧ tt ≠ 3 ∧ tt ≠ 4 ∧ tt ≠ 7 := by
          unfold cv_ct at h'
          split at h' <;> first | (split at h' <;> first | (cases h'; refine ⟨by omega, by decide, by decide, by decide⟩) | cases h') | cases h'
        omega
      rw [hw c 0 hc.2.2.1, hw tt jj hc.2.2.2, hR c _ k hc.1 hc.2.1 hc.2.2.1]
      exact q1 c k tt jj h'
    · rw [hw 14 0 n14.1]
      refine ⟨by rw [(a2 _ q2.2.1).1]; exact q2.1, by have := q2.2.1; omega, by rw [(a2 _ q2.2.1).2]; exact q2.2.2.1, fun i hi => ?_⟩
      rw [hR 14 _ i (by decide) (by decide) n14.1, hw 1 i n14.2.2.2.1]
      exact q2.2.2.2 i hi
    · rw [hw 15 0 n14.2.1]
      refine ⟨by rw [(a2 _ q3.2.1).1]; exact q3.1, by have := q3.2.1; omega, by rw [(a2 _ q3.2.1).2]; exact q3.2.2.1, fun i hi => ?_⟩
      rw [hR 15 _ i (by decide) (by decide) n14.2.1, hw 2 i n14.2.2.2.2.1]
      exact q3.2.2.2 i hi
    · rw [hw 17 0 n14.2.2.1]
      refine ⟨by rw [(a2 _ q4.2.1).1]; exact q4.1, by have := q4.2.1; omega, by rw [(a2 _ q4.2.1).2]; exact q4.2.2.1, fun i hi => ?_⟩
      rw [hR 17 _ i (by decide) (by decide) n14.2.2.1, hw 12 _ n14.2.2.2.2.2]
      exact q4.2.2.2 i hi
  · refine ⟨by have := hA.1; omega, fun jj hjj => ?_⟩
    obtain ⟨q1, q2, q3, q4, q5⟩ := hA.2 jj hjj
    have hlt : w 12 jj < bh_z σ := by have := hA.1; omega
    rw [hw 12 jj (fun e => t12 e.symm)]
    refine ⟨by rw [(a2 _ hlt).1]; exact q1, by rw [(a2 _ hlt).2]; exact q2, q3, fun j' hj' => ?_, fun i => ?_⟩
    · rw [hw 12 j' (fun e => t12 e.symm)]
      exact q4 j' hj'
    · rw [hZA jj hjj, a7 12 _ i (by decide) (fun z => by omega) (fun z => by omega)]
      exact q5 i
  · have w0 : ∀ i, w' 0 i = w 0 i := fun i => hw 0 i (by omega)
    refine ⟨hb, ?_, fun j' hj' => ?_⟩
    · rw [a6]
      have q := hS.2.1
      exact ⟨by rw [(a2 _ q.2.2).1]; exact q.1, by rw [(a2 _ q.2.2).2]; exact q.2.1, by omega⟩
    · obtain ⟨q1, q2, q3, q4, q5, q6, q7, q8, q9⟩ := hS.2.2 j' hj'
      rw [w0]
      have qa : bh_K σc (w 0 j') = 0 ∧ w 0 j' < bh_z σc ∧ ∀ j'', j'' < 3 → w' 0 j'' = w 0 j' → j'' = j' := by
        refine ⟨by rw [(a2 _ q1.2.1).1]; exact q1.1, by have := q1.2.1; omega, fun j'' hj'' e => ?_⟩
        rw [w0] at e
        exact q1.2.2 j'' hj'' e
      by_cases hjj : j' = j
      · subst hjj
        refine ⟨qa, ⟨?_, ?_⟩, ?_, ?_, ?_, ?_, ?_, ?_, ?_⟩
        · rw [hZ1]; exact a8
        · rw [hn1]; exact hZ1
        · simp only [if_true]; exact a10
        · simp only [if_true]; exact a4
        · simp only [if_true]; exact he'z
        · simp only [if_true]
          rw [hn1, a5]
          rcases a1 with ⟨_, _, _, _, _⟩ | ⟨_, _, _, _, _, _, _⟩ <;> omega
        · intro i hi
          rw [hn1] at hi
          simp only [if_true]
          by_cases hi2 : i < cv_n nf nl np j'
          · rw [a12 i hi2, q7 i hi2, he1 j' i hj' hi2]
          · have : i = cv_n nf nl np j' := by omega
            subst this
            rw [a13, he2]
        · simp only [if_true]
          rw [a5]
          intro h
          rcases a1 with ⟨_, _, _, _, _⟩ | ⟨_, _, _, _, _, _, _⟩ <;> omega
        · simp only [if_true]
          intro _ j'' hj'' e
          by_cases h2 : j'' = j'
          · exact h2
          · rw [if_neg h2] at e
            exact absurd e (hee j'' hj'' h2)
      · have hne0 : w 0 j' ≠ w 0 j := fun e => hjj ((hS.2.2 j hj).1.2.2 j' hj' e)
        have hl := (a2 _ q5).2
        dsimp only
        rw [if_neg hjj]
        refine ⟨qa, ⟨?_, ?_⟩, ?_, ?_, ?_, ?_, ?_, ?_, ?_⟩
        · rw [hZ2 j' hj' hjj, a7 0 _ 2 (by decide) (fun z => hne0 z.2) (fun z => by omega)]
          exact q2.1
        · rw [hZ2 j' hj' hjj, hn2 j' hj' hjj]
          exact q2.2
        · rw [a9 0 _ 1 (by decide) (fun z => hne0 z.2.1) (fun z => by omega)]
          exact q3
        · rw [(a2 _ q5).1]; exact q4
        · omega
        · rw [hn2 j' hj' hjj, hl]; exact q6
        · intro i hi
          rw [hn2 j' hj' hjj] at hi
          rw [a11 _ i q5 (hee j' hj' hjj), q7 i hi, he1 j' i hj' hi]
        · rw [hl, a6]; exact q8
        · rw [hl]
          intro h0 j'' hj'' e
          by_cases h2 : j'' = j
          · subst h2
            rw [if_pos rfl] at e
            exact absurd e.symm (hee j' hj' hjj)
          · rw [if_neg h2] at e
            exact q9 h0 j'' hj'' e
  · obtain ⟨q1, q2, q3, q4, q5⟩ := hQ
    have hl0 := (a2 _ (hS.2.2 0 (by decide)).2.2.2.2.1).2
    have hl1 := (a2 _ (hS.2.2 1 (by decide)).2.2.2.2.1).2
    have hl2 := (a2 _ (hS.2.2 2 (by decide)).2.2.2.2.1).2
    have g0 := (hS.2.2 0 (by decide)).2.2.2.2.2.1
    have g1 := (hS.2.2 1 (by decide)).2.2.2.2.2.1
    unfold cv_Q
    rw [hZ3]
    match j, hj with
    | 0, _ =>
      show _ ≤ z1 + 2 * ((Z 90 0).toNatClampNeg + 1) + bh_L σc (ea 2) ∧ _ ≤ n1 + 60 * ((Z 90 0).toNatClampNeg + 1) + 4 * bh_L σc (ea 2) ∧ bh_L σc (ea 2) ≤ 5000 ∧ bh_L σc e' ≤ 60 ∧ bh_L σc (ea 1) ≤ 60
      rw [hl1, hl2, a5]
      have := hb2.2 (by decide)
      have a1' := a1
      rcases a1' with ⟨_, _, _, _, _⟩ | ⟨_, _, _, _, _, _, _⟩ <;> omega
    | 1, _ =>
      show _ ≤ z1 + 2 * ((Z 90 0).toNatClampNeg + 1) + bh_L σc (ea 2) ∧ _ ≤ n1 + 60 * ((Z 90 0).toNatClampNeg + 1) + 4 * bh_L σc (ea 2) ∧ bh_L σc (ea 2) ≤ 5000 ∧ bh_L σc (ea 0) ≤ 60 ∧ bh_L σc e' ≤ 60
      rw [hl0, hl2, a5]
      have := hb2.2 (by decide)
      rcases a1 with ⟨_, _, _, _, _⟩ | ⟨_, _, _, _, _, _, _⟩ <;> omega
    | 2, _ =>
      show _ ≤ z1 + 2 * ((Z 90 0).toNatClampNeg + 1) + bh_L σc e' ∧ _ ≤ n1 + 60 * ((Z 90 0).toNatClampNeg + 1) + 4 * bh_L σc e' ∧ bh_L σc e' ≤ 5000 ∧ bh_L σc (ea 0) ≤ 60 ∧ bh_L σc (ea 1) ≤ 60
      rw [hl0, hl1, a5]
      have := hb2.1
      rcases a1 with ⟨_, _, _, _, _⟩ | ⟨_, _, _, _, _, _, _⟩ <;> omega
  · obtain ⟨q1, q2, q3, q4, q5⟩ := hF
    refine ⟨fun a h => ?_, by omega, a6.trans q3, fun c a k hc => ?_, fun a k => ?_⟩
    · have h1 := a2 a (by omega)
      have h2 := q1 a h
      exact ⟨h1.1.trans h2.1, h1.2.trans h2.2⟩
    · rw [a7 c a k (by omega) (fun z => by omega) (fun z => by omega)]
      exact q4 c a k hc
    · rw [a9 11 a k (by decide) (fun z => by omega) (fun z => by omega)]
      exact q5 a k
