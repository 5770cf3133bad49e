/-! ===== the pure side: BEST, the search ===== -/
section PP
variable {nf nl np : Nat} {Z Y Z0 : xs_S} {N hr rt H : Nat} {h : Nat → Nat}
/-- what the heap at place k wastes if the heaps of set s go ahead of it -/
def vv (Z0 : xs_S) (hr rt H : Nat) (h : Nat → Nat) (s k : Nat) : Int32 := VV Z0 (h k) (hr / 24) (en hr (bg hr (fun k => la rt Z0 (h k)) s H))
def Rel (g : Nat → Int32) (s k : Nat) (c0 l0 b0 : Int32) : Prop := (l0 = 2147483647 ∧ b0 = -1 ∧ ∀ i, i < k → s.testBit i = true) ∨ (b0 = l0 ∧ ∃ c, c < k ∧ c0 = Int32.ofNat c ∧ s.testBit c = false ∧ g c = l0 ∧ (∀ i, i < c → s.testBit i = false → g i ≠ l0) ∧ ∀ i, i < k → s.testBit i = false → l0 ≤ g i)
theorem en_le {b : Nat} (hhr : hr ≤ 2400) (hb : hr ≤ b) : hr / 24 + en hr b ≤ 100 := by
  unfold en
  omega
theorem vv_le (hI : PI nf nl np Z0) (hhr : hr ≤ 2400) (hrt : 1 ≤ rt ∧ rt ≤ 300) (hh : ∀ k, k < H → h k < nf) {s k : Nat} (hk : k < H) : 0 ≤ (vv Z0 hr rt H h s k).toInt ∧ (vv Z0 hr rt H h s k).toInt ≤ 1250000 := by
  have hp := hI.2.2.1 (h k) (hh k hk)
  have q := bg_le (hr := hr) (s := s) (l := fun k => la rt Z0 (h k)) (fun i hi => (la_le hI.2.2.1 (hh i hi) hrt).2) H (Nat.le_refl _)
  have := VV_le hI.2.1 hp.2.2.1.1 (to := hr / 24) (en hr (bg hr (fun k => la rt Z0 (h k)) s H)) (en_le hhr q.1)
  have h1 := hp.2.1
  have h2 := hp.2.2.1
  unfold vv
  omega
theorem ev_liesV (hN : 4000 ≤ N) (hI : PI nf nl np Z0) (h6 : Z0 6 0 = Int32.ofNat hr) (hhr : hr ≤ 2400) (hrt : 1 ≤ rt ∧ rt ≤ 300) (hH : H ≤ 8) (hM : MI nf H h Y) (h46 : ∀ i, i < H → Y 46 i = Int32.ofNat (la rt Z0 (h i))) {s k : Nat} (hs : s < 2 ^ H) (hk : k < H) : g_X10_lies N (Int32.ofNat s) (Int32.ofNat k) (xs_mg Z0 Y) = some (vv Z0 hr rt H h s k, xs_mg Z0 Y) := by
  have hn : nf ≤ 16 := hI.1.1.1
  have hq := bt_pow H (by omega)
  have hf := (hM.2 k hk).1
  exact ev_lies (l := fun k => la rt Z0 (h k)) hN hI.2.1 h6 hhr hM.1 hH (by omega) hk (by omega) (hM.2 k hk).2 h46 (fun i hi => (la_le hI.2.2.1 (hM.2 i hi).1 hrt).2)
/-- what the heap at place k wastes behind set s, as the class looks it up -/
theorem ev_wait {s k : Nat} (hI : PI nf nl np Z0) (hhr : hr ≤ 2400) (hrt : 1 ≤ rt ∧ rt ≤ 300) (hH : H ≤ 8) (hC : CI Z0 nf hr rt H h Z) (hs : s < 2 ^ H) (hk : k < H) : g_X5_wasteOfWaiting (Int32.ofNat k) (Int32.ofNat s) Z = some (vv Z0 hr rt H h s k, Z) := by
  have hq := bt_pow H (by omega)
  have hh : ∀ k, k < H → h k < nf := fun k hk => (hC.2.2.2.1 k hk).1
  have hbg := bg_le (hr := hr) (s := s) (l := fun k => la rt Z0 (h k)) (fun i hi => (la_le hI.2.2.1 (hh i hi) hrt).2) H (Nat.le_refl _)
  have hen := en_le hhr hbg.1
  have e70 : Z (70 + k) (en hr (bg hr (fun k => la rt Z0 (h k)) s H)) = vv Z0 hr rt H h s k := ((hC.2.2.2.1 k hk).2.2 _ hen)
  have e4 : Int32.ofNat (cv_al (k + 8)) = Int32.ofNat 101 := rfl
  have een : bh_min (Int32.ofNat (bg hr (fun k => la rt Z0 (h k)) s H)) 2400 / 24 - Int32.ofNat hr / 24 = Int32.ofNat (en hr (bg hr (fun k => la rt Z0 (h k)) s H)) := by
    rw [show bh_min (Int32.ofNat (bg hr (fun k => la rt Z0 (h k)) s H)) 2400 = Int32.ofNat (min (bg hr (fun k => la rt Z0 (h k)) s H) 2400) from i32_ofmin (n := 2400) (by omega) (by omega), show Int32.ofNat (min (bg hr (fun k => la rt Z0 (h k)) s H) 2400) / 24 = Int32.ofNat (min (bg hr (fun k => la rt Z0 (h k)) s H) 2400 / 24) from i32_ofdiv (n := 24) (by omega) (by omega), show Int32.ofNat hr / 24 = Int32.ofNat (hr / 24) from i32_ofdiv (n := 24) (by omega) (by omega), i32_ofsub (by omega) (by omega)]
    rfl
  unfold g_X5_wasteOfWaiting
  rw [ld_ok (show s < 256 by omega) (by decide), ix_ok (show k < 8 by omega) (by decide)]
  simp only [xs_bnd_some, xs_lt_eq, Option.bind_some, bh_cs_n, bh_cs_s, if_true, if_false, i32_10, xs_retZ1, xs_retZ0]
  rw [hC.2.2.2.2 s hs, hC.2.2.1, een, e4, if_neg (i32_nneg (by omega)), if_neg (ev_nle (m := 101) rfl (by omega) (show en hr (bg hr (fun k => la rt Z0 (h k)) s H) < 101 by omega)), ld_ok (show en hr (bg hr (fun k => la rt Z0 (h k)) s H) < 101 by omega) (by decide)]
  simp only [xs_bnd_some, xs_lt_eq, Option.bind_some, bh_cs_n, bh_cs_s, if_true, if_false, i32_10, xs_retZ1, xs_retZ0]
  rw [e70]
theorem pc_min {s : Nat} (hN : 4000 ≤ N) (hI : PI nf nl np Z0) (h6 : Z0 6 0 = Int32.ofNat hr) (hhr : hr ≤ 2400) (hrt : 1 ≤ rt ∧ rt ≤ 300) (hH : H ≤ 8) (hC : CI Z0 nf hr rt H h Z) (hM : MI nf H h Y) (h46 : ∀ i, i < H → Y 46 i = Int32.ofNat (la rt Z0 (h i))) (hs : s < 2 ^ H) (hT : ∀ s', s < s' → s' < 2 ^ H → Y 47 s' = Z 65 s' ∧ 0 ≤ (Z 65 s').toInt ∧ (Z 65 s').toInt ≤ 318750000) {k163 : Int32 → xs_S → Option (Int32 × xs_S)} : ∀ (d k n1 n2 : Nat) (c0 l0 b0 : Int32), k + d = H → d < n1 → d < n2 → Rel (fun k => vv Z0 hr rt H h s k + Z 65 (s + 2 ^ k)) s k c0 l0 b0 → ∃ c l b, Rel (fun k => vv Z0 hr rt H h s k + Z 65 (s + 2 ^ k)) s H c l b ∧ g_X5_choose_b8 N n1 (Int32.ofNat s) c0 l0 (Int32.ofNat k) Z = some ((), xs_up (xs_up Z 66 s c) 65 s l) ∧ g_X10_knows_b171 N k163 n2 (Int32.ofNat s) b0 (Int32.ofNat k) (xs_mg Z0 Y) = k163 (Int32.ofNat s + -1) (xs_mg Z0 (xs_up Y 47 s b)) := by
  have hq := bt_pow H (by omega)
  have hs256 : s < 256 := by omega
  have hh : ∀ k, k < H → h k < nf := fun k hk => (hM.2 k hk).1
  have h48 : xs_mg Z0 Y 48 0 = Int32.ofNat H := hM.1
  have z0 : (0 : Int32).toInt = 0 := by decide
  have zm : (-1 : Int32).toInt = -1 := by decide
  have zM : (2147483647 : Int32).toInt = 2147483647 := by decide
  intro d
  induction d with
  | zero =>
    intro k n1 n2 c0 l0 b0 hk h1 h2 hr0
    obtain ⟨m1, rfl⟩ : ∃ m, n1 = m + 1 := ⟨n1 - 1, by omega⟩
    obtain ⟨m2, rfl⟩ : ∃ m, n2 = m + 1 := ⟨n2 - 1, by omega⟩
    have ek : k = H := by omega
    subst ek
    refine ⟨c0, l0, b0, hr0, ?_, ?_⟩
    · rw [g_X5_choose_b8, if_pos (ev_le hC.2.1 (by omega) (Nat.le_refl _) (by omega)), st_ok hs256 (by decide)]
      simp only [xs_bnd_some, xs_lt_eq, Option.bind_some, bh_cs_n, bh_cs_s, if_true, if_false, i32_10, xs_retZ1, xs_retZ0]
      rw [st_ok hs256 (by decide)]
      rfl
    · rw [g_X10_knows_b171, if_pos (ev_le h48 (by omega) (Nat.le_refl _) (by omega)), st_ok (show s < 257 by omega) (by decide), mg_upY (by decide)]
      rfl
  | succ d ih =>
    intro k n1 n2 c0 l0 b0 hk h1 h2 hr0
    obtain ⟨m1, rfl⟩ : ∃ m, n1 = m + 1 := ⟨n1 - 1, by omega⟩
    obtain ⟨m2, rfl⟩ : ∃ m, n2 = m + 1 := ⟨n2 - 1, by omega⟩
    have hkH : k < H := by omega
    have hk8 : k < 8 := by omega
    have nx := fun c0 l0 b0 hr0 => ih (k + 1) m1 m2 c0 l0 b0 (by omega) (by omega) (by omega) hr0
    rw [← i32_ofadd1 (by omega)] at nx
    rw [g_X5_choose_b8, g_X10_knows_b171, if_neg (ev_nle hC.2.1 (by omega) hkH), if_neg (ev_nle h48 (by omega) hkH), bt_shl k (by omega)]
    simp only [g_X5_choose_b64, g_X10_knows_b220, g_X10_knows_b226, g_X10_knows_b227]
    by_cases c : s.testBit k = true
    · rw [if_pos ((bt_shr k hk8 s hs256).mpr c), if_neg (fun z => by have := (bt_and k hk8 s hs256).mp z; rw [c] at this; cases this)]
      apply nx
      rcases hr0 with ⟨r1, r2, r3⟩ | ⟨r1, c1, r2, r3, r4, r5, r6, r7⟩
      · refine Or.inl ⟨r1, r2, fun i hi => ?_⟩
        by_cases q : i = k
        · rw [q]; exact c
        · exact r3 i (by omega)
      · refine Or.inr ⟨r1, c1, by omega, r3, r4, r5, r6, fun i hi ht => ?_⟩
        by_cases q : i = k
        · rw [q, c] at ht; cases ht
        · exact r7 i (by omega) ht
    · have c : s.testBit k = false := by
        cases e : s.testBit k
        · rfl
        · exact absurd e c
      have hlt := bt_lt H (by omega) k hkH s hs c
      have hp1 : 1 ≤ 2 ^ k := Nat.one_le_two_pow
      obtain ⟨t1, t2, t3⟩ := hT (s + 2 ^ k) (by omega) hlt
      have hv := vv_le (s := s) hI hhr hrt hh hkH
      have egv : (vv Z0 hr rt H h s k + Z 65 (s + 2 ^ k)).toInt = (vv Z0 hr rt H h s k).toInt + (Z 65 (s + 2 ^ k)).toInt := i32_add (by omega) (by omega)
      rw [if_pos ((bt_and k hk8 s hs256).mpr c), if_neg (fun z => by have := (bt_shr k hk8 s hs256).mp z; rw [c] at this; cases this), ev_wait hI hhr hrt hH hC hs hkH, i32_ofadd (by omega), bt_or k hk8 s hs256 c, ev_liesV hN hI h6 hhr hrt hH hM h46 hs hkH]
      simp only [xs_bnd_some, xs_lt_eq, Option.bind_some, bh_cs_n, bh_cs_s, if_true, if_false, i32_10, xs_retZ1, xs_retZ0]
      rw [ld_ok (show s + 2 ^ k < 256 by omega) (by decide), ld_ok (show s + 2 ^ k < 257 by omega) (by decide)]
      simp only [xs_bnd_some, xs_lt_eq, Option.bind_some, bh_cs_n, bh_cs_s, if_true, if_false, i32_10, xs_retZ1, xs_retZ0, mg_47]
      rw [t1]
      rcases hr0 with ⟨r1, r2, r3⟩ | ⟨r1, c1, r2, r3, r4, r5, r6, r7⟩
      · subst r1
        subst r2
        rw [if_neg (fun z => by rw [i32_le] at z; omega), if_pos (show (-1 : Int32) < 0 by decide)]
        apply nx
        refine Or.inr ⟨rfl, k, by omega, rfl, c, rfl, fun i hi ht => ?_, fun i hi ht => ?_⟩
        · have := r3 i hi
          rw [ht] at this
          cases this
        · by_cases q : i = k
          · rw [q]; exact Int32.le_refl _
          · have := r3 i (by omega)
            rw [ht] at this
            cases this
      · subst r1
        have hb0 : ¬ b0 < 0 := fun z => by
          rw [i32_lt] at z
          have hcH : c1 < H := by omega
          have hlt1 := bt_lt H (by omega) c1 hcH s hs r4
          have hp2 : 1 ≤ 2 ^ c1 := Nat.one_le_two_pow
          obtain ⟨u1, u2, u3⟩ := hT (s + 2 ^ c1) (by omega) hlt1
          have hv1 := vv_le (s := s) hI hhr hrt hh hcH
          have eg1 : (vv Z0 hr rt H h s c1 + Z 65 (s + 2 ^ c1)).toInt = (vv Z0 hr rt H h s c1).toInt + (Z 65 (s + 2 ^ c1)).toInt := i32_add (by omega) (by omega)
          rw [← r5] at z
          have z : (vv Z0 hr rt H h s c1 + Z 65 (s + 2 ^ c1)).toInt < (0 : Int32).toInt := z
          omega
        rw [if_neg hb0]
        by_cases c2 : b0 ≤ vv Z0 hr rt H h s k + Z 65 (s + 2 ^ k)
        · rw [if_pos c2, if_pos c2]
          apply nx
          refine Or.inr ⟨rfl, c1, by omega, r3, r4, r5, r6, fun i hi ht => ?_⟩
          by_cases q : i = k
          · rw [q]; exact c2
          · exact r7 i (by omega) ht
        · rw [if_neg c2, if_neg c2]
          apply nx
          have c3 : vv Z0 hr rt H h s k + Z 65 (s + 2 ^ k) ≤ b0 := by
            rw [i32_le] at c2 ⊢
            omega
          refine Or.inr ⟨rfl, k, by omega, rfl, c, rfl, fun i hi ht z => ?_, fun i hi ht => ?_⟩
          · apply c2
            rw [← z]
            exact r7 i hi ht
          · by_cases q : i = k
            · rw [q]; exact Int32.le_refl _
            · exact Int32.le_trans c3 (r7 i (by omega) ht)
/-- the table of the least waste, from set t on -/
def DP (Z0 : xs_S) (hr rt H : Nat) (h : Nat → Nat) (t : Nat) (Z Y : xs_S) : Prop := (∀ s, t ≤ s → s < 2 ^ H → Y 47 s = Z 65 s ∧ 0 ≤ (Z 65 s).toInt ∧ (Z 65 s).toInt ≤ 1250000 * (255 - (s : Int))) ∧ ∀ s, t ≤ s → s + 1 < 2 ^ H → ∃ c, c < H ∧ s.testBit c = false ∧ Z 66 s = Int32.ofNat c ∧ vv Z0 hr rt H h s c + Z 65 (s + 2 ^ c) = Z 65 s ∧ ∀ k, k < c → s.testBit k = false → vv Z0 hr rt H h s k + Z 65 (s + 2 ^ k) ≠ Z 65 s
theorem CI.up (hC : CI Z0 nf hr rt H h Z) {a i : Nat} {v : Int32} (ha : a = 65 ∨ a = 66) (hH : H ≤ 8) : CI Z0 nf hr rt H h (xs_up Z a i v) := by
  obtain ⟨h1, h2, h3, h4, h5⟩ := hC
  refine ⟨h1.up (by omega), ?_, ?_, fun k hk => ⟨(h4 k hk).1, ?_, fun j hj => ?_⟩, fun s hs => ?_⟩
  · rw [xs_up_ne (by omega)]; exact h2
  · rw [xs_up_ne (by omega)]; exact h3
  · rw [xs_up_ne (by omega)]; exact (h4 k hk).2.1
  · rw [xs_up_ne (by omega)]; exact (h4 k hk).2.2 j hj
  · rw [xs_up_ne (by omega)]; exact h5 s hs
theorem pc_step {t : Nat} (hN : 4000 ≤ N) (hI : PI nf nl np Z0) (h6 : Z0 6 0 = Int32.ofNat hr) (hhr : hr ≤ 2400) (hrt : 1 ≤ rt ∧ rt ≤ 300) (hH : H ≤ 8) (hC : CI Z0 nf hr rt H h Z) (hM : MI nf H h Y) (h46 : ∀ i, i < H → Y 46 i = Int32.ofNat (la rt Z0 (h i))) (ht : t + 1 < 2 ^ H) (hD : DP Z0 hr rt H h (t + 1) Z Y) {k163 : Int32 → xs_S → Option (Int32 × xs_S)} : ∃ Z' Y', g_X5_choose N (Int32.ofNat t) Z = some ((), Z') ∧ g_X10_knows_b171 N k163 N (Int32.ofNat t) (-1) 0 (xs_mg Z0 Y) = k163 (Int32.ofNat t + -1) (xs_mg Z0 Y') ∧ CI Z0 nf hr rt H h Z' ∧ MI nf H h Y' ∧ (∀ i, i < H → Y' 46 i = Int32.ofNat (la rt Z0 (h i))) ∧ (Y' 15 = Y 15 ∧ Y' 16 = Y 16) ∧ DP Z0 hr rt H h t Z' Y' := by
  have hq := bt_pow H (by omega)
  have hh : ∀ k, k < H → h k < nf := fun k hk => (hM.2 k hk).1
  obtain ⟨c, l, b, q1, q2, q3⟩ := pc_min (k163 := k163) hN hI h6 hhr hrt hH hC hM h46 (show t < 2 ^ H by omega) (fun s' h1 h2 => by
    obtain ⟨u1, u2, u3⟩ := hD.1 s' (by omega) h2
    exact ⟨u1, u2, by omega⟩) H 0 N N 0 2147483647 (-1) (by omega) (by omega) (by omega) (Or.inl ⟨rfl, rfl, fun i hi => by omega⟩)
  rcases q1 with ⟨-, -, r3⟩ | ⟨r1, c1, r2, r3, r4, r5, r6, -⟩
  · have := bt_all H (by omega) t (by omega) r3
    omega
  · subst r1
    subst r3
    have hlt := bt_lt H (by omega) c1 r2 t (by omega) r4
    have hp2 : 1 ≤ 2 ^ c1 := Nat.one_le_two_pow
    obtain ⟨u1, u2, u3⟩ := hD.1 (t + 2 ^ c1) (by omega) hlt
    have hv1 := vv_le (s := t) hI hhr hrt hh r2
    have eg1 : (vv Z0 hr rt H h t c1 + Z 65 (t + 2 ^ c1)).toInt = (vv Z0 hr rt H h t c1).toInt + (Z 65 (t + 2 ^ c1)).toInt := i32_add (by omega) (by omega)
    have r5 : vv Z0 hr rt H h t c1 + Z 65 (t + 2 ^ c1) = b := r5
    have r6 : ∀ i, i < c1 → t.testBit i = false → vv Z0 hr rt H h t i + Z 65 (t + 2 ^ i) ≠ b := r6
    rw [r5] at eg1
    have k65 : ∀ i, i ≠ t → xs_up (xs_up Z 66 t (Int32.ofNat c1)) 65 t b 65 i = Z 65 i := fun i hi => by rw [xs_up_ni hi, xs_up_ne (by omega)]
    have k66 : ∀ i, i ≠ t → xs_up (xs_up Z 66 t (Int32.ofNat c1)) 65 t b 66 i = Z 66 i := fun i hi => by rw [xs_up_ne (by omega), xs_up_ni hi]
    refine ⟨xs_up (xs_up Z 66 t (Int32.ofNat c1)) 65 t b, xs_up Y 47 t b, ?_, q3, (hC.up (Or.inr rfl) hH).up (Or.inl rfl) hH, hM, h46, ⟨rfl, rfl⟩, fun s hs1 hs2 => ?_, fun s hs1 hs2 => ?_⟩
    · unfold g_X5_choose
      exact q2
    · by_cases e : s = t
      · subst e
        rw [xs_up_eq, xs_up_eq]
        refine ⟨rfl, by omega, by omega⟩
      · rw [k65 s e, xs_up_ni e]
        exact hD.1 s (by omega) hs2
    · by_cases e : s = t
      · subst e
        refine ⟨c1, r2, r4, ?_, ?_, fun k hk htk => ?_⟩
        · rw [xs_up_ne (by omega), xs_up_eq]
        · rw [k65 _ (by omega), xs_up_eq]
          exact r5
        · have : 1 ≤ 2 ^ k := Nat.one_le_two_pow
          rw [k65 _ (by omega), xs_up_eq]
          exact r6 k hk htk
      · obtain ⟨c2, v1, v2, v3, v4, v5⟩ := hD.2 s (by omega) hs2
        have : 1 ≤ 2 ^ c2 := Nat.one_le_two_pow
        refine ⟨c2, v1, v2, ?_, ?_, fun k hk htk => ?_⟩
        · rw [k66 s e]; exact v3
        · rw [k65 _ (by omega), k65 _ e]
          exact v4
        · have : 1 ≤ 2 ^ k := Nat.one_le_two_pow
          rw [k65 _ (by omega), k65 _ e]
          exact v5 k hk htk
theorem pc_search (hN : 4000 ≤ N) (hI : PI nf nl np Z0) (h6 : Z0 6 0 = Int32.ofNat hr) (hhr : hr ≤ 2400) (hrt : 1 ≤ rt ∧ rt ≤ 300) (hH : H ≤ 8) : ∀ (t n1 n2 : Nat) (Z Y : xs_S), CI Z0 nf hr rt H h Z → MI nf H h Y → (∀ i, i < H → Y 46 i = Int32.ofNat (la rt Z0 (h i))) → t < 2 ^ H → DP Z0 hr rt H h t Z Y → t < n1 → t < n2 → ∃ Z' Y', g_X5_search_b20 N n1 (Int32.ofNat t + -1) Z = some ((), Z') ∧ g_X10_knows_b163 N n2 (Int32.ofNat t + -1) (xs_mg Z0 Y) = some (1, xs_mg Z0 Y') ∧ CI Z0 nf hr rt H h Z' ∧ MI nf H h Y' ∧ (∀ i, i < H → Y' 46 i = Int32.ofNat (la rt Z0 (h i))) ∧ (Y' 15 = Y 15 ∧ Y' 16 = Y 16) ∧ DP Z0 hr rt H h 0 Z' Y' := by
  have hq := bt_pow H (by omega)
  intro t
  induction t with
  | zero =>
    intro n1 n2 Z Y hC hM h46 ht hD h1 h2
    obtain ⟨m1, rfl⟩ : ∃ m, n1 = m + 1 := ⟨n1 - 1, by omega⟩
    obtain ⟨m2, rfl⟩ : ∃ m, n2 = m + 1 := ⟨n2 - 1, by omega⟩
    refine ⟨Z, Y, ?_, ?_, hC, hM, h46, ⟨rfl, rfl⟩, hD⟩
    · rw [g_X5_search_b20, if_pos (by decide)]
    · rw [g_X10_knows_b163, if_pos (by decide)]
      rfl
  | succ t ih =>
    intro n1 n2 Z Y hC hM h46 ht hD h1 h2
    obtain ⟨m1, rfl⟩ : ∃ m, n1 = m + 1 := ⟨n1 - 1, by omega⟩
    obtain ⟨m2, rfl⟩ : ∃ m, n2 = m + 1 := ⟨n2 - 1, by omega⟩
    have e : Int32.ofNat (t + 1) + -1 = Int32.ofNat t := by
      rw [← Int32.sub_eq_add_neg]
      exact i32_ofsub1 (by omega)
    obtain ⟨Z1, Y1, a1, a2, a3, a4, a5, a6, a7⟩ := pc_step (k163 := g_X10_knows_b163 N m2) hN hI h6 hhr hrt hH hC hM h46 ht hD
    obtain ⟨Z2, Y2, b1, b2, b3, b4, b5, b6, b7⟩ := ih m1 m2 Z1 Y1 a3 a4 a5 (by omega) a7 (by omega) (by omega)
    refine ⟨Z2, Y2, ?_, ?_, b3, b4, b5, ⟨b6.1.trans a6.1, b6.2.trans a6.2⟩, b7⟩
    · rw [g_X5_search_b20, e, if_neg (i32_nneg (by omega)), a1]
      exact b1
    · rw [g_X10_knows_b163, e, if_neg (i32_nneg (by omega)), a2]
      exact b2
/-- both look for BEST -/
theorem pe_find (hN : 4000 ≤ N) (h : RI nf nl np Z Y) : (∃ Z' Y', g_X9_findOrder N Z = some (0, Z') ∧ g_X10_knows N (xs_mg Z Y) = some (0, xs_mg Z Y') ∧ OE Z Z' ∧ (Y' 15 = Y 15 ∧ Y' 16 = Y 16)) ∨ ∃ hr rt H hf Z' Y', (hr ≤ 2400 ∧ (1 ≤ rt ∧ rt ≤ 300) ∧ H ≤ 8 ∧ Z 6 0 = Int32.ofNat hr) ∧ g_X9_findOrder N Z = some (1, Z') ∧ g_X10_knows N (xs_mg Z Y) = some (1, xs_mg Z Y') ∧ CI Z nf hr rt H hf Z' ∧ MI nf H hf Y' ∧ (∀ i, i < H → Y' 46 i = Int32.ofNat (la rt Z (hf i))) ∧ (Y' 15 = Y 15 ∧ Y' 16 = Y 16) ∧ DP Z hr rt H hf 0 Z' Y' := by
  have hI := h.1
  have hA := hI.1
  have hn := hA.1.1
  obtain ⟨hr, hhr, e6⟩ := i32_inI (p := Z 6 0) (n := 2401) hA.2.2.1.1 (by have := hA.2.2.1.2; omega)
  obtain ⟨rt, hrt, e10⟩ := i32_inI (p := Z 10 0) (n := 301) hA.2.2.2.2.1.1 (by have := hA.2.2.2.2.1.2; omega)
  have ecl : g_X5_clear (Z 6 0) Z = some ((), xs_up (xs_up (xs_up Z 67 0 0) 68 0 (Z 6 0)) 64 0 (Z 6 0)) := by
    unfold g_X5_clear
    simp only [xs_bnd_some, xs_lt_eq, Option.bind_some, bh_cs_n, bh_cs_s, if_true, if_false, i32_10, xs_retZ1, xs_retZ0]
    rw [show (0 : Int32) = Int32.ofNat 0 from rfl, st_ok (show 0 < 256 by omega) (by decide)]
    rfl
  have hO : OE Z (xs_up (xs_up (xs_up Z 67 0 0) 68 0 (Z 6 0)) 64 0 (Z 6 0)) := ((OE.rf.up (by omega)).up (by omega)).up (by omega)
  have ek : g_X10_knows N (xs_mg Z Y) = g_X10_knows_b7 N N (Int32.ofNat 0) (xs_mg Z (xs_up Y 48 0 0)) := by
    unfold g_X10_knows
    rw [mg_upY (by decide)]
    rfl
  by_cases c : rt = 0
  · subst c
    obtain ⟨Y', g1, g2, g3⟩ := ev_b70 (N := N) hA.2.1.1 hn e10 nf 0 N 0 (xs_up Y 48 0 0) (by omega) xs_up_eq (by omega) (by omega)
    refine Or.inl ⟨_, Y', ?_, ek.trans g1, hO, g2, g3⟩
    unfold g_X9_findOrder
    rw [ecl]
    simp only [xs_bnd_some, xs_lt_eq, Option.bind_some, bh_cs_n, bh_cs_s, if_true, if_false, i32_10, xs_retZ1, xs_retZ0]
    rw [show xs_up (xs_up (xs_up Z 67 0 0) 68 0 (Z 6 0)) 64 0 (Z 6 0) 10 0 = 0 from e10, if_pos rfl]
  · have hrt' : 1 ≤ rt ∧ rt ≤ 300 := by omega
    have ef : g_X9_findOrder N Z = g_X9_findOrder_b25 N N (Int32.ofNat 0) (xs_up (xs_up (xs_up Z 67 0 0) 68 0 (Z 6 0)) 64 0 (Z 6 0)) := by
      unfold g_X9_findOrder
      rw [ecl]
      simp only [xs_bnd_some, xs_lt_eq, Option.bind_some, bh_cs_n, bh_cs_s, if_true, if_false, i32_10, xs_retZ1, xs_retZ0]
      rw [show xs_up (xs_up (xs_up Z 67 0 0) 68 0 (Z 6 0)) 64 0 (Z 6 0) 10 0 = Int32.ofNat rt from e10, if_neg (show ¬ Int32.ofNat rt = 0 from fun z => c ((i32_ofeq (n := 0) (by omega) (by omega)).mp z))]
      rfl
    have hC : CI Z nf hr rt 0 (fun _ => 0) (xs_up (xs_up (xs_up Z 67 0 0) 68 0 (Z 6 0)) 64 0 (Z 6 0)) := by
      refine ⟨hO, rfl, e6, fun k hk => by omega, fun s hs => ?_⟩
      have : s = 0 := by
        have : 2 ^ 0 = 1 := rfl
        omega
      subst this
      rw [xs_up_eq]
      exact e6
    rcases pb_loop hN hI (show hr ≤ 2400 by omega) hrt' e10 nf 0 N N 0 (fun _ => 0) _ (xs_up Y 48 0 0) hC ⟨xs_up_eq, fun k hk => by omega⟩ (by omega) (by omega) (by omega) (by omega) with ⟨Z', Y', g1, g2, g3, g4, g5⟩ | ⟨H, hf, Z1, Y1, hH, hC1, hM1, h15, g1, g2⟩
    · exact Or.inl ⟨Z', Y', ef.trans g1, ek.trans g2, g3, g4, g5⟩
    · refine Or.inr ?_
      have hq := bt_pow H (by omega)
      obtain ⟨Y2, hM2, h46, h152, h47, g3⟩ := ev_lasts (N := N) hI hrt' e10 hH H 0 N Y1 hM1 (fun i hi => by omega) (by omega) (by omega)
      have hD : DP Z hr rt H hf (2 ^ H - 1) (xs_up Z1 65 (2 ^ H - 1) 0) Y2 := by
        refine ⟨fun s hs1 hs2 => ?_, fun s hs1 hs2 => by omega⟩
        have z0 : (0 : Int32).toInt = 0 := by decide
        have : s = 2 ^ H - 1 := by omega
        rw [this, xs_up_eq, h47]
        exact ⟨rfl, by omega, by omega⟩
      obtain ⟨Z3, Y3, b1, b2, b3, b4, b5, b6, b7⟩ := pc_search (N := N) (h := hf) hN hI e6 (show hr ≤ 2400 by omega) hrt' hH (2 ^ H - 1) N N _ Y2 (hC1.up (Or.inl rfl) hH) hM2 h46 (by omega) hD (by omega) (by omega)
      refine ⟨hr, rt, H, hf, Z3, Y3, ⟨by omega, hrt', hH, e6⟩, ?_, ?_, b3, b4, b5, ⟨b6.1.trans (h152.1.trans h15.1), b6.2.trans (h152.2.trans h15.2)⟩, b7⟩
      · rw [ef, g1]
        unfold g_X5_search
        rw [hC1.2.1, bt_shl H (by omega), hq.2.2.1, st_ok (show 2 ^ H - 1 < 256 by omega) (by decide)]
        simp only [xs_bnd_some, xs_lt_eq, Option.bind_some, bh_cs_n, bh_cs_s, if_true, if_false, i32_10, xs_retZ1, xs_retZ0]
        rw [hq.2.2.2.1, b1]
        rfl
      · rw [ek, g2, show (0 : Int32) = Int32.ofNat 0 from rfl, g3]
        exact b2
theorem pe_best (hN : 4000 ≤ N) (h : RI nf nl np Z Y) : PR (RI nf nl np) (g_X9_best N Z) (g_X10_best N (xs_mg Z Y)) := by
  unfold g_X9_best g_X10_best
  rcases pe_find hN h with ⟨Z', Y', g1, g2, g3, g4⟩ | ⟨hr, rt, H, hf, Z', Y', q0, g1, g2, g3, g4, g5, g6, g7⟩
  · rw [g1, g2, ← g3.mg]
    simp only [xs_bnd_some, xs_lt_eq, Option.bind_some, bh_cs_n, bh_cs_s, if_true, if_false, i32_10, xs_retZ1, xs_retZ0]
    exact pe_ref (RI.oe ⟨h.1, by rw [g4.1]; exact h.2.1, by rw [g4.2]; exact h.2.2⟩ g3) (by decide)
  · have hR : RI nf nl np Z' Y' := RI.oe ⟨h.1, by rw [g6.1]; exact h.2.1, by rw [g6.2]; exact h.2.2⟩ g3.1
    have hq := bt_pow H (by omega)
    rw [g1, g2, ← g3.1.mg]
    simp only [xs_bnd_some, xs_lt_eq, Option.bind_some, bh_cs_n, bh_cs_s, if_true, if_false, i32_10, xs_retZ1, xs_retZ0]
    unfold g_X5_leastWaste
    rw [show (0 : Int32) = Int32.ofNat 0 from rfl, ld_ok (show 0 < 256 by omega) (by decide), ld_ok (show 0 < 257 by omega) (by decide)]
    simp only [xs_bnd_some, xs_lt_eq, Option.bind_some, bh_cs_n, bh_cs_s, if_true, if_false, i32_10, xs_retZ1, xs_retZ0, mg_47]
    rw [(g7.1 0 (by omega) (by omega)).1]
    exact PR.ret hR
theorem ev_b45 {s c : Nat} {k36 : Int32 → Int32 → Int32 → Int32 → xs_S → Option (Int32 × xs_S)} {x1 x4 : Int32} (hN : 4000 ≤ N) (hI : PI nf nl np Z0) (h6 : Z0 6 0 = Int32.ofNat hr) (hhr : hr ≤ 2400) (hrt : 1 ≤ rt ∧ rt ≤ 300) (hH : H ≤ 8) (hM : MI nf H h Y) (h46 : ∀ i, i < H → Y 46 i = Int32.ofNat (la rt Z0 (h i))) (hs : s < 2 ^ H) (hc : c < H) (htc : s.testBit c = false) (hD : DP Z0 hr rt H h 0 Z Y) (v4 : vv Z0 hr rt H h s c + Z 65 (s + 2 ^ c) = Z 65 s) (v5 : ∀ k, k < c → s.testBit k = false → vv Z0 hr rt H h s k + Z 65 (s + 2 ^ k) ≠ Z 65 s) : ∀ (d k n : Nat), k + d = c → d < n → g_X10_order_b45 N k36 n x1 (Int32.ofNat s) x4 (Int32.ofNat k) (xs_mg Z0 Y) = k36 x1 (Int32.ofNat (s + 2 ^ c)) (Int32.ofNat (h c)) (x4 + 1) (xs_mg Z0 Y) := by
  have hq := bt_pow H (by omega)
  have hs256 : s < 256 := by omega
  intro d
  induction d with
  | zero =>
    intro k n hk hn
    obtain ⟨m, rfl⟩ : ∃ m, n = m + 1 := ⟨n - 1, by omega⟩
    have ek : k = c := by omega
    subst ek
    have hlt := bt_lt H (by omega) k hc s hs htc
    rw [g_X10_order_b45, if_neg (fun z => by have := (bt_shr k (by omega) s hs256).mp z; rw [htc] at this; cases this), ev_liesV hN hI h6 hhr hrt hH hM h46 hs hc, bt_shl k (by omega), bt_or k (by omega) s hs256 htc]
    simp only [xs_bnd_some, xs_lt_eq, Option.bind_some, bh_cs_n, bh_cs_s, if_true, if_false, i32_10, xs_retZ1, xs_retZ0]
    rw [ld_ok (show s + 2 ^ k < 257 by omega) (by decide), ld_ok (show s < 257 by omega) (by decide)]
    simp only [xs_bnd_some, xs_lt_eq, Option.bind_some, bh_cs_n, bh_cs_s, if_true, if_false, i32_10, xs_retZ1, xs_retZ0, mg_47]
    rw [(hD.1 _ (Nat.zero_le _) hlt).1, (hD.1 s (Nat.zero_le _) hs).1, if_pos v4, ld_ok (show k < 8 by omega) (by decide)]
    simp only [xs_bnd_some, xs_lt_eq, Option.bind_some, bh_cs_n, bh_cs_s, if_true, if_false, i32_10, xs_retZ1, xs_retZ0, mg_45]
    rw [(hM.2 k hc).2]
  | succ d ih =>
    intro k n hk hn
    obtain ⟨m, rfl⟩ : ∃ m, n = m + 1 := ⟨n - 1, by omega⟩
    have nx := ih (k + 1) m (by omega) (by omega)
    rw [← i32_ofadd1 (by omega)] at nx
    rw [g_X10_order_b45]
    simp only [g_X10_order_b83]
    by_cases c0 : s.testBit k = true
    · rw [if_pos ((bt_shr k (by omega) s hs256).mpr c0)]
      exact nx
    · have c0 : s.testBit k = false := by
        cases e : s.testBit k
        · rfl
        · exact absurd e c0
      have hlt := bt_lt H (by omega) k (by omega) s hs c0
      rw [if_neg (fun z => by have := (bt_shr k (by omega) s hs256).mp z; rw [c0] at this; cases this), ev_liesV hN hI h6 hhr hrt hH hM h46 hs (by omega), bt_shl k (by omega), bt_or k (by omega) s hs256 c0]
      simp only [xs_bnd_some, xs_lt_eq, Option.bind_some, bh_cs_n, bh_cs_s, if_true, if_false, i32_10, xs_retZ1, xs_retZ0]
      rw [ld_ok (show s + 2 ^ k < 257 by omega) (by decide), ld_ok (show s < 257 by omega) (by decide)]
      simp only [xs_bnd_some, xs_lt_eq, Option.bind_some, bh_cs_n, bh_cs_s, if_true, if_false, i32_10, xs_retZ1, xs_retZ0, mg_47]
      rw [(hD.1 _ (Nat.zero_le _) hlt).1, (hD.1 s (Nat.zero_le _) hs).1, if_neg (v5 k (by omega) c0)]
      exact nx
theorem pc_order {p : Nat} (hN : 4000 ≤ N) (hI : PI nf nl np Z0) (h6 : Z0 6 0 = Int32.ofNat hr) (hhr : hr ≤ 2400) (hrt : 1 ≤ rt ∧ rt ≤ 300) (hH : H ≤ 8) (hC : CI Z0 nf hr rt H h Z) (hM : MI nf H h Y) (h46 : ∀ i, i < H → Y 46 i = Int32.ofNat (la rt Z0 (h i))) (hD : DP Z0 hr rt H h 0 Z Y) (hp : p < H) : ∀ (d i n1 n2 s : Nat) (x3 : Int32), i + d = p → s < 2 ^ H → bc s H = i → d < n1 → d + 1 < n2 → ∃ r, g_X5_plotAtPlace_b27 N n1 (Int32.ofNat p) (Int32.ofNat s) (Z 66 s) (Int32.ofNat i) Z = some (r, Z) ∧ g_X10_order_b36 N n2 (Int32.ofNat p) (Int32.ofNat s) x3 (Int32.ofNat i) (xs_mg Z0 Y) = some (r, xs_mg Z0 Y) := by
  have hq := bt_pow H (by omega)
  intro d
  induction d with
  | zero =>
    intro i n1 n2 s x3 hi hs hb h1 h2
    obtain ⟨m1, rfl⟩ : ∃ m, n1 = m + 1 := ⟨n1 - 1, by omega⟩
    obtain ⟨m2, rfl⟩ : ∃ m, n2 = m + 2 := ⟨n2 - 2, by omega⟩
    have hlt := bc_lt H (by omega) s hs (by omega)
    obtain ⟨c, hc, htc, v3, v4, v5⟩ := hD.2 s (by omega) hlt
    refine ⟨Int32.ofNat (h c), ?_, ?_⟩
    · rw [g_X5_plotAtPlace_b27, if_pos ((i32_ofle (by omega) (by omega)).mpr (by omega)), v3, if_neg (i32_nneg (by omega)), if_neg (ev_nle hC.2.1 (by omega) hc), ld_ok (show c < 8 by omega) (by decide)]
      simp only [xs_bnd_some, xs_lt_eq, Option.bind_some, bh_cs_n, bh_cs_s, if_true, if_false, i32_10, xs_retZ1, xs_retZ0]
      rw [(hC.2.2.2.1 c hc).2.1]
    · rw [g_X10_order_b36, if_neg (fun z => by have := (i32_oflt (by omega) (by omega)).mp z; omega), show (0 : Int32) = Int32.ofNat 0 from rfl, ev_b45 (Z := Z) hN hI h6 hhr hrt hH hM h46 hs hc htc hD v4 v5 c 0 N (by omega) (by omega), i32_ofadd1 (by omega), g_X10_order_b36, if_pos ((i32_oflt (by omega) (by omega)).mpr (by omega))]
  | succ d ih =>
    intro i n1 n2 s x3 hi hs hb h1 h2
    obtain ⟨m1, rfl⟩ : ∃ m, n1 = m + 1 := ⟨n1 - 1, by omega⟩
    obtain ⟨m2, rfl⟩ : ∃ m, n2 = m + 1 := ⟨n2 - 1, by omega⟩
    have hlt := bc_lt H (by omega) s hs (by omega)
    obtain ⟨c, hc, htc, v3, v4, v5⟩ := hD.2 s (by omega) hlt
    have hlt2 := bt_lt H (by omega) c hc s hs htc
    obtain ⟨r, g1, g2⟩ := ih (i + 1) m1 m2 (s + 2 ^ c) (Int32.ofNat (h c)) (by omega) hlt2 (by rw [bc_up H (by omega) c hc s hs htc]; omega) (by omega) (by omega)
    refine ⟨r, ?_, ?_⟩
    · rw [g_X5_plotAtPlace_b27, if_neg (fun z => by have := (i32_ofle (by omega) (by omega)).mp z; omega), v3, bt_shl c (by omega), bt_or c (by omega) s (by omega) htc, if_neg (i32_nneg (by omega)), if_neg (show ¬ (256 : Int32) ≤ Int32.ofNat (s + 2 ^ c) from ev_nle (m := 256) rfl (by omega) (by omega)), ld_ok (show s + 2 ^ c < 256 by omega) (by decide)]
      simp only [xs_bnd_some, xs_lt_eq, Option.bind_some, bh_cs_n, bh_cs_s, if_true, if_false, i32_10, xs_retZ1, xs_retZ0]
      unfold g_X5_plotAtPlace_b60
      rw [i32_ofadd1 (by omega)]
      exact g1
    · rw [g_X10_order_b36, if_neg (fun z => by have := (i32_oflt (by omega) (by omega)).mp z; omega), show (0 : Int32) = Int32.ofNat 0 from rfl, ev_b45 (Z := Z) hN hI h6 hhr hrt hH hM h46 hs hc htc hD v4 v5 c 0 N (by omega) (by omega), i32_ofadd1 (by omega)]
      exact g2
theorem pe_order (hN : 4000 ≤ N) (h : RI nf nl np Z Y) (p1 : Int32) : PR (RI nf nl np) (g_X9_order N p1 Z) (g_X10_order N p1 (xs_mg Z Y)) := by
  unfold g_X9_order g_X10_order
  rcases pe_find hN h with ⟨Z', Y', g1, g2, g3, g4⟩ | ⟨hr, rt, H, hf, Z', Y', q0, g1, g2, g3, g4, g5, g6, g7⟩
  · rw [g1, g2, ← g3.mg]
    simp only [xs_bnd_some, xs_lt_eq, Option.bind_some, bh_cs_n, bh_cs_s, if_true, if_false, i32_10, xs_retZ1, xs_retZ0]
    exact pe_ref (RI.oe ⟨h.1, by rw [g4.1]; exact h.2.1, by rw [g4.2]; exact h.2.2⟩ g3) (by decide)
  · have hR : RI nf nl np Z' Y' := RI.oe ⟨h.1, by rw [g6.1]; exact h.2.1, by rw [g6.2]; exact h.2.2⟩ g3.1
    have hq := bt_pow H (by omega)
    rw [g1, g2]
    simp only [xs_bnd_some, xs_lt_eq, Option.bind_some, bh_cs_n, bh_cs_s, if_true, if_false, i32_10, xs_retZ1, xs_retZ0]
    rw [show xs_mg Z Y' 48 0 = Int32.ofNat H from g4.1]
    unfold g_X5_plotAtPlace
    rcases i32_in p1 H (by omega) with hb | ⟨p, hp, rfl⟩
    · rw [ev_isInB rfl hb, ← g3.1.mg]
      simp only [xs_bnd_some, xs_lt_eq, Option.bind_some, bh_cs_n, bh_cs_s, if_true, if_false, i32_10, xs_retZ1, xs_retZ0]
      rw [g3.2.1]
      rcases hb with hb | hb
      · rw [if_pos hb]
        exact PR.ret hR
      · by_cases c : p1 < 0
        · rw [if_pos c]
          exact PR.ret hR
        · rw [if_neg c, if_neg (fun z => by rw [i32_lt] at z; rw [i32_le] at hb; omega)]
          exact PR.ret hR
    · obtain ⟨r, a1, a2⟩ := pc_order (p := p) hN h.1 q0.2.2.2 q0.1 q0.2.1 q0.2.2.1 g3 g4 g5 g7 hp p 0 N N 0 (-9) (by omega) (by omega) (bc_0 H (by omega)) (by omega) (by omega)
      have a0 : xs_ld 256 Z' 66 0 = some (Z' 66 0) := ld_ok (i := 0) (by omega) (by decide)
      have a1 : g_X5_plotAtPlace_b27 N N (Int32.ofNat p) 0 (Z' 66 0) 0 Z' = some (r, Z') := a1
      rw [ev_isIn rfl hp (by omega), if_neg (i32_nneg (by omega)), g3.2.1, if_pos ((i32_oflt (by omega) (by omega)).mpr hp), a0]
      simp only [xs_bnd_some, xs_lt_eq, Option.bind_some, bh_cs_n, bh_cs_s, if_true, if_false, i32_10, xs_retZ1, xs_retZ0]
      rw [a1, show (0 : Int32) = Int32.ofNat 0 from rfl, a2, ← g3.1.mg]
      exact PR.ret hR
end PP
