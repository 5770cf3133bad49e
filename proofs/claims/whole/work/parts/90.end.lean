/-! THE CLAIM OUT OF ONE WALK OF THE LAW'S BODY. Your part is whole_start (and what it stands on); all else here is the same for every law, but numbers. -/
def R_law : String := "BeetHouseLaw"
def lw_P (b : Addr) (xs : List Int32) (args : Array Value) (s : State) : Prop := args = #[.ref b] ∧ s.IntsAt b xs ∧ xs.length ≤ 3072 ∧ (Jvm.Cond.and given_1 narrow_1).before args s = true
def lw_Q (_ : Array Value) (s : State) (o : Outcome) (t : State) : Prop := o = .returned (some (.int 1)) ∧ Framed s o t [] 600000 7302250
def lw_Z (below : List Frame) (a : Array Value) (s : State) : State → Prop := fun t => ∃ o, t.status = .running ∧ Ended t below o ∧ lw_Q a s o t
/-- the law's own end, with 1 on the stack, nothing written that was there before, its room as the claim has it -/
theorem lw_ret {p : Program} {l : Launch} {e : Env} {s : State} {m : MethodId} {below : List Frame} {meth : Method} {c : Code} {b : Nat} (hx : p.tables.exec = Jvm.exec) (hb : c.code = code) (hr : meth.sig.returnType = ret) (hlocks : meth.locks = false) {pc : Nat} {H : Heap} {ls : Array Slot} (hdg : decode code pc = .ok (.ireturn, 1)) : W p l e room_1 s m #[Value.ref b] below meth c H [] 600000 7302250 (lw_Z below #[Value.ref b] s) (F0 m pc ls [.int 1]) := by
  intro T hT X
  obtain ⟨fs, hret, hrun, hended, hW, hframe⟩ := X.leave (v := some (.int 1)) (hlocks := hlocks) (fun h => by rw [hr] at h; cases h)
  have hmeth' : T.vm.method? m = some meth := X.method'
  refine ⟨T.setFrames fs, ?_, .returned (some (.int 1)), hrun, hended, rfl, ⟨_, rfl⟩, hW, hframe⟩
  jvm_step X.here [X.here.top, hx, hb, hdg, hmeth', hr, ret, narrow_b1]
  (try refine ⟨rfl, ?_⟩); (try refine ⟨rfl, ?_⟩)
  first | (intro acts; rw [hret _ acts rfl rfl rfl]) | rw [hret _ _ rfl rfl rfl]
  exact Steps.refl _
/-- what holds at the law's entry: the machine, the code, the tables' words (any of lw_tbl by 'hts w (by decide +kernel)'), the script of L ints xs at the cell b, what the Statement gives of the start (any of its parts by flat_of_before) -/
def lw_At (p : Program) (s : State) (m : MethodId) (meth : Method) (c : Code) (b L : Nat) (xs : Nat → Int32) : Prop :=
  p.tables.exec = Jvm.exec ∧ c.code = code ∧ meth.sig.returnType = ret ∧ c.maxLocals = 4 ∧ s.vm.findClass R_law = some m.cls ∧ (∀ w ∈ lw_tbl, w.before #[Value.ref b] s = true) ∧ va_X b L xs s s.heap ∧ b < s.heap.size ∧ meth.locks = false ∧ (Jvm.Cond.and given_1 narrow_1).before #[Value.ref b] s = true
set_option maxHeartbeats 4000000 in
set_option maxRecDepth 100000 in
theorem whole_start {p : Program} {e : Env} {s : State} {m : MethodId} {below : List Frame} {meth : Method} {c : Code} (l : Launch) {b L : Nat} {xs : Nat → Int32} (hL : L ≤ 3072) (C0 : lw_At p s m meth c b L xs) : W p l e room_1 s m #[Value.ref b] below meth c s.heap [] 0 0 (lw_Z below #[Value.ref b] s) (entryFrame m ([Value.ref b] : List Value).toArray 4) := by
  obtain ⟨hx, hb, hr, hml, hown, hts, hX, hbl, hlocks, hgv⟩ := id C0
  obtain ⟨c0, iS0, hKn0⟩ := u_known (C := RJx4a65c) (T := TJx4a65c) (N := 3) (n := 3) hts hi_L_law_Jx4a65c (hts _ lm_132)
  obtain ⟨c1, iS1, hKn1⟩ := u_known (C := RX0) (T := TX0) (N := 4) (n := 4) hts hi_L_law_X0 (hts _ lm_105)
  obtain ⟨c2, iS2, hKn2⟩ := u_known (C := RX1) (T := TX1) (N := 2) (n := 2) hts hi_L_law_X1 (hts _ lm_103)
  obtain ⟨c3, iS3, hKn3⟩ := u_known (C := RX2) (T := TX2) (N := 3) (n := 3) hts hi_L_law_X2 (hts _ lm_574)
  obtain ⟨c4, iS4, hKn4⟩ := u_known (C := RX3) (T := TX3) (N := 8) (n := 8) hts hi_L_law_X3 (hts _ lm_372)
  obtain ⟨c5, iS5, hKn5⟩ := u_known (C := RX4) (T := TX4) (N := 5) (n := 5) hts hi_L_law_X4 (hts _ lm_117)
  obtain ⟨c6, iS6, hKn6⟩ := u_known (C := RX5) (T := TX5) (N := 7) (n := 7) hts hi_L_law_X5 (hts _ lm_113)
  obtain ⟨c7, iS7, hKn7⟩ := u_known (C := RX6) (T := TX6) (N := 14) (n := 14) hts hi_L_law_X6 (hts _ lm_818)
  obtain ⟨c8, iS8, hKn8⟩ := u_known (C := RX7) (T := TX7) (N := 2) (n := 2) hts hi_L_law_X7 (hts _ lm_125)
  obtain ⟨c9, iS9, hKn9⟩ := u_known (C := RX8) (T := TX8) (N := 4) (n := 4) hts hi_L_law_X8 (hts _ lm_121)
  obtain ⟨c10, iS10, hKn10⟩ := u_known (C := RX9) (T := TX9) (N := 12) (n := 12) hts hi_L_law_X9 (hts _ lm_13)
  obtain ⟨c11, iS11, hKn11⟩ := u_known (C := RX10) (T := TX10) (N := 49) (n := 49) hts hi_L_law_X10 (hts _ lm_192)
  obtain ⟨dC, dI, hKc⟩ : ∃ (dC : Nat → ClassId) (dI : Nat → Nat → Nat), ∀ (k : Nat) (q : vw_C), vwCl[k]? = some q → u_Kn s q.1 q.2.1 q.2.2 (dC k) (dI k) := by
    refine ⟨fun k => match k with | 0 => c0 | 1 => c1 | 2 => c2 | 3 => c3 | 4 => c4 | 5 => c5 | 6 => c6 | 7 => c7 | 8 => c8 | 9 => c9 | 10 => c10 | _ => c11, fun k => match k with | 0 => iS0 | 1 => iS1 | 2 => iS2 | 3 => iS3 | 4 => iS4 | 5 => iS5 | 6 => iS6 | 7 => iS7 | 8 => iS8 | 9 => iS9 | 10 => iS10 | _ => iS11, ?_⟩
    intro k q hq
    match k, hq with
    | 0, hq => cases hq; exact hKn0
    | 1, hq => cases hq; exact hKn1
    | 2, hq => cases hq; exact hKn2
    | 3, hq => cases hq; exact hKn3
    | 4, hq => cases hq; exact hKn4
    | 5, hq => cases hq; exact hKn5
    | 6, hq => cases hq; exact hKn6
    | 7, hq => cases hq; exact hKn7
    | 8, hq => cases hq; exact hKn8
    | 9, hq => cases hq; exact hKn9
    | 10, hq => cases hq; exact hKn10
    | 11, hq => cases hq; exact hKn11
    | k + 12, hq => exact absurd (List.getElem?_eq_some_iff.mp hq).1 (by show ¬ k + 12 < 12; omega)
  obtain ⟨cI, kI, cmI, fI1, fI2, fI3⟩ := Cond.arrayClass_spec (hts _ lm_110)
  obtain ⟨cZ, kZ, cmZ, fZ1, fZ2, fZ3⟩ := Cond.arrayClass_spec (hts _ lm_213)
  obtain ⟨cmF, cF, kF, fF1, -, fF2, fF3, fF4⟩ := Cond.arrayOver_spec (hts _ lm_947)
  obtain ⟨cmG, cG, kG, fG1, -, fG2, fG3, fG4⟩ := Cond.arrayOver_spec (hts _ lm_948)
  obtain ⟨cmO, cO, kO, fO1, -, fO2, fO3, fO4⟩ := Cond.arrayOver_spec (hts _ lm_949)
  obtain ⟨cmQ, cQ, kQ, fQ1, -, fQ2, fQ3, fQ4⟩ := arrayOverA_spec (hts _ lm_950)
  have hs := flat_of_before _ hgv
  have hex : (Cond.exactly (.static "java/util/ArrayList" "DEFAULTCAPACITY_EMPTY_ELEMENTDATA" "[Ljava/lang/Object;") "[Ljava/lang/Object;").before #[Value.ref b] s = true := hs _ (by decide +kernel)
  have har : (Cond.arrayOf (.static "java/util/ArrayList" "DEFAULTCAPACITY_EMPTY_ELEMENTDATA" "[Ljava/lang/Object;") (.object "java/lang/Object")).before #[Value.ref b] s = true := hs _ (by decide +kernel)
  have hle : (Cond.eq (.length (.static "java/util/ArrayList" "DEFAULTCAPACITY_EMPTY_ELEMENTDATA" "[Ljava/lang/Object;")) (.int 0)).before #[Value.ref b] s = true := hs _ (by decide +kernel)
  have hmi : (Cond.isRef (.mirror "[Ljava/lang/Object;")).before #[Value.ref b] s = true := hs _ (by decide +kernel)
  obtain ⟨mi, hMi⟩ := va_Mi.of hmi
  obtain ⟨e0, cE, cell, kE, q1, q2, q3, q4, q5, q6, -⟩ := Cond.exactly_spec (args := #[Value.ref b]) (first := s) (o := none) (s := s) (idx := []) hex
  obtain ⟨hof, hun⟩ := Cond.arrayOf_spec har q1 q3
  obtain ⟨e9, cell9, ht9, hat9, hv9⟩ := Term.length_spec (va_eqt hle)
  cases q1.symm.trans ht9
  cases q3.symm.trans (State.arrayAt?_spec hat9).1
  have hsz0 : cell.slots.size.toInt32 = Int32.ofNat 0 := (Value.int.inj hv9).symm
  have hcE : cE = cO := Option.some.inj (q2.symm.trans fO4)
  obtain ⟨cy, hcy⟩ : ∃ cy : Nat → ClassId, cy 12 = cI ∧ cy 13 = cZ ∧ cy 14 = cF ∧ cy 15 = cG ∧ cy 16 = cO ∧ cy 17 = cQ ∧ cy 18 = mi := ⟨fun k => match k with | 12 => cI | 13 => cZ | 14 => cF | 15 => cG | 16 => cO | 17 => cQ | _ => mi, rfl, rfl, rfl, rfl, rfl, rfl, rfl⟩
  obtain ⟨y12, y13, y14, y15, y16, y17, y18⟩ := hcy
  have he0 : e0 < s.heap.size := (Array.getElem?_eq_some_iff.mp q3).1
  have hE : bh_Env (dC, dI) cy s.heap.size e0 s := by
    refine ⟨⟨hKc, fun k q hq => ?_⟩, fun w hw => va_Nw.of (by have := bh_nestN w hw; cases w <;> first | exact (Bool.false_ne_true this).elim | rfl) (hts w (bh_nest_in w hw)), Nat.le_refl _, ⟨va_AO.of (hts _ lm_947), va_AO.of (hts _ lm_948), va_AO.of (hts _ lm_949)⟩, va_Zof (hts _ lm_951) (hts _ lm_131) q1 (fun a ha => Nat.not_le.mpr ha), by rw [y18]; exact hMi, va_Dc.of (hts _ lm_952), hts _ lm_950⟩
    match k, hq with
    | 0, hq => cases hq; rw [y12]; exact ⟨fun n z => ⟨(fun k h => by cases h), kI, fI2, cmI, fI3⟩, fI1⟩
    | 1, hq => cases hq; rw [y13]; exact ⟨fun n z => ⟨(fun k h => by cases h), kZ, fZ2, cmZ, fZ3⟩, fZ1⟩
    | 2, hq => cases hq; rw [y14]; exact ⟨fun n z => ⟨(fun k h => by cases h), kF, fF2, cmF, fF3⟩, kF, cmF, fF2, fF3, fF1, fF4⟩
    | 3, hq => cases hq; rw [y15]; exact ⟨fun n z => ⟨(fun k h => by cases h), kG, fG2, cmG, fG3⟩, kG, cmG, fG2, fG3, fG1, fG4⟩
    | 4, hq => cases hq; rw [y16]; exact ⟨fun n z => ⟨(fun k h => by cases h), kO, fO2, cmO, fO3⟩, kO, cmO, fO2, fO3, fO1, fO4⟩
    | 5, hq => cases hq; rw [y17]; exact ⟨fun n z => ⟨(fun k h => by cases h), kQ, fQ2, cmQ, fQ3⟩, fQ4⟩
    | k + 6, hq => exact absurd (List.getElem?_eq_some_iff.mp hq).1 (by show ¬ k + 6 < 6; omega)
  have hR : bh_Rep (dC, dI) cy s.heap.size e0 (bh_ini s.heap.size e0) s.heap := by
    refine ⟨rfl, rfl, fun a ha => ?_⟩
    have hae : a = e0 := by
      by_cases h : a = e0
      · exact h
      · exact absurd ha (by show ¬ (if a = e0 then 16 else 99) < 18; rw [if_neg h]; decide)
    subst hae
    have eK : bh_K (bh_ini s.heap.size a) a = 16 := if_pos rfl
    refine ⟨Or.inr ⟨rfl, by rw [eK]; decide⟩, fun r hr => ?_, fun h => ?_, fun _ h => absurd rfl h, fun _ => ?_⟩
    · rw [eK] at hr
      exact absurd (List.getElem?_eq_some_iff.mp hr).1 (by decide)
    · rw [eK] at h
      exact absurd h (by decide)
    · rw [eK]
      exact ⟨cell, q3, by rw [q6, y16]; exact hcE, hsz0, hun, fun k h => by rw [h] at q5; cases q5⟩
  obtain ⟨σ', hpu, hz, hn⟩ := pu_law 4000 L xs (Nat.le_refl _) hL s.heap.size e0 he0
  obtain ⟨hm, hW⟩ := j_L_law (l, p, e, s, m, #[Value.ref b], below, meth, c, (dC, dI), cy, s.heap.size, e0, s.heap.size, 0) 4000 L xs b ⟨hX, hbl⟩ (bh_ini s.heap.size e0) 1 σ' hpu
  have hl := lv_entry ([.ref b]) (n := 4) (Nat.le_of_ble_eq_true rfl)
  rw [lg_entry_eq]
  have hW := hW ⟨hx, hb, hml, hown, hts, hr, hlocks, (fun h => absurd h (by decide)), hE⟩ (Nat.le_refl _) (Nat.le_refl _) s.heap [] _ hR va_S.rf hl
  rw [show bh_z (bh_ini s.heap.size e0) - s.heap.size = 0 from Nat.sub_self _, show bh_n (bh_ini s.heap.size e0) - 0 = 0 from rfl] at hW
  refine bh_Wroom (R := bh_Rm 14 532 (bh_z σ' - s.heap.size) (bh_n σ' - 0)) (R' := room_1) (Nat.le_refl 14) (show bh_z σ' - s.heap.size ≤ 600000 by omega) (show bh_n σ' - 0 ≤ 7302250 by omega) (Nat.le_refl 532) ?_ hW
  rintro t ⟨o, g1, g2, ⟨g3, -, -⟩, LL, ⟨g4, g5, g6⟩, g7⟩
  exact ⟨o, g1, g2, g3, g4, g5, State.sameButNew.weaken g6 (fun x hx hlt => absurd hlt (Nat.not_lt.mpr (g7 x hx))) (by omega) (by omega)⟩
set_option maxHeartbeats 4000000 in
theorem lw_walk (l : Launch) (b : Addr) (xs : List Int32) : MetFree l x (headSpec (Jvm.Cond.code x code maxLocals ret :: tables_1) room_1) (lw_P b xs) (fun _ _ _ _ _ => True) lw_Q := by
  refine MetFree.of_bodyS (code := code) (maxLocals := maxLocals) (ret := ret) (by decide) ?_ ?_
  · intro args s m h hn
    obtain ⟨meth, c, h1, h2, h3, h4, h5, h6, -, -⟩ := Cond.code_spec hn (atoms_spec (ws := Jvm.Cond.code x code maxLocals ret :: tables_1) h _ List.mem_cons_self)
    exact ⟨meth, c, h1, h2, h3, h4, h5, h6⟩
  · intro p e s m args below meth c s₁ B hml0 hP _
    obtain ⟨rfl, hx, hbd, hgv⟩ := hP
    obtain ⟨scr, harrAt, hlist, hof, hsmall⟩ := hx
    obtain ⟨hcb, hkn, -, -⟩ := State.arrayAt?_spec harrAt
    have hown : s.vm.findClass R_law = some m.cls := findClass_of_methodNamed B.named
    have hts0 : ∀ c ∈ (Jvm.Cond.code x code maxLocals ret :: tables_1), c.before #[Value.ref b] s = true := atoms_spec (ws := Jvm.Cond.code x code maxLocals ret :: tables_1) B.pre
    have hts : ∀ w ∈ lw_tbl, w.before #[Value.ref b] s = true := k2_hts_sels lw_privs (fun w hw => hts0 w (List.mem_cons_of_mem _ hw)) lw_privs_ok
    have hml : c.maxLocals = 4 := B.maxLocals_eq (hts0 _ List.mem_cons_self)
    have X₀ : Stand p l e room_1 s m #[Value.ref b] below meth c s₁ [] 0 0 := Stand.of_body B
    have hh0 : s₁.heap = s.heap := by rw [B.state]; rfl
    have hsz : scr.slots.size = xs.length := by rw [← Array.length_toList, hlist, List.length_map]
    have hval : ∀ j : Nat, j < xs.length → scr.slots[j]? = some (.int (xs.getD j 0)) := fun j hj => by
      rw [← Array.getElem?_toList, hlist]
      simp [hj]
    have hbl : b < s.heap.size := (Array.getElem?_eq_some_iff.mp hcb).1
    have hX : va_X b xs.length (fun j => xs.getD j 0) s s.heap := ⟨scr, hcb, hof, hkn, hsz, hval⟩
    have K : W p l e room_1 s m #[Value.ref b] below meth c s₁.heap [] 0 0 (lw_Z below #[Value.ref b] s) (entryFrame m ([Value.ref b] : List Value).toArray 4) := by
      rw [hh0]
      exact whole_start l hbd ⟨B.exec, B.bytes, B.returns, hml, hown, hts, hX, hbl, B.notSynchronized, hgv⟩
    obtain ⟨t, a1, o, b1, b2, b3⟩ := K s₁ rfl X₀
    exact ⟨t, o, a1, b1, b2, b3⟩
theorem lw_pre_spec {args : Array Value} {s : State} (h : (Jvm.Cond.and given_1 narrow_1).before args s = true) (hr : rest_1_c.before args s = true) : ∃ (b : Addr) (xs : List Int32), lw_P b xs args s := by
  have hs := flat_of_before _ h
  have hq := flat_of_before _ hr
  have hc : (Cond.count 1).before args s = true := hs _ (by decide +kernel)
  have harr : (Cond.arrayOf (.arg 0) .int).before args s = true := hs _ (by decide +kernel)
  have hle : (Cond.le (.length (.arg 0)) (.int 3072)).before args s = true := hs _ (by decide +kernel)
  have hlen : (Cond.isInt (.length (.arg 0))).before args s = true := hq _ (by decide +kernel)
  have hall : (Cond.all (.arg 0) (.isInt (.elem (.arg 0) (.index 0)))).before args s = true := hq _ (by decide +kernel)
  obtain ⟨b, xs, hb, hx⟩ := State.ints_of_pre rfl harr hlen hall
  have hsm : xs.length < 2 ^ 31 := hx.choose_spec.2.2.2
  have hev : (Term.length (.arg 0)).eval args s none [] s = some (.int xs.length.toInt32) := hx.length_eval hb
  have hv := Cond.le_ints hev (show (Term.int 3072).eval args s none [] s = some (.int 3072) from rfl)
  have hd : xs.length.toInt32 ≤ 3072 := by
    simpa [Cond.before, Cond.holds, hv] using hle
  have hN : xs.length ≤ 3072 := (Int32.ofNat_le_ofNat hsm (by decide)).mp (show Int32.ofNat xs.length ≤ Int32.ofNat 3072 from hd)
  exact ⟨b, xs, Cond.one_arg hc (show args[0]? = some (.ref b) from hb), hx, hN, h⟩
theorem lw_comes (l : Launch) : Comes l x (Jvm.Cond.code x code maxLocals ret :: tables_1) room_1 (fun tb e args s => Calls_1 tb e args s ∧ rest_1 tb e args s ∧ Pre_1 tb e args s)
    (fun _ _ args s o t => lw_Q args s o t) := by
  intro p e ha hc hk s m args below hf hfit hheap happ hpre
  obtain ⟨b, xs, hP⟩ := lw_pre_spec hpre.2.2 hpre.2.1
  obtain ⟨k, o, h1, h2, h3, hQ⟩ := lw_walk l b xs p e ha hc hk s m args below hf ((Spec.applies_iff_loose hf).mp happ).1 hP trivial
  exact ⟨k, o, h1, h2, h3, hQ⟩
theorem lw_frame {s t : State} {o : Outcome} {args : Array Value} (h : Framed s o t [] 600000 7302250) :
    Framed s o t (fieldLocs frame_1_writes args s ++ arrayLocs frame_1_arrays args s ++ staticLocs frame_1_statics s) 600000 7302250 := h
theorem lw_limb (L : Cond) (hL : ∀ (args : Array Value) (s t : State), L.after args s (.returned (some (.int 1))) t = true) :
    ArmFor flags0 classFile x code maxLocals ret World_1 tables_1 room_1 Calls_1 rest_1 Pre_1
      (fun tb e a s o t => postC L tb e a s o t ∧ Framed s o t (fieldLocs frame_1_writes a s ++ arrayLocs frame_1_arrays a s ++ staticLocs frame_1_statics s) 600000 7302250) := by
  intro l _ _ _ p e ha hc hk s m args below hf hfit hheap happ hpre
  obtain ⟨k, o, h1, h2, h3, rfl, hF⟩ := lw_comes l p e ha hc hk s m args below hf hfit hheap happ hpre
  exact ⟨k, _, h1, h2, h3, hL args s _, lw_frame hF⟩
theorem i_vc : Claimed_1_1 ∧ Claimed_1_2 := ⟨lw_limb limb_1_1 (fun args s t => by simp [limb_1_1, Cond.after, Cond.holds, Cond.value]), lw_limb limb_1_2 (fun args s t => Cond.after_iff.mpr (by
  first | (rw [show limb_1_2 = Cond.eq .result (.int 1) from rfl, Cond.eq_ints (x := 1) (y := 1) rfl rfl]; simp; done) | (simp [limb_1_2, Cond.value, Term.eval]; done)))⟩

