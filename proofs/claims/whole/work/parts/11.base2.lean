/-! ===== arraycopy, new int[n][k], Arrays.copyOf ===== -/
def bh_setRow (σ : bh_S) (c a : Nat) (f : Nat → Option Nat) : bh_S := (σ.1, σ.2.1, (fun c' a' k' => if c' = c ∧ a' = a then f k' else σ.2.2.1 c' a' k'), σ.2.2.2)
def bh_acp (σ : bh_S) (src : Nat) (sp : Int32) (dst : Nat) (dp n : Int32) : Option bh_S :=
  if (bh_K σ src = 16 ∧ bh_K σ dst = 16) ∧ (¬ sp < 0 ∧ ¬ dp < 0 ∧ ¬ n < 0) ∧ (sp.toNatClampNeg + n.toNatClampNeg ≤ bh_L σ src ∧ dp.toNatClampNeg + n.toNatClampNeg ≤ bh_L σ dst ∧ 0 < bh_L σ dst ∧ 0 < bh_L σ src) ∧ (List.range n.toNatClampNeg).all (fun i => match bh_R σ 16 src (sp.toNatClampNeg + i) with | none => true | some y => decide (bh_K σ y < 12)) = true
  then some (bh_setRow σ 16 dst (va_cpy (bh_R σ 16 src) (bh_R σ 16 dst) sp.toNatClampNeg dp.toNatClampNeg n.toNatClampNeg)) else none
theorem bh_acp_spec {σ σ1 : bh_S} {src dst : Nat} {sp dp n : Int32} (h : bh_acp σ src sp dst dp n = some σ1) : ((bh_K σ src = 16 ∧ bh_K σ dst = 16) ∧ (¬ sp < 0 ∧ ¬ dp < 0 ∧ ¬ n < 0) ∧ (sp.toNatClampNeg + n.toNatClampNeg ≤ bh_L σ src ∧ dp.toNatClampNeg + n.toNatClampNeg ≤ bh_L σ dst ∧ 0 < bh_L σ dst ∧ 0 < bh_L σ src) ∧ (List.range n.toNatClampNeg).all (fun i => match bh_R σ 16 src (sp.toNatClampNeg + i) with | none => true | some y => decide (bh_K σ y < 12)) = true) ∧ σ1 = bh_setRow σ 16 dst (va_cpy (bh_R σ 16 src) (bh_R σ 16 dst) sp.toNatClampNeg dp.toNatClampNeg n.toNatClampNeg) := by
  unfold bh_acp at h
  split at h
  · exact ⟨by assumption, (Option.some.inj h).symm⟩
  · cases h
theorem bh_any {D : va_G} {cy : Nat → ClassId} {base e0 : Nat} {σ : bh_S} {s : State} {H : Heap} {b : Nat} (hE : bh_Env D cy base e0 s) (hR : bh_Rep D cy base e0 σ H) (hK : bh_K σ b < 12) : va_Any "java/lang/Object" s H b := by
  obtain ⟨q, hq⟩ : ∃ r, vwCl[bh_K σ b]? = some r := ⟨_, List.getElem?_eq_getElem (show bh_K σ b < vwCl.length from hK)⟩
  obtain ⟨cell, g1, g2, g3, -⟩ := (hR.obj rfl hq).2
  obtain ⟨hfc, kC, hkC, hkk⟩ := (hE.1.1 _ q hq).2
  obtain ⟨c0, t1, f1, f2, f3⟩ := Cond.castable_spec (va_Nw.use (A := #[]) rfl (hE.2.1 _ (bh_castO _ hK q hq)))
  cases hfc.symm.trans f1
  exact ⟨cell, g1, by rw [g3]; rfl, ⟨kC, by rw [g2]; exact hkC⟩, fun comp h => by cases h.symm.trans f2; rw [g2]; exact f3⟩
section BHA
variable {p : Program} {l : Launch} {e : Env} {R : Room} {s : State} {m : MethodId} {args : Array Value} {below : List Frame} {meth : Method} {c : Code} {H : Heap} {locs : List Loc} {cells slots : Nat} {Q : State → Prop} {cc : ByteArray} {pc : Nat} {ls : Array Slot} {rest : List Value} {D : va_G} {cy : Nat → ClassId} {base e0 : Nat}
theorem bh_Wacp (hexec : p.tables.exec = Jvm.exec) (hb : c.code = cc) (hml : c.maxLocals = ls.size) {own : String} {index : Nat} (hown : s.vm.findClass own = some m.cls) (hlink : (Cond.methodLink own index arraycopyName).before args s = true) (hnat : (Cond.native arraycopyName).before args s = true) (hstat : (Cond.static arraycopyName).before args s = true) (hini : (Cond.initialized "java/lang/System").before args s = true)
    (hE : bh_Env D cy base e0 s) {a0 a : Nat} {n0 n1 : Nat} {f g : Nat → Option Nat} (hc0 : H[a0]? = some (arrV (cy 16) n0 (fun j => va_rf (f j)))) (hc1 : H[a]? = some (arrV (cy 16) n1 (fun j => va_rf (g j))))
    {sp dp n : Int32} (h1 : ¬ sp < 0) (h2 : ¬ dp < 0) (h3 : ¬ n < 0) (h4 : sp.toNatClampNeg + n.toNatClampNeg ≤ n0) (h5 : dp.toNatClampNeg + n.toNatClampNeg ≤ n1) (hel : ∀ i : Nat, i < n.toNatClampNeg → ∀ y : Nat, f (sp.toNatClampNeg + i) = some y → va_Any "java/lang/Object" s H y)
    (hframes : 1 ≤ R.frames) (hlocals : (rest.map fun v => v.category).sum + (nativeFrameWords "java/lang/System" "arraycopy" 5 + 11) ≤ R.locals) (hdg : decode cc pc = .ok (.invokestatic index, 3))
    (kk : ∀ (H1 : Heap) (L : List Loc), (∀ q ∈ L, q.base = a) → H1.size = H.size → (∀ q : Nat, q ≠ a → H1[q]? = H[q]?) → H1[a]? = some (arrV (cy 16) n1 (fun j => va_rf (va_cpy f g sp.toNatClampNeg dp.toNatClampNeg n.toNatClampNeg j))) → W p l e R s m args below meth c H1 (locs ++ L) cells slots Q (F0 m (pc + 3) ls rest)) : W p l e R s m args below meth c H locs cells slots Q (F0 m pc ls (.int n :: .int dp :: .ref a :: .int sp :: .ref a0 :: rest)) := by
  have nn : ∀ z : Int32, ¬ z < 0 → z.toInt = (z.toNatClampNeg : Int) := by
    intro z hz
    have hz0 : (0 : Int) ≤ z.toInt := by
      have := Int32.not_lt.mp hz
      simpa using Int32.le_iff_toInt_le.mp this
    show z.toInt = ((z.toInt.toNat : Nat) : Int)
    omega
  intro T hT X
  have hA := hE.1.2 4 _ rfl
  obtain ⟨-, k0, hk0, cm0, hkk0⟩ := hA.1 n0 (fun j => va_rf (f j))
  obtain ⟨-, k1, hk1, cm1, hkk1⟩ := hA.1 n1 (fun j => va_rf (g j))
  obtain ⟨vm', X', step⟩ := X.arraycopy hexec hown hlink hnat hstat hini (src := a0) (dst := a) (cs := arrV (cy 16) n0 (fun j => va_rf (f j))) (cd := arrV (cy 16) n1 (fun j => va_rf (g j))) (srcPos := sp) (destPos := dp) (n := n) (by rw [hT]; exact hc0) (by rw [hT]; exact hc1)
    (fun _ h => by cases h) (fun _ h => by cases h) (fun h => by cases h) (fun h => by cases h) hk0 hk1 hkk0 hkk1 rfl h1 h2 h3
    (by rw [nn sp h1, nn n h3]; show ¬ _ > ((arrV (cy 16) n0 (fun j => va_rf (f j))).slots.size : Int); rw [arrV_size]; omega)
    (by rw [nn dp h2, nn n h3]; show ¬ _ > ((arrV (cy 16) n1 (fun j => va_rf (g j))).slots.size : Int); rw [arrV_size]; omega)
    (fun vm₁ hal i hi => by
      have e : (arrV (cy 16) n0 (fun j => va_rf (f j))).slots.getD (sp.toNatClampNeg + i) .null = va_rf (f (sp.toNatClampNeg + i)) := by
        rw [Array.getD_eq_getD_getElem?, arrV_read _ _ (by omega)]
        rfl
      rw [e]
      cases hy : f (sp.toNatClampNeg + i) with
      | none => exact ⟨rfl, trivial⟩
      | some y =>
        obtain ⟨cellV, g1, g2, ⟨kC, hkC⟩, hasg⟩ := hel i hi y hy
        obtain ⟨kA, comp, r1, r2, r3, -⟩ := hA.2
        cases hk1.symm.trans r1
        cases hkk1.symm.trans r2
        obtain ⟨kE, hkE, -⟩ := Vm.findClass_spec r3
        obtain ⟨kC', hkC', -⟩ := hal.2.2 _ _ hkC
        obtain ⟨kE', hkE', -⟩ := hal.2.2 _ _ hkE
        refine ⟨rfl, cellV, (show T.heap[y]? = some cellV by rw [hT]; exact g1), (fun q h => by rw [h] at g2; cases g2), ⟨kC', hkC'⟩, ?_, ?_⟩
        · exact ⟨kE', hkE'⟩
        · show vm₁.assignable _ _ = true
          rw [hal.assignable]
          exact hasg _ r3)
    (g := F0 m pc ls (.int n :: .int dp :: .ref a :: .int sp :: .ref a0 :: rest)) rfl (by rw [hml]) (rest := rest) rfl (by rw [hb]; exact hdg) hframes (by show 2 * 0 + _ + _ ≤ _; omega)
  have e1 : copied (arrV (cy 16) n0 (fun j => va_rf (f j))) (arrV (cy 16) n1 (fun j => va_rf (g j))) sp dp n = arrV (cy 16) n1 (fun j => va_rf (va_cpy f g sp.toNatClampNeg dp.toNatClampNeg n.toNatClampNeg j)) := va_copied (fun z => va_rf z) (cy 16) (cy 16) f g h4
  rw [e1] at X' step
  have hl : a < H.size := (Array.getElem?_eq_some_iff.mp hc1).1
  have hheap : ((T.setVm vm').setCell a (arrV (cy 16) n1 (fun j => va_rf (va_cpy f g sp.toNatClampNeg dp.toNatClampNeg n.toNatClampNeg j)))).heap = H.setIfInBounds a (arrV (cy 16) n1 (fun j => va_rf (va_cpy f g sp.toNatClampNeg dp.toNatClampNeg n.toNatClampNeg j))) := by rw [← hT]; rfl
  obtain ⟨t, a1, b1⟩ := kk _ _ (fun q hq => by obtain ⟨z, -, hz⟩ := List.mem_map.mp hq; rw [← hz]) (by simp) (fun q hq => by simp [Array.getElem?_setIfInBounds, Ne.symm hq]) (by simp [Array.getElem?_setIfInBounds, hl]) _ hheap X'
  exact ⟨t, step t a1, b1⟩
end BHA
theorem bh_Rep.row {D : va_G} {cy : Nat → ClassId} {base e0 : Nat} {σ : bh_S} {H H1 : Heap} {a : Nat} (hR : bh_Rep D cy base e0 σ H) {ci : Nat} {f : Nat → Option Nat} (hk : bh_K σ a = ci) (hr : 14 ≤ ci) (hsz : H1.size = H.size) (oq : ∀ q : Nat, q ≠ a → H1[q]? = H[q]?) (hO : H1[a]? = some (arrV (cy ci) (bh_L σ a) (fun j => va_rf (f j)))) : bh_Rep D cy base e0 (bh_setRow σ ci a f) H1 := by
  refine hR.set (σ' := bh_setRow σ ci a f) (a := a) rfl rfl rfl rfl (fun _ _ _ _ => rfl) (fun c q k' hq => ?_) hsz oq ?_
  · show (if c = ci ∧ q = a then f k' else _) = _
    rw [if_neg (fun h => hq h.2)]; rfl
  · subst hk
    refine ⟨fun r' hr' => ?_, fun h => ?_, fun _ _ => ?_, fun _ => bh_wk.of hO⟩
    · have h12 : bh_K σ a < 12 := (List.getElem?_eq_some_iff.mp hr').1
      omega
    · change bh_K σ a = 12 ∨ bh_K σ a = 13 at h
      omega
    · refine hO.trans ?_
      refine congrArg some (congrArg (arrV _ _) (funext fun j => ?_))
      show _ = va_rf (if bh_K σ a = bh_K σ a ∧ a = a then f j else bh_R σ (bh_K σ a) a j)
      rw [if_pos ⟨rfl, rfl⟩]
/-- new int[n][k] -/
def bh_newMs (σ : bh_S) (n k : Nat) : bh_S := ((fun a => if a = bh_z σ then 17 else if bh_z σ < a ∧ a ≤ bh_z σ + n then 12 else σ.1 a), (fun c a j => if c = 12 ∧ bh_z σ < a ∧ a ≤ bh_z σ + n then 0 else σ.2.1 c a j), (fun c a j => if c = 17 ∧ a = bh_z σ then (if j < n then some (bh_z σ + 1 + j) else none) else σ.2.2.1 c a j), (fun a => if a = bh_z σ then n else if bh_z σ < a ∧ a ≤ bh_z σ + n then k else σ.2.2.2.1 a), bh_z σ + 1 + n, bh_n σ + n + n * k, bh_e σ)
def bh_newM (σ : bh_S) (n k : Int32) : Option (Nat × bh_S) := if (¬ n < 0 ∧ ¬ k < 0) ∧ n.toNatClampNeg ≤ 1000 ∧ k.toNatClampNeg ≤ 1000 then some (bh_z σ, bh_newMs σ n.toNatClampNeg k.toNatClampNeg) else none
theorem bh_newM_spec {σ σ1 : bh_S} {a : Nat} {n k : Int32} (h : bh_newM σ n k = some (a, σ1)) : ((¬ n < 0 ∧ ¬ k < 0) ∧ n.toNatClampNeg ≤ 1000 ∧ k.toNatClampNeg ≤ 1000) ∧ a = bh_z σ ∧ σ1 = bh_newMs σ n.toNatClampNeg k.toNatClampNeg := by
  unfold bh_newM at h
  split at h
  · have := Option.some.inj h
    cases this
    exact ⟨by assumption, rfl, rfl⟩
  · cases h
theorem bh_outer (c : ClassId) (N h0 : Nat) : ∀ i : Nat, Jvm.Free.Multi.outerC c N h0 i = arrV c N (fun j => va_rf (if j < i then some (h0 + 1 + j) else none))
  | 0 => by
    show ({ cls := c, slots := Array.replicate N .null, vm := .none } : Cell) = _
    rw [arrV_new]
    refine congrArg (arrV c N) (funext fun j => ?_)
    simp [va_rf]
  | i + 1 => by
    show (Jvm.Free.Multi.outerC c N h0 i).setSlot i (.ref (h0 + 1 + i)) = _
    rw [bh_outer c N h0 i, arrV_store]
    refine congrArg (arrV c N) (funext fun j => ?_)
    by_cases e : j = i
    · subst e
      simp [updV, va_rf]
    · by_cases h : j < i
      · simp [updV, e, h, Nat.lt_succ_of_lt h]
      · simp [updV, e, h, show ¬ j < i + 1 by omega]
theorem bh_Rep.newM {D : va_G} {cy : Nat → ClassId} {base e0 : Nat} {σ : bh_S} {H H1 : Heap} (hR : bh_Rep D cy base e0 σ H) (hb : base ≤ H.size) {n k : Nat} (hsz : H1.size = H.size + 1 + n) (oq : ∀ q : Nat, q < H.size → H1[q]? = H[q]?) (hout : H1[H.size]? = some (arrV (cy 17) n (fun j => va_rf (if j < n then some (H.size + 1 + j) else none)))) (hin : ∀ j : Nat, j < n → H1[H.size + 1 + j]? = some (arrV (cy 12) k (fun _ => .int 0))) : bh_Rep D cy base e0 (bh_newMs σ n k) H1 := by
  obtain ⟨g1, g2, g3⟩ := hR
  refine ⟨by rw [hsz, g1]; rfl, g2, fun q hq => ?_⟩
  rw [g1] at hb hsz oq hout hin
  by_cases hqa : q = bh_z σ
  · subst hqa
    have eK : bh_K (bh_newMs σ n k) (bh_z σ) = 17 := if_pos rfl
    have eL : bh_L (bh_newMs σ n k) (bh_z σ) = n := if_pos rfl
    refine ⟨Or.inl hb, fun r hr => ?_, fun h => ?_, fun _ _ => ?_, fun _ => by rw [eK, eL]; exact bh_wk.of hout⟩
    · rw [eK] at hr
      exact absurd (List.getElem?_eq_some_iff.mp hr).1 (by decide)
    · rw [eK] at h
      exact absurd h (by decide)
    · rw [eK, eL]
      refine hout.trans (congrArg some (congrArg (arrV _ _) (funext fun j => ?_)))
      exact congrArg va_rf (if_pos (⟨rfl, rfl⟩ : (17 : Nat) = 17 ∧ bh_z σ = bh_z σ)).symm
  · by_cases hqi : bh_z σ < q ∧ q ≤ bh_z σ + n
    · have eK : bh_K (bh_newMs σ n k) q = 12 := (if_neg hqa).trans (if_pos hqi)
      have eL : bh_L (bh_newMs σ n k) q = k := (if_neg hqa).trans (if_pos hqi)
      refine ⟨Or.inl (by omega), fun r hr => ?_, fun _ => ?_, fun h _ => ?_, fun h => ?_⟩
      · rw [eK] at hr
        exact absurd (List.getElem?_eq_some_iff.mp hr).1 (by decide)
      · rw [eK, eL]
        have h := hin (q - (bh_z σ + 1)) (by omega)
        rw [show bh_z σ + 1 + (q - (bh_z σ + 1)) = q by omega] at h
        refine h.trans (congrArg some (congrArg (arrV _ _) (funext fun j => ?_)))
        show _ = Value.int (if (12 : Nat) = 12 ∧ bh_z σ < q ∧ q ≤ bh_z σ + n then 0 else _)
        rw [if_pos ⟨rfl, hqi⟩]
      · rw [eK] at h
        exact absurd h (by decide)
      · rw [eK] at h
        exact absurd h (by decide)
    · have eK : bh_K (bh_newMs σ n k) q = bh_K σ q := (if_neg hqa).trans (if_neg hqi)
      have eL : bh_L (bh_newMs σ n k) q = bh_L σ q := (if_neg hqa).trans (if_neg hqi)
      have eI' : ∀ c' k', bh_I (bh_newMs σ n k) c' q k' = bh_I σ c' q k' := fun c' k' => if_neg (fun h => hqi h.2)
      have eR' : ∀ c' k', bh_R (bh_newMs σ n k) c' q k' = bh_R σ c' q k' := fun c' k' => if_neg (fun h => hqa h.2)
      rw [eK] at hq
      obtain ⟨b1, b2, b3, b4, b5⟩ := g3 q hq
      have hlt : q < bh_z σ := by
        rw [← g1]
        by_cases h1 : bh_K σ q < 12
        · have hv : ∃ r, vwCl[bh_K σ q]? = some r := ⟨_, List.getElem?_eq_getElem (show bh_K σ q < vwCl.length from h1)⟩
          obtain ⟨r, hr⟩ := hv
          obtain ⟨cell, h, -⟩ := b2 r hr
          exact (Array.getElem?_eq_some_iff.mp h).1
        · by_cases h2 : bh_K σ q = 12 ∨ bh_K σ q = 13
          · exact (Array.getElem?_eq_some_iff.mp (b3 h2)).1
          · obtain ⟨cell, h, -⟩ := b5 (by omega)
            exact (Array.getElem?_eq_some_iff.mp h).1
      refine ⟨by rw [eK, eL]; exact b1, ?_, ?_, ?_, ?_⟩
      · intro r hr
        rw [eK] at hr ⊢
        refine ((b2 r hr).kept (oq q hlt)).to (fun j _ => ?_)
        simp only [bh_V, eI', eR']
      · intro h
        rw [eK] at h ⊢
        rw [oq q hlt, b3 h, eL]
        simp only [eI']
      · intro h h2
        rw [eK] at h ⊢
        rw [eL] at h2
        rw [oq q hlt, b4 h h2, eL]
        simp only [eR']
      · intro h
        rw [eK] at h ⊢
        rw [eL]
        exact (b5 h).kept (oq q hlt)
def bh_mi (X : bh_X) : Nat := match X with
  | (_, _, _, _, _, _, _, _, _, _, cy, _, _, _, _) => cy 18
section BHJ3
variable {α : Type} {em : α → Option Value} {y : MethodName} {cc : ByteArray} {ws : List Cond} {ret : Option FieldType} {NL FR LO : Nat} {X : bh_X} {σ : bh_S} {pc : Nat} {lv : List (Nat × Value)} {st : List Value} {res : Option (α × bh_S)}
theorem bh_enterM {ws' : List Cond} {av : List Value} (hy : plainFor y = true) (hw : ws = Cond.code y cc NL ret :: ws') (hlen : (lg_sl av).length ≤ NL) (body : ∀ X' : bh_X, bh_mi X' = bh_mi X → bh_J em y cc ws ret NL FR LO X' σ 0 (lv_args 0 av) [] res) : bh_MX em X y ws FR LO av σ res := by
  intro r σ' hres
  refine ⟨(body X rfl r σ' hres).1, ?_⟩
  obtain ⟨l, p0, e0', s0, m0, args0, below0, meth0, c0, D, cy, base, e0, z0, n0⟩ := X
  refine va_MetF (cc := cc) (maxL := NL) (ret := ret) hy hw ?_
  intro p e s m args below meth c s₁ B hml hv
  obtain ⟨rfl, hE, hR⟩ := hv
  have h := (body (l, p, e, s, m, av.toArray, below, meth, c, D, cy, base, e0, bh_z σ, bh_n σ) rfl r σ' hres).2 ⟨B.exec, B.bytes, hml, findClass_of_methodNamed B.named, atoms_spec (ws := ws) B.pre, B.returns, B.notSynchronized, (fun h => (name_of_methodNamed B.named B.method).1.trans h), hE⟩ (Nat.le_refl _) (Nat.le_refl _) s.heap [] _ hR va_S.rf (lv_entry av hlen)
  rw [Nat.sub_self, Nat.sub_self] at h
  rw [lg_entry_eq]
  exact h
theorem bj_acp {index src dst : Nat} {sp dp n : Int32} {f : bh_S → Option (α × bh_S)} (h1w : Cond.methodLink y.cls index arraycopyName ∈ ws) (h2w : Cond.native arraycopyName ∈ ws) (h3w : Cond.static arraycopyName ∈ ws) (h4w : Cond.initialized "java/lang/System" ∈ ws) (hfr : 1 ≤ FR) (hlo : (st.map fun v => v.category).sum + (nativeFrameWords "java/lang/System" "arraycopy" 5 + 11) ≤ LO) (hdg : decode cc pc = .ok (.invokestatic index, 3)) (kk : ∀ σ1 : bh_S, bh_acp σ src sp dst dp n = some σ1 → bh_J em y cc ws ret NL FR LO X σ1 (pc + 3) lv st (f σ1)) : bh_J em y cc ws ret NL FR LO X σ pc lv (.int n :: .int dp :: .ref dst :: .int sp :: .ref src :: st) ((bh_acp σ src sp dst dp n).bind f) := by
  refine bj_op (fun σ1 hv => ?_)
  have kk := kk σ1 hv
  obtain ⟨⟨⟨hK0, hK1⟩, ⟨g1, g2, g3⟩, ⟨g4, g5, g6, g8⟩, g7⟩, rfl⟩ := bh_acp_spec hv
  intro r σ' hres
  obtain ⟨hm, hk9⟩ := kk r σ' hres
  refine ⟨hm, fun hC => ?_⟩
  have hk9 := hk9 hC
  obtain ⟨l, p, e, s, m, args, below, meth, c, D, cy, base, e0, z0, n0⟩ := X
  obtain ⟨hx, hb, hml, hown, hts, hrt, hlk, hnm, hE⟩ := hC
  intro h0 h1 H locs ls hR hS hl
  obtain ⟨hab0, hO⟩ := hR.refs hK1 (by decide) (by decide) (by omega)
  have hab : base ≤ dst := by rcases hab0 with h | h; exact h; omega
  refine bh_Wacp hx hb (hml.trans hl.1.symm) hown (hts _ h1w) (hts _ h2w) (hts _ h3w) (hts _ h4w) hE (hR.refs hK0 (by decide) (by decide) (by omega)).2 hO g1 g2 g3 g4 g5 (fun i hi y hy => ?_) hfr hlo hdg (fun H1 L hL hsz oq hO1 => ?_)
  · have h := List.all_eq_true.mp g7 i (List.mem_range.mpr hi)
    rw [hy] at h
    exact bh_any hE hR (of_decide_eq_true h)
  · exact hk9 h0 h1 H1 (locs ++ L) ls (hR.row hK1 (by decide) hsz oq hO1) ⟨by rw [hsz]; exact hS.1, fun q g1 g2 => by rw [oq q (fun e9 => g2 (by rw [e9]; exact hab))]; exact hS.2.1 q g1 g2, fun q hq => by rcases List.mem_append.mp hq with h | h; exact hS.2.2 q h; rw [hL q h]; exact hab⟩ hl
theorem bj_ldcM {index : Nat} (hw : Cond.classLink y.cls index "[Ljava/lang/Object;" ∈ ws) (hdg : decode cc pc = .ok (.ldc index, 2)) (k : bh_J em y cc ws ret NL FR LO X σ (pc + 2) lv (.ref (bh_mi X) :: st) res) : bh_J em y cc ws ret NL FR LO X σ pc lv st res := by
  intro r σ' hres
  obtain ⟨hm, hk⟩ := k r σ' hres
  refine ⟨hm, fun hC => ?_⟩
  have hk := hk hC
  obtain ⟨l, p, e, s, m, args, below, meth, c, D, cy, base, e0, z0, n0⟩ := X
  obtain ⟨hx, hb, hml, hown, hts, hrt, hlk, hnm, hE⟩ := hC
  intro h0 h1 H locs ls hR hS hl
  exact va_ldcM hx hb hown (hts _ hw) hE.2.2.2.2.2.1 hdg (hk h0 h1 H locs ls hR hS hl)
theorem bj_getC {index a : Nat} (hK : bh_K σ a = 16) (h1w : Cond.methodLink y.cls index ⟨"java/lang/Object", "getClass", "()Ljava/lang/Class;"⟩ ∈ ws) (h2w : Cond.selects "[Ljava/lang/Object;" ⟨"java/lang/Object", "getClass", "()Ljava/lang/Class;"⟩ ⟨"java/lang/Object", "getClass", "()Ljava/lang/Class;"⟩ ∈ ws) (h3w : Cond.instanceMethod ⟨"java/lang/Object", "getClass", "()Ljava/lang/Class;"⟩ ∈ ws) (h4w : Cond.native ⟨"java/lang/Object", "getClass", "()Ljava/lang/Class;"⟩ ∈ ws) (hfr : 1 ≤ FR) (hlo : (st.map fun v => v.category).sum + 14 ≤ LO) (hdg : decode cc pc = .ok (.invokevirtual index, 3)) (k : bh_J em y cc ws ret NL FR LO X σ (pc + 3) lv (.ref (bh_mi X) :: st) res) : bh_J em y cc ws ret NL FR LO X σ pc lv (.ref a :: st) res := by
  intro r σ' hres
  obtain ⟨hm, hk⟩ := k r σ' hres
  refine ⟨hm, fun hC => ?_⟩
  have hk := hk hC
  obtain ⟨l, p, e, s, m, args, below, meth, c, D, cy, base, e0, z0, n0⟩ := X
  obtain ⟨hx, hb, hml, hown, hts, hrt, hlk, hnm, hE⟩ := hC
  intro h0 h1 H locs ls hR hS hl
  obtain ⟨cell, g1, g2, g3, g4, g5⟩ := hR.wk hK (by decide) (by decide)
  refine va_getC hx hb (hml.trans hl.1.symm) hown (hts _ h1w) (va_Dc.use hE.2.2.2.2.2.2.1) (hts _ h2w) (hts _ h3w) (hts _ h4w) hE.2.2.2.2.2.1 ⟨cell, g1, (by cases h : cell.vm <;> first | rfl | exact absurd h (g5 _)), ?_⟩ hfr hlo hdg (hk h0 h1 H locs ls hR hS hl)
  rw [g2]
  exact va_nmO (hE.1.2 4 _ rfl).2 (by decide)
theorem bj_mna {index : Nat} {n k0 : Int32} {f : Nat → bh_S → Option (α × bh_S)} (hcl : Cond.classLink y.cls index "[[I" ∈ ws) (harr : Cond.arrayClass .int ∈ ws) (hdg : decode cc pc = .ok (.multianewarray index 2, 4)) (kk : ∀ (a : Nat) (σ1 : bh_S), bh_newM σ n k0 = some (a, σ1) → bh_J em y cc ws ret NL FR LO X σ1 (pc + 4) lv (.ref a :: st) (f a σ1)) : bh_J em y cc ws ret NL FR LO X σ pc lv (.int k0 :: .int n :: st) (bh_bnd (bh_newM σ n k0) f) := by
  refine bj_bnd (fun a σ1 hv => ?_)
  have kk := kk a σ1 hv
  obtain ⟨⟨⟨hn, hk⟩, hN, hKK⟩, rfl, rfl⟩ := bh_newM_spec hv
  intro r σ' hres
  obtain ⟨hm, hk9⟩ := kk r σ' hres
  generalize hNe : n.toNatClampNeg = N at hN hm hk9
  generalize hKe : k0.toNatClampNeg = K at hKK hm hk9
  have hm1 : bh_z σ + 1 + N ≤ bh_z σ' := hm.1
  have hm2 : bh_n σ + N + N * K ≤ bh_n σ' := hm.2
  refine ⟨⟨by omega, by omega⟩, fun hC => ?_⟩
  have hk9 := hk9 hC
  obtain ⟨l, p, e, s, m, args, below, meth, c, D, cy, base, e0, z0, n0⟩ := X
  obtain ⟨hx, hb, hml, hown, hts, hrt, hlk, hnm, hE⟩ := hC
  intro h0 h1 H locs ls hR hS hl
  have hz : H.size = bh_z σ := hR.1
  have hbs : base ≤ H.size := Nat.le_trans hE.2.2.1 hS.1
  intro T hT Xs
  obtain ⟨vm₁, cA, comp, -, fA, fC, hO, -, X', step⟩ := Xs.multianewarray2F (ty := .int) hx hown (hts _ hcl) hE.2.2.2.2.2.2.2 (hts _ harr) (g := F0 m pc ls (.int k0 :: .int n :: st)) rfl (by rw [hb]; exact hdg) rfl hn hk (by omega) (by show _ * 4 ≤ _; omega) (by omega) rfl rfl (by rw [hNe]; show bh_z σ - z0 + (1 + N) ≤ bh_z σ' - z0; omega) (by rw [hNe, hKe]; show bh_n σ - n0 + (N + N * K) ≤ bh_n σ' - n0; omega)
  have ec : comp = cy 12 := Option.some.inj (fC.symm.trans (hE.1.2 0 _ rfl).2)
  have eA : cA = cy 17 := Option.some.inj (fA.symm.trans (hE.1.2 5 _ rfl).2)
  subst ec
  subst eA
  rw [hNe, hKe] at X' step
  generalize hF : Jvm.Free.Multi.fill (T.setVm vm₁) (cy 17) (cy 12) N K (defaultValue .int) N = F at X' step
  have hTh : (T.setVm vm₁).heap = H := hT
  obtain ⟨f1, f2, -, -⟩ := Jvm.Free.Multi.fill_facts (T.setVm vm₁) (cy 17) (cy 12) N K (defaultValue .int) N
  rw [hF, hTh] at f1 f2
  have hold : ∀ x : Nat, x < H.size → F.heap[x]? = H[x]? := fun x hx => by
    have := Jvm.Free.Multi.fill_old (T.setVm vm₁) (cy 17) (cy 12) N K (defaultValue .int) (a := x) (by rw [hTh]; exact hx) N
    rw [hF, hTh] at this
    exact this
  have hrow : ∀ j : Nat, j < N → F.heap[H.size + 1 + j]? = some (arrV (cy 12) K (fun _ => .int 0)) := fun j hj => by
    have := Jvm.Free.Multi.fill_inner (T.setVm vm₁) (cy 17) (cy 12) N K (defaultValue .int) N j hj
    rw [hF, hTh] at this
    rw [this]
    exact congrArg some (arrV_new _ _ _)
  have hout : F.heap[H.size]? = some (arrV (cy 17) N (fun j => va_rf (if j < N then some (H.size + 1 + j) else none))) := by
    rw [f2]
    exact congrArg some (bh_outer (cy 17) N H.size N)
  obtain ⟨t, a1, b1⟩ := W.cs (show bh_z σ - z0 + 1 + N = bh_z σ + 1 + N - z0 by omega) (show bh_n σ - n0 + N + N * K = bh_n σ + N + N * K - n0 by omega) (hk9 (show z0 ≤ bh_z σ + 1 + N by omega) (show n0 ≤ bh_n σ + N + N * K by omega) F.heap locs ls (hR.newM hbs f1 hold hout hrow) ⟨by rw [f1]; have := hS.1; omega, fun q g1 g2 => by rw [hold q (by have := hS.1; omega)]; exact hS.2.1 q g1 g2, hS.2.2⟩ hl) F rfl X'
  refine ⟨t, step t ?_, b1⟩
  rw [show T.heap.size = bh_z σ by rw [hT, hz]]
  exact a1
/-- the law's script: at b, L ints xs; nobody writes there -/
def bh_scr (X : bh_X) (b L : Nat) (xs : Nat → Int32) : Prop := match X with
  | (_, _, _, s, _, _, _, _, _, _, _, base, _, _, _) => va_X b L xs s s.heap ∧ b < base
def bh_sld (L : Nat) (xs : Nat → Int32) (i : Int32) : Option Int32 := if ¬ (i < 0 ∨ L ≤ i.toNatClampNeg) then some (xs i.toNatClampNeg) else none
theorem bh_sld_spec {L : Nat} {xs : Nat → Int32} {i v : Int32} (h : bh_sld L xs i = some v) : ¬ (i < 0 ∨ L ≤ i.toNatClampNeg) ∧ v = xs i.toNatClampNeg := by
  unfold bh_sld at h
  split at h
  · exact ⟨by assumption, (Option.some.inj h).symm⟩
  · cases h
theorem bj_sld {b L : Nat} {xs : Nat → Int32} {i : Int32} {f : Int32 → Option (α × bh_S)} (hX : bh_scr X b L xs) (hdg : decode cc pc = .ok (.iaload, 1)) (kk : ∀ v : Int32, bh_sld L xs i = some v → bh_J em y cc ws ret NL FR LO X σ (pc + 1) lv (.int v :: st) (f v)) : bh_J em y cc ws ret NL FR LO X σ pc lv (.int i :: .ref b :: st) ((bh_sld L xs i).bind f) := by
  refine bj_op (fun v hv => ?_)
  obtain ⟨hi, hV⟩ := bh_sld_spec hv
  intro r σ' hres
  obtain ⟨hm, hk⟩ := kk v hv r σ' hres
  refine ⟨hm, fun hC => ?_⟩
  have hk := hk hC
  obtain ⟨l, p, e, s, m, args, below, meth, c, D, cy, base, e0, z0, n0⟩ := X
  obtain ⟨hx, hb, hml, hown, hts, hrt, hlk, hnm, hE⟩ := hC
  obtain ⟨hX1, hX2⟩ := hX
  intro h0 h1 H locs ls hR hS hl
  refine va_sld hx hb hX1 (Nat.lt_of_lt_of_le hX2 hE.2.2.1) (Nat.not_le.mpr hX2) hS hi hdg ?_
  rw [← hV]
  exact hk h0 h1 H locs ls hR hS hl
theorem bj_slen {b L : Nat} {xs : Nat → Int32} (hX : bh_scr X b L xs) (hdg : decode cc pc = .ok (.arraylength, 1)) (k : bh_J em y cc ws ret NL FR LO X σ (pc + 1) lv (.int (Int32.ofNat L) :: st) res) : bh_J em y cc ws ret NL FR LO X σ pc lv (.ref b :: st) res := by
  intro r σ' hres
  obtain ⟨hm, hk⟩ := k r σ' hres
  refine ⟨hm, fun hC => ?_⟩
  have hk := hk hC
  obtain ⟨l, p, e, s, m, args, below, meth, c, D, cy, base, e0, z0, n0⟩ := X
  obtain ⟨hx, hb, hml, hown, hts, hrt, hlk, hnm, hE⟩ := hC
  obtain ⟨hX1, hX2⟩ := hX
  intro h0 h1 H locs ls hR hS hl
  exact va_slen hx hb hX1 (Nat.lt_of_lt_of_le hX2 hE.2.2.1) (Nat.not_le.mpr hX2) hS hdg (hk h0 h1 H locs ls hR hS hl)
end BHJ3

/-! Arrays.copyOf, by hand -/
section BHJ4
variable {α : Type} {em : α → Option Value} {y : MethodName} {cc : ByteArray} {ws : List Cond} {ret : Option FieldType} {NL FR LO : Nat} {X : bh_X} {σ : bh_S} {pc : Nat} {lv : List (Nat × Value)} {st : List Value} {res : Option (α × bh_S)}
theorem bj_jmpNe {rx : Option Nat} {off : Int} {tgt : Nat} (hdg : decode cc pc = .ok (.if_acmp .ne off, 3)) (ht : (pc : Int) + off = (tgt : Int)) (k : bh_J em y cc ws ret NL FR LO X σ (pc + 3) lv st res) : bh_J em y cc ws ret NL FR LO X σ pc lv (va_rf rx :: va_rf rx :: st) res := by
  intro r σ' hres
  obtain ⟨hm, hk⟩ := k r σ' hres
  refine ⟨hm, fun hC => ?_⟩
  have hk := hk hC
  obtain ⟨l, p, e, s, m, args, below, meth, c, D, cy, base, e0, z0, n0⟩ := X
  obtain ⟨hx, hb, hml, hown, hts, hrt, hlk, hnm, hE⟩ := hC
  intro h0 h1 H locs ls hR hS hl
  exact lv_acmp_ne hx hb hdg ht (fun h => absurd rfl h) (fun _ => hk h0 h1 H locs ls hR hS hl)
end BHJ4
def f_J7_copyOf_6403c (p0 : Nat) (p1 : Int32) (σ : bh_S) : Option (Option Nat × bh_S) :=
  bh_bnd (bh_newA σ 16 p1) fun a1 σ1 =>
  (bh_len σ1 16 p0).bind fun v =>
  (bh_acp σ1 p0 0 a1 0 (bh_min v p1)).bind fun σ2 =>
  some (some a1, σ2)
set_option maxHeartbeats 4000000 in
set_option maxRecDepth 100000 in
theorem c_J7_copyOf_6403c (X : bh_X) (p0 : Nat) (p1 : Int32) (σ : bh_S) : bh_MX eR X yJ7_copyOf_6403c wsJ7_copyOf_6403c 1 60 [.ref p0, .int p1, .ref (bh_mi X)] σ (f_J7_copyOf_6403c p0 p1 σ) := by
  refine bh_enterM (cc := cJ7_copyOf_6403c) (NL := 4) (ret := (some (.array (.object "java/lang/Object")))) (by decide) rfl (Nat.le_of_ble_eq_true rfl) (fun X' hX => ?_)
  rw [← hX]
  show bh_J eR yJ7_copyOf_6403c cJ7_copyOf_6403c wsJ7_copyOf_6403c (some (.array (.object "java/lang/Object"))) 4 1 60 X' σ 0 [(0, .ref p0), (1, .int p1), (2, .ref (bh_mi X'))] [] _
  unfold f_J7_copyOf_6403c
  refine bj_aload_nS dJ7_copyOf_6403c_0 rfl 2 rfl ?_
  refine bj_ldcM (List.mem_of_getElem? (i := 1) rfl) dJ7_copyOf_6403c_1 ?_
  refine bj_jmpNe (rx := some (bh_mi X')) (tgt := 13) dJ7_copyOf_6403c_3 (by decide) ?_
  refine bj_iload_n dJ7_copyOf_6403c_6 rfl 1 rfl ?_
  refine bj_newQ (List.mem_of_getElem? (i := 2) rfl) dJ7_copyOf_6403c_7 (fun a1 σ1 h1 => ?_)
  refine bj_goto (tgt := 24) dJ7_copyOf_6403c_10 (by decide) ?_
  refine bj_astore_n (lv' := [(3, .ref a1), (0, .ref p0), (1, .int p1), (2, .ref (bh_mi X'))]) (o := some a1) dJ7_copyOf_6403c_24 rfl (by decide) rfl ?_
  refine bj_aload_nS dJ7_copyOf_6403c_25 rfl 1 rfl ?_
  refine bj_iconst (v := 0) dJ7_copyOf_6403c_26 (by decide) ?_
  refine bj_aload_nS dJ7_copyOf_6403c_27 rfl 0 rfl ?_
  refine bj_iconst (v := 0) dJ7_copyOf_6403c_28 (by decide) ?_
  refine bj_aload_nS dJ7_copyOf_6403c_29 rfl 1 rfl ?_
  refine bj_alen (ci := 16) (by decide) dJ7_copyOf_6403c_30 (fun v h2 => ?_)
  refine bj_iload_n dJ7_copyOf_6403c_31 rfl 2 rfl ?_
  refine bj_min (List.mem_of_getElem? (i := 3) rfl) (List.mem_of_getElem? (i := 4) rfl) (List.mem_of_getElem? (i := 5) rfl) (List.mem_of_getElem? (i := 6) rfl) (by decide) (Nat.le_of_ble_eq_true rfl) dJ7_copyOf_6403c_32 ?_
  refine bj_acp (List.mem_of_getElem? (i := 7) rfl) (List.mem_of_getElem? (i := 8) rfl) (List.mem_of_getElem? (i := 9) rfl) (List.mem_of_getElem? (i := 10) rfl) (by decide) (Nat.le_of_ble_eq_true rfl) dJ7_copyOf_6403c_35 (fun σ2 h3 => ?_)
  refine bj_aload_nS dJ7_copyOf_6403c_38 rfl 0 rfl ?_
  exact bj_aret (o := some a1) dJ7_copyOf_6403c_39 (Or.inr ⟨_, rfl⟩)
def f_J7_copyOf_1904c (p0 : Nat) (p1 : Int32) (σ : bh_S) : Option (Option Nat × bh_S) :=
  (bh_ck σ p0 16).bind fun _ =>
  bh_bnd (f_J7_copyOf_6403c p0 p1 σ) fun v σ1 =>
  some (v, σ1)
theorem hd_J7_copyOf_6403c : yJ7_copyOf_6403c.cls ≠ "java/lang/invoke/MethodHandle" ∧ yJ7_copyOf_6403c.cls ≠ "java/lang/invoke/VarHandle" ∧ (parseMethodDescriptor yJ7_copyOf_6403c.desc).map (fun d => d.parameters.length) = some 3 := by decide +kernel
set_option maxRecDepth 100000 in
theorem g_J7_copyOf_1904c_J7_copyOf_6403c_300 : GoodIn wsJ7_copyOf_1904c (va_wsS yJ7_copyOf_1904c.cls 300 yJ7_copyOf_6403c wsJ7_copyOf_6403c) := goodIn_r _ [5, 6, 7, 8, 9, 10, 11, 12, 13, 14, 15, 16, 17, 18] rfl (by decide +kernel)
set_option maxHeartbeats 4000000 in
set_option maxRecDepth 100000 in
theorem c_J7_copyOf_1904c (X : bh_X) (p0 : Nat) (p1 : Int32) (σ : bh_S) : bh_MX eR X yJ7_copyOf_1904c wsJ7_copyOf_1904c 3 100 [.ref p0, .int p1] σ (f_J7_copyOf_1904c p0 p1 σ) := by
  refine bh_enterF (cc := cJ7_copyOf_1904c) (NL := 2) (ret := (some (.array (.object "java/lang/Object")))) (by decide) rfl (Nat.le_of_ble_eq_true rfl) (fun X => ?_)
  show bh_J eR yJ7_copyOf_1904c cJ7_copyOf_1904c wsJ7_copyOf_1904c (some (.array (.object "java/lang/Object"))) 2 3 100 X σ 0 [(0, .ref p0), (1, .int p1)] [] _
  unfold f_J7_copyOf_1904c
  refine bj_op (fun _ hK => ?_)
  refine bj_aload_nS dJ7_copyOf_1904c_0 rfl 0 rfl ?_
  refine bj_iload_n dJ7_copyOf_1904c_1 rfl 1 rfl ?_
  refine bj_aload_nS dJ7_copyOf_1904c_2 rfl 0 rfl ?_
  refine bj_getC (bh_ck_spec hK) (List.mem_of_getElem? (i := 1) rfl) (List.mem_of_getElem? (i := 2) rfl) (List.mem_of_getElem? (i := 3) rfl) (List.mem_of_getElem? (i := 4) rfl) (by decide) (Nat.le_of_ble_eq_true rfl) dJ7_copyOf_1904c_3 ?_
  refine bj_callR (br_S (As := [.ref p0, .int p1, .ref (bh_mi X)]) (rest := []) (c_J7_copyOf_6403c X p0 p1 σ) rfl g_J7_copyOf_1904c_J7_copyOf_6403c_300 hd_J7_copyOf_6403c rfl ⟨by decide, by decide⟩ rfl (Nat.le_of_ble_eq_true rfl) dJ7_copyOf_1904c_6) (fun v σ1 h1 => ?_)
  exact bj_aret (o := v) dJ7_copyOf_1904c_9 (Or.inr ⟨_, rfl⟩)

