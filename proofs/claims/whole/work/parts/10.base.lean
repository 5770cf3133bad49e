/-! ===== a flat typed memory, and the walk over it ===== -/
-- kinds: 0..11 the objects of vwCl by their place, 12 int[], 13 boolean[], 14 Farmer[], 15 Gang[], 16 Object[], 17 int[][]; above: none
abbrev bh_S : Type := (Nat → Nat) × (Nat → Nat → Nat → Int32) × (Nat → Nat → Nat → Option Nat) × (Nat → Nat) × Nat × Nat × Nat
def bh_K (σ : bh_S) : Nat → Nat := σ.1
def bh_I (σ : bh_S) : Nat → Nat → Nat → Int32 := σ.2.1
def bh_R (σ : bh_S) : Nat → Nat → Nat → Option Nat := σ.2.2.1
def bh_L (σ : bh_S) : Nat → Nat := σ.2.2.2.1
def bh_z (σ : bh_S) : Nat := σ.2.2.2.2.1
def bh_n (σ : bh_S) : Nat := σ.2.2.2.2.2.1
def bh_e (σ : bh_S) : Nat := σ.2.2.2.2.2.2
def bh_isR (c k : Nat) : Bool := match c with
  | 0 => k == 1
  | 2 => k == 1
  | 3 => k == 0
  | 4 => k == 2
  | 6 => decide (k < 5)
  | 7 => k == 1
  | 8 => true
  | 9 => k == 0
  | 10 => decide (k < 10)
  | 11 => decide (k < 6) || (decide (18 ≤ k) && decide (k < 44)) || (decide (45 ≤ k) && decide (k < 48))
  | _ => false
def bh_V (σ : bh_S) (c a : Nat) : Nat → Value := fun k => if bh_isR c k then va_rf (bh_R σ c a k) else .int (bh_I σ c a k)
/-- what is stored -/
def bh_setI (σ : bh_S) (c a k : Nat) (v : Int32) : bh_S := (σ.1, (fun c' a' k' => if c' = c ∧ a' = a ∧ k' = k then v else σ.2.1 c' a' k'), σ.2.2)
def bh_setR (σ : bh_S) (c a k : Nat) (v : Option Nat) : bh_S := (σ.1, σ.2.1, (fun c' a' k' => if c' = c ∧ a' = a ∧ k' = k then v else σ.2.2.1 c' a' k'), σ.2.2.2)
/-- a new cell of kind c: N slots, length n -/
def bh_new (σ : bh_S) (c N n : Nat) : bh_S := ((fun a => if a = bh_z σ then c else σ.1 a), (fun c' a' k' => if c' = c ∧ a' = bh_z σ then 0 else σ.2.1 c' a' k'), (fun c' a' k' => if c' = c ∧ a' = bh_z σ then none else σ.2.2.1 c' a' k'), (fun a => if a = bh_z σ then n else σ.2.2.2.1 a), bh_z σ + 1, bh_n σ + N, bh_e σ)
def bh_bnd {α β : Type} (o : Option (α × bh_S)) (f : α → bh_S → Option β) : Option β := match o with
  | some (a, s) => f a s
  | none => none
def bh_rdI (σ : bh_S) (c a k : Nat) : Option Int32 := if bh_K σ a = c then some (bh_I σ c a k) else none
def bh_rdR (σ : bh_S) (c a k : Nat) : Option (Option Nat) := if bh_K σ a = c then some (bh_R σ c a k) else none
def bh_wrI (σ : bh_S) (c a k : Nat) (v : Int32) : Option bh_S := if bh_K σ a = c then some (bh_setI σ c a k v) else none
def bh_wrZ (σ : bh_S) (c a k : Nat) (v : Int32) : Option bh_S := if bh_K σ a = c ∧ (v = 0 ∨ v = 1) then some (bh_setI σ c a k v) else none
def bh_wrR (σ : bh_S) (c a k : Nat) (v : Option Nat) : Option bh_S := if bh_K σ a = c then some (bh_setR σ c a k v) else none
def bh_len (σ : bh_S) (c a : Nat) : Option Int32 := if bh_K σ a = c then some (Int32.ofNat (bh_L σ a)) else none
def bh_ldI (σ : bh_S) (c a : Nat) (i : Int32) : Option Int32 := if bh_K σ a = c ∧ ¬ (i < 0 ∨ bh_L σ a ≤ i.toNatClampNeg) then some (bh_I σ c a i.toNatClampNeg) else none
def bh_ldR (σ : bh_S) (c a : Nat) (i : Int32) : Option (Option Nat) := if bh_K σ a = c ∧ ¬ (i < 0 ∨ bh_L σ a ≤ i.toNatClampNeg) then some (bh_R σ c a i.toNatClampNeg) else none
def bh_stI (σ : bh_S) (c a : Nat) (i v : Int32) : Option bh_S := if bh_K σ a = c ∧ ¬ (i < 0 ∨ bh_L σ a ≤ i.toNatClampNeg) then some (bh_setI σ c a i.toNatClampNeg v) else none
def bh_stZ (σ : bh_S) (c a : Nat) (i v : Int32) : Option bh_S := if bh_K σ a = c ∧ ¬ (i < 0 ∨ bh_L σ a ≤ i.toNatClampNeg) ∧ (v = 0 ∨ v = 1) then some (bh_setI σ c a i.toNatClampNeg v) else none
/-- into a row of references: null, or an object of a class that may lie there (into Object[]: of vwCl) -/
def bh_mayLie (σ : bh_S) (c : Nat) (v : Option Nat) : Bool := match v with
  | none => true
  | some b => (c == 14 && bh_K σ b == 1) || (c == 15 && bh_K σ b == 2) || (c == 16 && decide (bh_K σ b < 12))
def bh_stR (σ : bh_S) (c a : Nat) (i : Int32) (v : Option Nat) : Option bh_S := if bh_K σ a = c ∧ ¬ (i < 0 ∨ bh_L σ a ≤ i.toNatClampNeg) ∧ bh_mayLie σ c v = true then some (bh_setR σ c a i.toNatClampNeg v) else none
/-- new object: its address, the memory -/
def bh_newO (σ : bh_S) (c N : Nat) : Option (Nat × bh_S) := some (bh_z σ, bh_new σ c N 0)
def bh_newA (σ : bh_S) (c : Nat) (n : Int32) : Option (Nat × bh_S) := if ¬ n < 0 ∧ n.toNatClampNeg ≤ 100000 then some (bh_z σ, bh_new σ c n.toNatClampNeg n.toNatClampNeg) else none
def bh_cst (σ : bh_S) (c : Nat) (o : Option Nat) : Option Unit := match o with
  | none => some ()
  | some a => if bh_K σ a = c then some () else none
def bh_retZ (σ : bh_S) (v : Int32) : Option (Int32 × bh_S) := if v = 0 ∨ v = 1 then some (v, σ) else none
def eI : Int32 → Option Value := fun v => some (.int v)
def eR : Option Nat → Option Value := fun v => some (va_rf v)
def eU : Unit → Option Value := fun _ => none
/-- a row of n places, of class c, whatever it holds -/
def bh_wk (c : ClassId) (n : Nat) (H : Heap) (a : Nat) : Prop := ∃ cell : Cell, H[a]? = some cell ∧ cell.cls = c ∧ cell.slots.size.toInt32 = Int32.ofNat n ∧ cell.vm ≠ .unknown ∧ ∀ k, cell.vm ≠ .statics k
theorem bh_wk.of {c : ClassId} {n : Nat} {H : Heap} {a : Nat} {f : Nat → Value} (h : H[a]? = some (arrV c n f)) : bh_wk c n H a := ⟨_, h, rfl, by rw [arrV_size], (fun h => by cases h), fun _ h => by cases h⟩
theorem bh_wk.kept {c : ClassId} {n : Nat} {H H1 : Heap} {a : Nat} (h : bh_wk c n H a) (hq : H1[a]? = H[a]?) : bh_wk c n H1 a := by
  obtain ⟨cell, h1, h2⟩ := h
  exact ⟨cell, by rw [hq]; exact h1, h2⟩
/-- a cell as it lies in the heap -/
def bh_at (D : va_G) (cy : Nat → ClassId) (σ : bh_S) (H : Heap) (a : Nat) : Prop :=
  (∀ r : vw_C, vwCl[bh_K σ a]? = some r → t_OB a (D.1 (bh_K σ a)) r.2.2 (D.2 (bh_K σ a)) H (bh_V σ (bh_K σ a) a)) ∧
  (bh_K σ a = 12 ∨ bh_K σ a = 13 → H[a]? = some (arrV (cy (bh_K σ a)) (bh_L σ a) (fun j => .int (bh_I σ (bh_K σ a) a j)))) ∧
  (14 ≤ bh_K σ a → bh_L σ a ≠ 0 → H[a]? = some (arrV (cy (bh_K σ a)) (bh_L σ a) (fun j => va_rf (bh_R σ (bh_K σ a) a j)))) ∧
  (14 ≤ bh_K σ a → bh_wk (cy (bh_K σ a)) (bh_L σ a) H a)
def bh_Rep (D : va_G) (cy : Nat → ClassId) (base e0 : Nat) (σ : bh_S) (H : Heap) : Prop :=
  H.size = bh_z σ ∧ bh_e σ = e0 ∧ ∀ a : Nat, bh_K σ a < 18 → (base ≤ a ∨ (bh_L σ a = 0 ∧ 12 ≤ bh_K σ a)) ∧ bh_at D cy σ H a
def bh_tys (cy : Nat → ClassId) : List (ClassId × FieldType) := [(cy 12, .int), (cy 13, .boolean), (cy 14, .object "BeetHouse$Farmer"), (cy 15, .object "BeetHouse$Gang"), (cy 16, .object "java/lang/Object"), (cy 17, .array .int)]
def bh_nest : List Cond := [.fieldLinkNest "BeetHouse" 160 "BeetHouse$Weather" "warmths" "[I" "BeetHouse", .fieldLinkNest "BeetHouse" 153 "BeetHouse$Weather" "numbers" "[I" "BeetHouse", .fieldLinkNest "BeetHouse$Mill" 25 "BeetHouse$Yard" "loads" "Ljava/util/ArrayList;" "BeetHouse", .fieldLinkNest "BeetHouse" 240 "BeetHouse$Yard" "loads" "Ljava/util/ArrayList;" "BeetHouse", .fieldLinkNest "BeetHouse" 149 "BeetHouse$Yard" "room" "I" "BeetHouse", .fieldLinkNest "BeetHouse$Mill" 65 "BeetHouse$Yard" "roots" "I" "BeetHouse", .fieldLinkNest "BeetHouse" 251 "BeetHouse$Yard" "roots" "I" "BeetHouse", .fieldLinkNest "BeetHouse" 191 "BeetHouse$Yard" "came" "I" "BeetHouse", .fieldLinkNest "BeetHouse" 152 "BeetHouse$Mill" "rate" "I" "BeetHouse", .fieldLinkNest "BeetHouse" 184 "BeetHouse$Mill" "eaten" "I" "BeetHouse", .fieldLinkNest "BeetHouse" 252 "BeetHouse$Mill" "sugarWon" "I" "BeetHouse", .fieldLinkNest "BeetHouse" 255 "BeetHouse$Mill" "stood" "I" "BeetHouse", .fieldLinkNest "BeetHouse" 258 "BeetHouse$Mill" "lack" "I" "BeetHouse", .fieldLinkNest "BeetHouse" 197 "BeetHouse$Farmer" "number" "I" "BeetHouse", .fieldLinkNest "BeetHouse" 90 "BeetHouse$Farmer" "share" "I" "BeetHouse", .fieldLinkNest "BeetHouse" 248 "BeetHouse$Farmer" "coins" "I" "BeetHouse", .fieldLinkNest "BeetHouse$Yard" 44 "BeetHouse$Farmer" "came" "I" "BeetHouse", .fieldLinkNest "BeetHouse" 110 "BeetHouse$Gang" "rate" "I" "BeetHouse", .fieldLinkNest "BeetHouse" 113 "BeetHouse$Gang" "plot" "LBeetHouse$Plot;" "BeetHouse", .fieldLinkNest "BeetHouse$Orders" 36 "BeetHouse$Plot" "number" "I" "BeetHouse", .fieldLinkNest "BeetHouse" 146 "BeetHouse$Plot" "number" "I" "BeetHouse", .fieldLinkNest "BeetHouse$Yard" 40 "BeetHouse$Plot" "farmer" "LBeetHouse$Farmer;" "BeetHouse", .fieldLinkNest "BeetHouse" 223 "BeetHouse$Plot" "farmer" "LBeetHouse$Farmer;" "BeetHouse", .fieldLinkNest "BeetHouse$Lorry" 37 "BeetHouse$Plot" "way" "I" "BeetHouse", .fieldLinkNest "BeetHouse" 207 "BeetHouse$Plot" "ground" "I" "BeetHouse", .fieldLinkNest "BeetHouse$Orders" 45 "BeetHouse$Plot" "roots" "I" "BeetHouse", .fieldLinkNest "BeetHouse$Lorry" 50 "BeetHouse$Plot" "roots" "I" "BeetHouse", .fieldLinkNest "BeetHouse" 163 "BeetHouse$Plot" "roots" "I" "BeetHouse", .fieldLinkNest "BeetHouse$Orders" 52 "BeetHouse$Plot" "sugar" "I" "BeetHouse", .fieldLinkNest "BeetHouse" 210 "BeetHouse$Plot" "sugar" "I" "BeetHouse", .fieldLinkNest "BeetHouse" 169 "BeetHouse$Plot" "covered" "Z" "BeetHouse", .fieldLinkNest "BeetHouse" 166 "BeetHouse$Plot" "frozen" "Z" "BeetHouse", .fieldLinkNest "BeetHouse" 213 "BeetHouse$Plot" "thawedSince" "I" "BeetHouse", .fieldLinkNest "BeetHouse" 216 "BeetHouse$Plot" "wasted" "I" "BeetHouse", .fieldLinkNest "BeetHouse" 219 "BeetHouse$Plot" "spoiled" "I" "BeetHouse", .fieldLinkNest "BeetHouse$Yard" 37 "BeetHouse$Plot" "came" "I" "BeetHouse", .fieldLinkNest "BeetHouse" 222 "BeetHouse$Plot" "came" "I" "BeetHouse", .fieldLinkNest "BeetHouse" 271 "BeetHouse$Lorry" "capacity" "I" "BeetHouse", .fieldLinkNest "BeetHouse" 124 "BeetHouse$Lorry" "state" "I" "BeetHouse", .fieldLinkNest "BeetHouse" 231 "BeetHouse$Lorry" "plot" "LBeetHouse$Plot;" "BeetHouse", .fieldLinkNest "BeetHouse" 131 "BeetHouse$Lorry" "there" "I" "BeetHouse", .fieldLinkNest "BeetHouse" 232 "BeetHouse$Lorry" "roots" "I" "BeetHouse", .fieldLinkNest "BeetHouse" 233 "BeetHouse$Lorry" "sugar" "I" "BeetHouse", .fieldLinkNest "BeetHouse" 234 "BeetHouse$Lorry" "drowned" "I" "BeetHouse", .fieldLinkNest "BeetHouse" 237 "BeetHouse$Lorry" "brought" "I" "BeetHouse", .fieldLinkNest "BeetHouse$Mill" 46 "BeetHouse$Load" "plot" "LBeetHouse$Plot;" "BeetHouse", .fieldLinkNest "BeetHouse$Yard" 33 "BeetHouse$Load" "plot" "LBeetHouse$Plot;" "BeetHouse", .fieldLinkNest "BeetHouse" 245 "BeetHouse$Load" "plot" "LBeetHouse$Plot;" "BeetHouse", .fieldLinkNest "BeetHouse$Mill" 43 "BeetHouse$Load" "roots" "I" "BeetHouse", .fieldLinkNest "BeetHouse$Yard" 30 "BeetHouse$Load" "roots" "I" "BeetHouse", .fieldLinkNest "BeetHouse" 246 "BeetHouse$Load" "roots" "I" "BeetHouse", .fieldLinkNest "BeetHouse$Mill" 66 "BeetHouse$Load" "sugar" "I" "BeetHouse", .fieldLinkNest "BeetHouse" 247 "BeetHouse$Load" "sugar" "I" "BeetHouse", .methodLinkNest "BeetHouse" 33 ⟨"BeetHouse$Weather", "<init>", "()V"⟩ "BeetHouse", .methodLinkNest "BeetHouse" 40 ⟨"BeetHouse$Yard", "<init>", "()V"⟩ "BeetHouse", .methodLinkNest "BeetHouse" 47 ⟨"BeetHouse$Mill", "<init>", "()V"⟩ "BeetHouse", .methodLinkNest "BeetHouse" 54 ⟨"BeetHouse$Orders", "<init>", "()V"⟩ "BeetHouse", .methodLinkNest "BeetHouse" 74 ⟨"BeetHouse$Farmer", "<init>", "(I)V"⟩ "BeetHouse", .methodLinkNest "BeetHouse" 77 ⟨"BeetHouse$Gang", "<init>", "()V"⟩ "BeetHouse", .methodLinkNest "BeetHouse" 99 ⟨"BeetHouse$Plot", "<init>", "(ILBeetHouse$Farmer;IIIZ)V"⟩ "BeetHouse", .methodLinkNest "BeetHouse" 119 ⟨"BeetHouse$Lorry", "<init>", "(I)V"⟩ "BeetHouse", .methodLinkNest "BeetHouse" 127 ⟨"BeetHouse$Lorry", "setOut", "(LBeetHouse$Plot;I)V"⟩ "BeetHouse", .methodLinkNest "BeetHouse" 267 ⟨"BeetHouse$Lorry", "isOutTo", "(LBeetHouse$Plot;)Z"⟩ "BeetHouse", .methodLinkNest "BeetHouse" 277 ⟨"BeetHouse$Farmer", "comesBefore", "(LBeetHouse$Farmer;I)Z"⟩ "BeetHouse", .methodLinkNest "BeetHouse" 176 ⟨"BeetHouse$Plot", "freeze", "()Z"⟩ "BeetHouse", .methodLinkNest "BeetHouse" 180 ⟨"BeetHouse$Plot", "thaw", "(I)Z"⟩ "BeetHouse", .methodLinkNest "BeetHouse" 300 ⟨"BeetHouse$Plot", "lift", "(I)V"⟩ "BeetHouse", .methodLinkNest "BeetHouse" 284 ⟨"BeetHouse$Lorry", "arrive", "(I)V"⟩ "BeetHouse", .methodLinkNest "BeetHouse$Lorry" 57 ⟨"BeetHouse$Plot", "sugarIn", "(I)I"⟩ "BeetHouse", .methodLinkNest "BeetHouse$Lorry" 61 ⟨"BeetHouse$Plot", "lose", "(II)V"⟩ "BeetHouse", .methodLinkNest "BeetHouse$Lorry" 46 ⟨"BeetHouse$Plot", "wayBack", "()I"⟩ "BeetHouse", .methodLinkNest "BeetHouse" 303 ⟨"BeetHouse$Yard", "hasRoomFor", "(I)Z"⟩ "BeetHouse", .methodLinkNest "BeetHouse" 310 ⟨"BeetHouse$Load", "<init>", "(LBeetHouse$Plot;II)V"⟩ "BeetHouse", .methodLinkNest "BeetHouse" 313 ⟨"BeetHouse$Yard", "take", "(LBeetHouse$Load;)V"⟩ "BeetHouse", .methodLinkNest "BeetHouse" 320 ⟨"BeetHouse$Lorry", "comeHome", "()V"⟩ "BeetHouse", .methodLinkNest "BeetHouse" 290 ⟨"BeetHouse$Mill", "grind", "(LBeetHouse$Yard;)V"⟩ "BeetHouse", .methodLinkNest "BeetHouse$Mill" 50 ⟨"BeetHouse$Plot", "rootsFor", "(I)I"⟩ "BeetHouse", .methodLinkNest "BeetHouse$Mill" 62 ⟨"BeetHouse$Plot", "unitsFor", "(I)I"⟩ "BeetHouse", .methodLinkNest "BeetHouse" 329 ⟨"BeetHouse$Weather", "numberOf", "(I)I"⟩ "BeetHouse", .methodLinkNest "BeetHouse" 332 ⟨"BeetHouse$Plot", "waste", "(I)V"⟩ "BeetHouse", .methodLinkNest "BeetHouse" 297 ⟨"BeetHouse$Plot", "spoil", "(I)V"⟩ "BeetHouse", .methodLinkNest "BeetHouse" 194 ⟨"BeetHouse$Farmer", "claim", "(I)I"⟩ "BeetHouse", .methodLinkNest "BeetHouse" 335 ⟨"BeetHouse$Orders", "clear", "(I)V"⟩ "BeetHouse", .methodLinkNest "BeetHouse" 338 ⟨"BeetHouse$Orders", "add", "(LBeetHouse$Plot;ILBeetHouse$Weather;)Z"⟩ "BeetHouse", .methodLinkNest "BeetHouse$Orders" 55 ⟨"BeetHouse$Weather", "numberOf", "(I)I"⟩ "BeetHouse", .methodLinkNest "BeetHouse$Orders" 60 ⟨"BeetHouse$Plot", "wasteOf", "(II)I"⟩ "BeetHouse", .methodLinkNest "BeetHouse$Orders" 48 ⟨"BeetHouse$Plot", "unitsFor", "(I)I"⟩ "BeetHouse", .methodLinkNest "BeetHouse" 341 ⟨"BeetHouse$Orders", "search", "()V"⟩ "BeetHouse", .methodLinkNest "BeetHouse" 201 ⟨"BeetHouse$Orders", "leastWaste", "()I"⟩ "BeetHouse", .methodLinkNest "BeetHouse" 204 ⟨"BeetHouse$Orders", "plotAtPlace", "(I)I"⟩ "BeetHouse", .castable "BeetHouse$Farmer" "java/lang/Object", .castable "BeetHouse$Gang" "java/lang/Object", .castable "BeetHouse" "java/lang/Object", .castable "java/util/ArrayList" "java/lang/Object", .castable "BeetHouse$Weather" "java/lang/Object", .castable "BeetHouse$Yard" "java/lang/Object", .castable "BeetHouse$Mill" "java/lang/Object", .castable "BeetHouse$Orders" "java/lang/Object", .castable "BeetHouseModel" "java/lang/Object", .castable "BeetHouse$Plot" "java/lang/Object", .castable "BeetHouse$Lorry" "java/lang/Object", .castable "BeetHouse$Load" "java/lang/Object", .castable "[LBeetHouse$Farmer;" "java/lang/Object", .castable "[LBeetHouse$Gang;" "java/lang/Object", .castable "[I" "java/lang/Object", .castable "[[I" "java/lang/Object", .castable "[Ljava/lang/Object;" "java/lang/Object", .castable "[Z" "java/lang/Object"]
def bh_isN (w : Cond) : Bool := match w with
  | .fieldLinkNest _ _ _ _ _ _ => true
  | .methodLinkNest _ _ _ _ => true
  | .castable _ _ => true
  | _ => false
def bh_AOA (U : State) : Prop := (Cond.arrayOver (.array .int)).before #[] U = true
theorem bh_AOA.moved {u U : State} (hvm : u.vm.Alike U.vm) (h : bh_AOA u) : bh_AOA U := by
  obtain ⟨comp, c, k, h1, h2, h3, h4, h5⟩ := arrayOverA_spec h
  obtain ⟨k', hk', he⟩ := hvm.2.2 _ _ h3
  have hi : (U.vm.classes.findIdx? fun (x : Class) => match x.kind with | .array component _ => component == comp | _ => false) = some c := by
    rw [hvm.findIdx?_eq _ (fun _ => rfl)]
    exact h2
  have hkind : k'.kind = .array comp (.array .int) := by rw [he]; exact h4
  have f1 : U.vm.findClass (FieldType.array .int).toString = some comp := by rw [hvm.findClass]; exact h1
  have f2 : U.vm.findClass ("[" ++ (FieldType.array .int).toString) = some c := by rw [hvm.findClass]; exact h5
  unfold bh_AOA Cond.before Cond.holds
  simp only [Cond.value]
  rw [f1, Option.bind_some]
  refine (congrArg (fun o : Option Nat => (o.bind (fun c => (U.vm.classes[c]?).map fun (k : Class) => match k.kind with | .array _ ty => decide (ty = FieldType.array .int) && decide (U.vm.findClass ("[" ++ (FieldType.array .int).toString) = some c) | _ => false) == some true)) hi).trans ?_
  simp [hk', hkind, f2]
/-- what holds of the tables at a method's start, and of the one static -/
def bh_Env (D : va_G) (cy : Nat → ClassId) (base e0 : Nat) (U : State) : Prop :=
  va_K D vwCl (bh_tys cy) U ∧ (∀ w ∈ bh_nest, va_Nw w U) ∧ base ≤ U.heap.size ∧ (va_AO "BeetHouse$Farmer" U ∧ va_AO "BeetHouse$Gang" U ∧ va_AO "java/lang/Object" U) ∧
  va_Z "java/util/ArrayList" "DEFAULTCAPACITY_EMPTY_ELEMENTDATA" "[Ljava/lang/Object;" (.ref e0) (fun q => base ≤ q) U U.heap ∧ va_Mi "[Ljava/lang/Object;" (cy 18) U ∧ va_Dc U ∧ bh_AOA U
theorem bh_nestN : ∀ w ∈ bh_nest, bh_isN w = true := by decide +kernel
theorem bh_Nw_warm {w : Cond} (hw : bh_isN w = true) {s U : State} (hW : s.WarmedH U.vm) (h : va_Nw w s) : va_Nw w U := by
  cases w <;> first | exact (Bool.false_ne_true hw).elim | exact va_Nw.warmF hW h | exact va_Nw.warmM hW h | exact va_Nw.warmC hW h
abbrev bh_X : Type := Launch × Program × Env × State × MethodId × Array Value × List Frame × Method × Code × va_G × (Nat → ClassId) × Nat × Nat × Nat × Nat
def bh_Rm (fr lo k n : Nat) : Room := { frames := fr, cells := k, slots := n, locals := lo }
def bh_Q (D : va_G) (cy : Nat → ClassId) (base e0 : Nat) (r : Option Value) (σ' : bh_S) : Array Value → State → Outcome → State → Prop := fun _ st oc t => oc = .returned r ∧ bh_Rep D cy base e0 σ' t.heap ∧ va_F (fun q => base ≤ q) st t
def bh_C (y : MethodName) (cc : ByteArray) (ws : List Cond) (ret : Option FieldType) (NL : Nat) (X : bh_X) : Prop := match X with
  | (_, p, _, s, m, args, _, meth, c, D, cy, base, e0, _, _) => p.tables.exec = Jvm.exec ∧ c.code = cc ∧ c.maxLocals = NL ∧ s.vm.findClass y.cls = some m.cls ∧ (∀ w ∈ ws, w.before args s = true) ∧ meth.sig.returnType = ret ∧ meth.locks = false ∧ (y.name = "<init>" → meth.name = "<init>") ∧ bh_Env D cy base e0 s
def bh_J {α : Type} (em : α → Option Value) (y : MethodName) (cc : ByteArray) (ws : List Cond) (ret : Option FieldType) (NL FR LO : Nat) (X : bh_X) (σ : bh_S) (pc : Nat) (lv : List (Nat × Value)) (st : List Value) (res : Option (α × bh_S)) : Prop :=
  ∀ (r : α) (σ' : bh_S), res = some (r, σ') → (bh_z σ ≤ bh_z σ' ∧ bh_n σ ≤ bh_n σ') ∧ (bh_C y cc ws ret NL X → match X with
    | (l, p, e, s, m, args, below, meth, c, D, cy, base, e0, z0, n0) => z0 ≤ bh_z σ → n0 ≤ bh_n σ → ∀ (H : Heap) (locs : List Loc) (ls : Array Slot), bh_Rep D cy base e0 σ H → va_S (fun q => base ≤ q) s.heap H locs → lv_has ls NL lv →
      W p l e (bh_Rm FR LO (bh_z σ' - z0) (bh_n σ' - n0)) s m args below meth c H locs (bh_z σ - z0) (bh_n σ - n0) (MQ below (bh_Q D cy base e0 (em r) σ') args s (bh_z σ' - z0) (bh_n σ' - n0) (fun q => base ≤ q)) (F0 m pc ls st))
def bh_MX {α : Type} (em : α → Option Value) (X : bh_X) (y : MethodName) (ws : List Cond) (FR LO : Nat) (av : List Value) (σ : bh_S) (res : Option (α × bh_S)) : Prop :=
  ∀ (r : α) (σ' : bh_S), res = some (r, σ') → (bh_z σ ≤ bh_z σ' ∧ bh_n σ ≤ bh_n σ') ∧ match X with
    | (l, _, _, _, _, _, _, _, _, D, cy, base, e0, _, _) => Met l y ws (bh_Rm FR LO (bh_z σ' - bh_z σ) (bh_n σ' - bh_n σ)) (va_Pc av (fun U => bh_Env D cy base e0 U ∧ bh_Rep D cy base e0 σ U.heap)) (bh_Q D cy base e0 (em r) σ') (bh_z σ' - bh_z σ) (bh_n σ' - bh_n σ) (fun q => base ≤ q)
section BHJ
variable {α : Type} {em : α → Option Value} {y : MethodName} {cc : ByteArray} {ws : List Cond} {ret : Option FieldType} {NL FR LO : Nat} {X : bh_X} {σ : bh_S} {pc : Nat} {lv : List (Nat × Value)} {st : List Value} {res : Option (α × bh_S)}
theorem bh_enter {ws' : List Cond} {av : List Value} (hy : plainName y.cls = true) (hw : ws = Cond.code y cc NL ret :: ws') (hlen : (lg_sl av).length ≤ NL) (body : ∀ X' : bh_X, bh_J em y cc ws ret NL FR LO X' σ 0 (lv_args 0 av) [] res) : bh_MX em X y ws FR LO av σ res := by
  intro r σ' hres
  refine ⟨(body X r σ' hres).1, ?_⟩
  obtain ⟨l, p0, e0', s0, m0, args0, below0, meth0, c0, D, cy, base, e0, z0, n0⟩ := X
  refine Met.ofW (cc := cc) (maxL := NL) (ret := ret) hy hw ?_
  intro p e s m args below meth c s₁ B hml hv
  obtain ⟨rfl, hE, hR⟩ := hv
  have h := (body (l, p, e, s, m, av.toArray, below, meth, c, D, cy, base, e0, bh_z σ, bh_n σ) r σ' hres).2 ⟨B.exec, B.bytes, hml, findClass_of_methodNamed B.named, atoms_spec (ws := ws) B.pre, B.returns, B.notSynchronized, (fun h => (name_of_methodNamed B.named B.method).1.trans h), hE⟩ (Nat.le_refl _) (Nat.le_refl _) s.heap [] _ hR va_S.rf (lv_entry av hlen)
  rw [Nat.sub_self, Nat.sub_self] at h
  rw [lg_entry_eq]
  exact h
theorem bj_none : bh_J em y cc ws ret NL FR LO X σ pc lv st (none : Option (α × bh_S)) := fun _ _ h => by cases h
theorem bj_sub {lv' : List (Nat × Value)} (ks : List Nat) (h : lv_pick lv ks = lv') (k : bh_J em y cc ws ret NL FR LO X σ pc lv' st res) : bh_J em y cc ws ret NL FR LO X σ pc lv st res := by
  intro r σ' hres
  obtain ⟨hm, hk⟩ := k r σ' hres
  refine ⟨hm, fun hC => ?_⟩
  obtain ⟨l, p, e, s, m, args, below, meth, c, D, cy, base, e0, z0, n0⟩ := X
  intro h0 h1 H locs ls hR hS hl
  exact hk hC h0 h1 H locs ls hR hS (lv_sub hl ks h)
theorem bj_ite {q : Prop} [Decidable q] {A B : Option (α × bh_S)} (ht : q → bh_J em y cc ws ret NL FR LO X σ pc lv st A) (hf : ¬ q → bh_J em y cc ws ret NL FR LO X σ pc lv st B) : bh_J em y cc ws ret NL FR LO X σ pc lv st (if q then A else B) := by
  by_cases h : q
  · rw [if_pos h]; exact ht h
  · rw [if_neg h]; exact hf h
/-- not null -/
theorem bj_nn {o : Option Nat} {f : Nat → Option (α × bh_S)} (k : ∀ a : Nat, o = some a → bh_J em y cc ws ret NL FR LO X σ pc lv st (f a)) : bh_J em y cc ws ret NL FR LO X σ pc lv st (o.bind f) := by
  cases o with
  | none => exact bj_none
  | some a => exact k a rfl
/-- an op of the memory's alone -/
theorem bj_op {β : Type} {o : Option β} {f : β → Option (α × bh_S)} (k : ∀ v : β, o = some v → bh_J em y cc ws ret NL FR LO X σ pc lv st (f v)) : bh_J em y cc ws ret NL FR LO X σ pc lv st (o.bind f) := by
  cases o with
  | none => exact bj_none
  | some a => exact k a rfl

theorem bj_iconst {n : Int} {v : Int32} (hdg : decode cc pc = .ok (.iconst n, 1)) (hv : Int32.ofInt n = v) (k : bh_J em y cc ws ret NL FR LO X σ (pc + 1) lv (.int v :: st) res) : bh_J em y cc ws ret NL FR LO X σ pc lv st res := by
  intro r σ' hres
  obtain ⟨hm, hk⟩ := k r σ' hres
  refine ⟨hm, fun hC => ?_⟩
  have hk := hk hC
  obtain ⟨l, p, e, s, m, args, below, meth, c, D, cy, base, e0, z0, n0⟩ := X
  obtain ⟨hx, hb, hml, hown, hts, hrt, hlk, hnm, hE⟩ := hC
  intro h0 h1 H locs ls hR hS hl
  exact lv_iconst hx hb hdg hv (hk h0 h1 H locs ls hR hS hl)
theorem bj_bipush {n : Int} {v : Int32} (hdg : decode cc pc = .ok (.bipush n, 2)) (hv : (Int8.ofInt n).toInt32 = v) (k : bh_J em y cc ws ret NL FR LO X σ (pc + 2) lv (.int v :: st) res) : bh_J em y cc ws ret NL FR LO X σ pc lv st res := by
  intro r σ' hres
  obtain ⟨hm, hk⟩ := k r σ' hres
  refine ⟨hm, fun hC => ?_⟩
  have hk := hk hC
  obtain ⟨l, p, e, s, m, args, below, meth, c, D, cy, base, e0, z0, n0⟩ := X
  obtain ⟨hx, hb, hml, hown, hts, hrt, hlk, hnm, hE⟩ := hC
  intro h0 h1 H locs ls hR hS hl
  exact lv_bipush hx hb hdg hv (hk h0 h1 H locs ls hR hS hl)
theorem bj_sipush {n : Int} {v : Int32} (hdg : decode cc pc = .ok (.sipush n, 3)) (hv : (Int16.ofInt n).toInt32 = v) (k : bh_J em y cc ws ret NL FR LO X σ (pc + 3) lv (.int v :: st) res) : bh_J em y cc ws ret NL FR LO X σ pc lv st res := by
  intro r σ' hres
  obtain ⟨hm, hk⟩ := k r σ' hres
  refine ⟨hm, fun hC => ?_⟩
  have hk := hk hC
  obtain ⟨l, p, e, s, m, args, below, meth, c, D, cy, base, e0, z0, n0⟩ := X
  obtain ⟨hx, hb, hml, hown, hts, hrt, hlk, hnm, hE⟩ := hC
  intro h0 h1 H locs ls hR hS hl
  exact lv_sipush hx hb hdg hv (hk h0 h1 H locs ls hR hS hl)
theorem bj_null  (hdg : decode cc pc = .ok (.aconst_null, 1)) (k : bh_J em y cc ws ret NL FR LO X σ (pc + 1) lv (.null :: st) res) : bh_J em y cc ws ret NL FR LO X σ pc lv st res := by
  intro r σ' hres
  obtain ⟨hm, hk⟩ := k r σ' hres
  refine ⟨hm, fun hC => ?_⟩
  have hk := hk hC
  obtain ⟨l, p, e, s, m, args, below, meth, c, D, cy, base, e0, z0, n0⟩ := X
  obtain ⟨hx, hb, hml, hown, hts, hrt, hlk, hnm, hE⟩ := hC
  intro h0 h1 H locs ls hR hS hl
  exact lv_null hx hb hdg (hk h0 h1 H locs ls hR hS hl)
theorem bj_ldc {index : Nat} {v : Int32} (hdg : decode cc pc = .ok (.ldc index, 2)) (hw : Cond.constant y.cls index v ∈ ws) (k : bh_J em y cc ws ret NL FR LO X σ (pc + 2) lv (.int v :: st) res) : bh_J em y cc ws ret NL FR LO X σ pc lv st res := by
  intro r σ' hres
  obtain ⟨hm, hk⟩ := k r σ' hres
  refine ⟨hm, fun hC => ?_⟩
  have hk := hk hC
  obtain ⟨l, p, e, s, m, args, below, meth, c, D, cy, base, e0, z0, n0⟩ := X
  obtain ⟨hx, hb, hml, hown, hts, hrt, hlk, hnm, hE⟩ := hC
  intro h0 h1 H locs ls hR hS hl
  exact lv_ldc hx hb hown (hts _ hw) hdg (hk h0 h1 H locs ls hR hS hl)
theorem bj_ldc2 {index : Nat} {v : Int64} (hdg : decode cc pc = .ok (.ldc2_w index, 3)) (hw : Cond.constantLong y.cls index v ∈ ws) (k : bh_J em y cc ws ret NL FR LO X σ (pc + 3) lv (.long v :: st) res) : bh_J em y cc ws ret NL FR LO X σ pc lv st res := by
  intro r σ' hres
  obtain ⟨hm, hk⟩ := k r σ' hres
  refine ⟨hm, fun hC => ?_⟩
  have hk := hk hC
  obtain ⟨l, p, e, s, m, args, below, meth, c, D, cy, base, e0, z0, n0⟩ := X
  obtain ⟨hx, hb, hml, hown, hts, hrt, hlk, hnm, hE⟩ := hC
  intro h0 h1 H locs ls hR hS hl
  exact lv_ldc2 hx hb hown (hts _ hw) hdg (hk h0 h1 H locs ls hR hS hl)
theorem bj_iload_n {k0 : Fin 4} {i : Nat} {x : Int32} (hdg : decode cc pc = .ok (.iload_n k0, 1)) (hi : (k0 : Nat) = i) (j : Nat) (hj : lv[j]? = some (i, .int x)) (k : bh_J em y cc ws ret NL FR LO X σ (pc + 1) lv (.int x :: st) res) : bh_J em y cc ws ret NL FR LO X σ pc lv st res := by
  intro r σ' hres
  obtain ⟨hm, hk⟩ := k r σ' hres
  refine ⟨hm, fun hC => ?_⟩
  have hk := hk hC
  obtain ⟨l, p, e, s, m, args, below, meth, c, D, cy, base, e0, z0, n0⟩ := X
  obtain ⟨hx, hb, hml, hown, hts, hrt, hlk, hnm, hE⟩ := hC
  intro h0 h1 H locs ls hR hS hl
  exact lv_iload_n hx hb hdg hi (lv_at hl j hj) (hk h0 h1 H locs ls hR hS hl)
theorem bj_iload {i : Nat} {x : Int32} (hdg : decode cc pc = .ok (.iload i, 2)) (j : Nat) (hj : lv[j]? = some (i, .int x)) (k : bh_J em y cc ws ret NL FR LO X σ (pc + 2) lv (.int x :: st) res) : bh_J em y cc ws ret NL FR LO X σ pc lv st res := by
  intro r σ' hres
  obtain ⟨hm, hk⟩ := k r σ' hres
  refine ⟨hm, fun hC => ?_⟩
  have hk := hk hC
  obtain ⟨l, p, e, s, m, args, below, meth, c, D, cy, base, e0, z0, n0⟩ := X
  obtain ⟨hx, hb, hml, hown, hts, hrt, hlk, hnm, hE⟩ := hC
  intro h0 h1 H locs ls hR hS hl
  exact lv_iload hx hb hdg (lv_at hl j hj) (hk h0 h1 H locs ls hR hS hl)
theorem bj_aload_n {k0 : Fin 4} {i : Nat} {o : Option Nat} (hdg : decode cc pc = .ok (.aload_n k0, 1)) (hi : (k0 : Nat) = i) (j : Nat) (hj : lv[j]? = some (i, va_rf o)) (k : bh_J em y cc ws ret NL FR LO X σ (pc + 1) lv (va_rf o :: st) res) : bh_J em y cc ws ret NL FR LO X σ pc lv st res := by
  intro r σ' hres
  obtain ⟨hm, hk⟩ := k r σ' hres
  refine ⟨hm, fun hC => ?_⟩
  have hk := hk hC
  obtain ⟨l, p, e, s, m, args, below, meth, c, D, cy, base, e0, z0, n0⟩ := X
  obtain ⟨hx, hb, hml, hown, hts, hrt, hlk, hnm, hE⟩ := hC
  intro h0 h1 H locs ls hR hS hl
  exact (by cases o with
    | none => exact lv_aload_nN hx hb hdg hi (lv_at hl j hj) (hk h0 h1 H locs ls hR hS hl)
    | some a => exact lv_aload_n hx hb hdg hi (lv_at hl j hj) (hk h0 h1 H locs ls hR hS hl))
theorem bj_aload {i : Nat} {o : Option Nat} (hdg : decode cc pc = .ok (.aload i, 2)) (j : Nat) (hj : lv[j]? = some (i, va_rf o)) (k : bh_J em y cc ws ret NL FR LO X σ (pc + 2) lv (va_rf o :: st) res) : bh_J em y cc ws ret NL FR LO X σ pc lv st res := by
  intro r σ' hres
  obtain ⟨hm, hk⟩ := k r σ' hres
  refine ⟨hm, fun hC => ?_⟩
  have hk := hk hC
  obtain ⟨l, p, e, s, m, args, below, meth, c, D, cy, base, e0, z0, n0⟩ := X
  obtain ⟨hx, hb, hml, hown, hts, hrt, hlk, hnm, hE⟩ := hC
  intro h0 h1 H locs ls hR hS hl
  exact (by cases o with
    | none => exact lv_aloadN hx hb hdg (lv_at hl j hj) (hk h0 h1 H locs ls hR hS hl)
    | some a => exact lv_aload hx hb hdg (lv_at hl j hj) (hk h0 h1 H locs ls hR hS hl))
theorem bj_aload_nS {k0 : Fin 4} {i a : Nat} (hdg : decode cc pc = .ok (.aload_n k0, 1)) (hi : (k0 : Nat) = i) (j : Nat) (hj : lv[j]? = some (i, .ref a)) (k : bh_J em y cc ws ret NL FR LO X σ (pc + 1) lv (.ref a :: st) res) : bh_J em y cc ws ret NL FR LO X σ pc lv st res := by
  intro r σ' hres
  obtain ⟨hm, hk⟩ := k r σ' hres
  refine ⟨hm, fun hC => ?_⟩
  have hk := hk hC
  obtain ⟨l, p, e, s, m, args, below, meth, c, D, cy, base, e0, z0, n0⟩ := X
  obtain ⟨hx, hb, hml, hown, hts, hrt, hlk, hnm, hE⟩ := hC
  intro h0 h1 H locs ls hR hS hl
  exact lv_aload_n hx hb hdg hi (lv_at hl j hj) (hk h0 h1 H locs ls hR hS hl)
theorem bj_aloadS {i a : Nat} (hdg : decode cc pc = .ok (.aload i, 2)) (j : Nat) (hj : lv[j]? = some (i, .ref a)) (k : bh_J em y cc ws ret NL FR LO X σ (pc + 2) lv (.ref a :: st) res) : bh_J em y cc ws ret NL FR LO X σ pc lv st res := by
  intro r σ' hres
  obtain ⟨hm, hk⟩ := k r σ' hres
  refine ⟨hm, fun hC => ?_⟩
  have hk := hk hC
  obtain ⟨l, p, e, s, m, args, below, meth, c, D, cy, base, e0, z0, n0⟩ := X
  obtain ⟨hx, hb, hml, hown, hts, hrt, hlk, hnm, hE⟩ := hC
  intro h0 h1 H locs ls hR hS hl
  exact lv_aload hx hb hdg (lv_at hl j hj) (hk h0 h1 H locs ls hR hS hl)
theorem bj_istore_n {lv' : List (Nat × Value)} {k0 : Fin 4} {i : Nat} {x : Int32} (hdg : decode cc pc = .ok (.istore_n k0, 1)) (hi : (k0 : Nat) = i) (hn : i < NL) (he : (i, Value.int x) :: lv.filter (fun q => !(q.1 == i) && !(q.1 + 1 == i && q.2.category == 2)) = lv') (k : bh_J em y cc ws ret NL FR LO X σ (pc + 1) lv' st res) : bh_J em y cc ws ret NL FR LO X σ pc lv (Value.int x :: st) res := by
  intro r σ' hres
  obtain ⟨hm, hk⟩ := k r σ' hres
  refine ⟨hm, fun hC => ?_⟩
  have hk := hk hC
  obtain ⟨l, p, e, s, m, args, below, meth, c, D, cy, base, e0, z0, n0⟩ := X
  obtain ⟨hx, hb, hml, hown, hts, hrt, hlk, hnm, hE⟩ := hC
  intro h0 h1 H locs ls hR hS hl
  exact lv_istore_n hx hb hdg hi hl hn he (fun ls' hl' => hk h0 h1 H locs ls' hR hS hl')
theorem bj_istore {lv' : List (Nat × Value)} {i : Nat} {x : Int32} (hdg : decode cc pc = .ok (.istore i, 2)) (hn : i < NL) (he : (i, Value.int x) :: lv.filter (fun q => !(q.1 == i) && !(q.1 + 1 == i && q.2.category == 2)) = lv') (k : bh_J em y cc ws ret NL FR LO X σ (pc + 2) lv' st res) : bh_J em y cc ws ret NL FR LO X σ pc lv (Value.int x :: st) res := by
  intro r σ' hres
  obtain ⟨hm, hk⟩ := k r σ' hres
  refine ⟨hm, fun hC => ?_⟩
  have hk := hk hC
  obtain ⟨l, p, e, s, m, args, below, meth, c, D, cy, base, e0, z0, n0⟩ := X
  obtain ⟨hx, hb, hml, hown, hts, hrt, hlk, hnm, hE⟩ := hC
  intro h0 h1 H locs ls hR hS hl
  exact lv_istore hx hb hdg hl hn he (fun ls' hl' => hk h0 h1 H locs ls' hR hS hl')
theorem bj_astore_n {lv' : List (Nat × Value)} {k0 : Fin 4} {i : Nat} {o : Option Nat} (hdg : decode cc pc = .ok (.astore_n k0, 1)) (hi : (k0 : Nat) = i) (hn : i < NL) (he : (i, va_rf o) :: lv.filter (fun q => !(q.1 == i) && !(q.1 + 1 == i && q.2.category == 2)) = lv') (k : bh_J em y cc ws ret NL FR LO X σ (pc + 1) lv' st res) : bh_J em y cc ws ret NL FR LO X σ pc lv (va_rf o :: st) res := by
  intro r σ' hres
  obtain ⟨hm, hk⟩ := k r σ' hres
  refine ⟨hm, fun hC => ?_⟩
  have hk := hk hC
  obtain ⟨l, p, e, s, m, args, below, meth, c, D, cy, base, e0, z0, n0⟩ := X
  obtain ⟨hx, hb, hml, hown, hts, hrt, hlk, hnm, hE⟩ := hC
  intro h0 h1 H locs ls hR hS hl
  cases o with
  | none => exact lv_astore_nN hx hb hdg hi hl hn he (fun ls' hl' => hk h0 h1 H locs ls' hR hS hl')
  | some a => exact lv_astore_n hx hb hdg hi hl hn he (fun ls' hl' => hk h0 h1 H locs ls' hR hS hl')
theorem bj_astore {lv' : List (Nat × Value)} {i : Nat} {o : Option Nat} (hdg : decode cc pc = .ok (.astore i, 2)) (hn : i < NL) (he : (i, va_rf o) :: lv.filter (fun q => !(q.1 == i) && !(q.1 + 1 == i && q.2.category == 2)) = lv') (k : bh_J em y cc ws ret NL FR LO X σ (pc + 2) lv' st res) : bh_J em y cc ws ret NL FR LO X σ pc lv (va_rf o :: st) res := by
  intro r σ' hres
  obtain ⟨hm, hk⟩ := k r σ' hres
  refine ⟨hm, fun hC => ?_⟩
  have hk := hk hC
  obtain ⟨l, p, e, s, m, args, below, meth, c, D, cy, base, e0, z0, n0⟩ := X
  obtain ⟨hx, hb, hml, hown, hts, hrt, hlk, hnm, hE⟩ := hC
  intro h0 h1 H locs ls hR hS hl
  cases o with
  | none => exact lv_astoreN hx hb hdg hl hn he (fun ls' hl' => hk h0 h1 H locs ls' hR hS hl')
  | some a => exact lv_astore hx hb hdg hl hn he (fun ls' hl' => hk h0 h1 H locs ls' hR hS hl')
theorem bh_c1n : ∀ q ∈ ([] : List (Nat × Value)), q.2.category = 1 := fun _ h => absurd h List.not_mem_nil
theorem bh_c1i {l : List (Nat × Value)} {i : Nat} {x : Int32} (h : ∀ q ∈ l, q.2.category = 1) : ∀ q ∈ ((i, Value.int x) :: l), q.2.category = 1 := List.forall_mem_cons.mpr ⟨rfl, h⟩
theorem bh_c1r {l : List (Nat × Value)} {i x : Nat} (h : ∀ q ∈ l, q.2.category = 1) : ∀ q ∈ ((i, Value.ref x) :: l), q.2.category = 1 := List.forall_mem_cons.mpr ⟨rfl, h⟩
theorem bh_c1o {l : List (Nat × Value)} {i : Nat} {x : Option Nat} (h : ∀ q ∈ l, q.2.category = 1) : ∀ q ∈ ((i, va_rf x) :: l), q.2.category = 1 := List.forall_mem_cons.mpr ⟨by cases x <;> rfl, h⟩
theorem bh_fil {l : List (Nat × Value)} (i : Nat) (h : ∀ q ∈ l, q.2.category = 1) : l.filter (fun q => !(q.1 == i) && !(q.1 + 1 == i && q.2.category == 2)) = l.filter (fun q => !(q.1 == i)) := by
  apply List.filter_congr
  intro q hq
  rw [h q hq]
  simp

theorem bj_istore_nU {lv' : List (Nat × Value)} {k0 : Fin 4} {i : Nat} {x : Int32} (hdg : decode cc pc = .ok (.istore_n k0, 1)) (hi : (k0 : Nat) = i) (hn : i < NL) (hcat : ∀ q ∈ lv, q.2.category = 1) (he : (i, Value.int x) :: lv.filter (fun q => !(q.1 == i)) = lv') (k : bh_J em y cc ws ret NL FR LO X σ (pc + 1) lv' st res) : bh_J em y cc ws ret NL FR LO X σ pc lv (Value.int x :: st) res := bj_istore_n hdg hi hn (by rw [bh_fil i hcat]; exact he) k
theorem bj_istoreU {lv' : List (Nat × Value)} {i : Nat} {x : Int32} (hdg : decode cc pc = .ok (.istore i, 2)) (hn : i < NL) (hcat : ∀ q ∈ lv, q.2.category = 1) (he : (i, Value.int x) :: lv.filter (fun q => !(q.1 == i)) = lv') (k : bh_J em y cc ws ret NL FR LO X σ (pc + 2) lv' st res) : bh_J em y cc ws ret NL FR LO X σ pc lv (Value.int x :: st) res := bj_istore hdg hn (by rw [bh_fil i hcat]; exact he) k
theorem bj_astore_nU {lv' : List (Nat × Value)} {k0 : Fin 4} {i : Nat} {o : Option Nat} (hdg : decode cc pc = .ok (.astore_n k0, 1)) (hi : (k0 : Nat) = i) (hn : i < NL) (hcat : ∀ q ∈ lv, q.2.category = 1) (he : (i, va_rf o) :: lv.filter (fun q => !(q.1 == i)) = lv') (k : bh_J em y cc ws ret NL FR LO X σ (pc + 1) lv' st res) : bh_J em y cc ws ret NL FR LO X σ pc lv (va_rf o :: st) res := bj_astore_n hdg hi hn (by rw [bh_fil i hcat]; exact he) k
theorem bj_astoreU {lv' : List (Nat × Value)} {i : Nat} {o : Option Nat} (hdg : decode cc pc = .ok (.astore i, 2)) (hn : i < NL) (hcat : ∀ q ∈ lv, q.2.category = 1) (he : (i, va_rf o) :: lv.filter (fun q => !(q.1 == i)) = lv') (k : bh_J em y cc ws ret NL FR LO X σ (pc + 2) lv' st res) : bh_J em y cc ws ret NL FR LO X σ pc lv (va_rf o :: st) res := bj_astore hdg hn (by rw [bh_fil i hcat]; exact he) k
theorem bj_iinc {lv' : List (Nat × Value)} {i : Nat} {n : Int} {x v : Int32} (hdg : decode cc pc = .ok (.iinc i n, 3)) (j : Nat) (hj : lv[j]? = some (i, .int x)) (hv : x + Int32.ofInt n = v) (hn : i < NL) (he : (i, Value.int v) :: lv.filter (fun q => !(q.1 == i) && !(q.1 + 1 == i && q.2.category == 2)) = lv') (k : bh_J em y cc ws ret NL FR LO X σ (pc + 3) lv' st res) : bh_J em y cc ws ret NL FR LO X σ pc lv st res := by
  intro r σ' hres
  obtain ⟨hm, hk⟩ := k r σ' hres
  refine ⟨hm, fun hC => ?_⟩
  have hk := hk hC
  obtain ⟨l, p, e, s, m, args, below, meth, c, D, cy, base, e0, z0, n0⟩ := X
  obtain ⟨hx, hb, hml, hown, hts, hrt, hlk, hnm, hE⟩ := hC
  intro h0 h1 H locs ls hR hS hl
  exact lv_iinc hx hb hdg hl hj hv hn he (fun ls' hl' => hk h0 h1 H locs ls' hR hS hl')
theorem bj_iincU {lv' : List (Nat × Value)} {i : Nat} {n : Int} {x v : Int32} (hdg : decode cc pc = .ok (.iinc i n, 3)) (j : Nat) (hj : lv[j]? = some (i, .int x)) (hv : x + Int32.ofInt n = v) (hn : i < NL) (hcat : ∀ q ∈ lv, q.2.category = 1) (he : (i, Value.int v) :: lv.filter (fun q => !(q.1 == i)) = lv') (k : bh_J em y cc ws ret NL FR LO X σ (pc + 3) lv' st res) : bh_J em y cc ws ret NL FR LO X σ pc lv st res := bj_iinc hdg j hj hv hn (by rw [bh_fil i hcat]; exact he) k
theorem bj_iadd {x y0 : Int32} (hdg : decode cc pc = .ok (.iadd, 1)) (k : bh_J em y cc ws ret NL FR LO X σ (pc + 1) lv (.int (x + y0) :: st) res) : bh_J em y cc ws ret NL FR LO X σ pc lv (.int y0 :: .int x :: st) res := by
  intro r σ' hres
  obtain ⟨hm, hk⟩ := k r σ' hres
  refine ⟨hm, fun hC => ?_⟩
  have hk := hk hC
  obtain ⟨l, p, e, s, m, args, below, meth, c, D, cy, base, e0, z0, n0⟩ := X
  obtain ⟨hx, hb, hml, hown, hts, hrt, hlk, hnm, hE⟩ := hC
  intro h0 h1 H locs ls hR hS hl
  exact lv_iadd hx hb hdg (hk h0 h1 H locs ls hR hS hl)
theorem bj_isub {x y0 : Int32} (hdg : decode cc pc = .ok (.isub, 1)) (k : bh_J em y cc ws ret NL FR LO X σ (pc + 1) lv (.int (x - y0) :: st) res) : bh_J em y cc ws ret NL FR LO X σ pc lv (.int y0 :: .int x :: st) res := by
  intro r σ' hres
  obtain ⟨hm, hk⟩ := k r σ' hres
  refine ⟨hm, fun hC => ?_⟩
  have hk := hk hC
  obtain ⟨l, p, e, s, m, args, below, meth, c, D, cy, base, e0, z0, n0⟩ := X
  obtain ⟨hx, hb, hml, hown, hts, hrt, hlk, hnm, hE⟩ := hC
  intro h0 h1 H locs ls hR hS hl
  exact lv_isub hx hb hdg (hk h0 h1 H locs ls hR hS hl)
theorem bj_imul {x y0 : Int32} (hdg : decode cc pc = .ok (.imul, 1)) (k : bh_J em y cc ws ret NL FR LO X σ (pc + 1) lv (.int (x * y0) :: st) res) : bh_J em y cc ws ret NL FR LO X σ pc lv (.int y0 :: .int x :: st) res := by
  intro r σ' hres
  obtain ⟨hm, hk⟩ := k r σ' hres
  refine ⟨hm, fun hC => ?_⟩
  have hk := hk hC
  obtain ⟨l, p, e, s, m, args, below, meth, c, D, cy, base, e0, z0, n0⟩ := X
  obtain ⟨hx, hb, hml, hown, hts, hrt, hlk, hnm, hE⟩ := hC
  intro h0 h1 H locs ls hR hS hl
  exact lv_imul hx hb hdg (hk h0 h1 H locs ls hR hS hl)
theorem bj_iand {x y0 : Int32} (hdg : decode cc pc = .ok (.iand, 1)) (k : bh_J em y cc ws ret NL FR LO X σ (pc + 1) lv (.int (x &&& y0) :: st) res) : bh_J em y cc ws ret NL FR LO X σ pc lv (.int y0 :: .int x :: st) res := by
  intro r σ' hres
  obtain ⟨hm, hk⟩ := k r σ' hres
  refine ⟨hm, fun hC => ?_⟩
  have hk := hk hC
  obtain ⟨l, p, e, s, m, args, below, meth, c, D, cy, base, e0, z0, n0⟩ := X
  obtain ⟨hx, hb, hml, hown, hts, hrt, hlk, hnm, hE⟩ := hC
  intro h0 h1 H locs ls hR hS hl
  exact lv_iand hx hb hdg (hk h0 h1 H locs ls hR hS hl)
theorem bj_ior {x y0 : Int32} (hdg : decode cc pc = .ok (.ior, 1)) (k : bh_J em y cc ws ret NL FR LO X σ (pc + 1) lv (.int (x ||| y0) :: st) res) : bh_J em y cc ws ret NL FR LO X σ pc lv (.int y0 :: .int x :: st) res := by
  intro r σ' hres
  obtain ⟨hm, hk⟩ := k r σ' hres
  refine ⟨hm, fun hC => ?_⟩
  have hk := hk hC
  obtain ⟨l, p, e, s, m, args, below, meth, c, D, cy, base, e0, z0, n0⟩ := X
  obtain ⟨hx, hb, hml, hown, hts, hrt, hlk, hnm, hE⟩ := hC
  intro h0 h1 H locs ls hR hS hl
  exact lv_ior hx hb hdg (hk h0 h1 H locs ls hR hS hl)
theorem bj_ishl {x y0 : Int32} (hdg : decode cc pc = .ok (.ishl, 1)) (k : bh_J em y cc ws ret NL FR LO X σ (pc + 1) lv (.int (x <<< (y0 &&& 31)) :: st) res) : bh_J em y cc ws ret NL FR LO X σ pc lv (.int y0 :: .int x :: st) res := by
  intro r σ' hres
  obtain ⟨hm, hk⟩ := k r σ' hres
  refine ⟨hm, fun hC => ?_⟩
  have hk := hk hC
  obtain ⟨l, p, e, s, m, args, below, meth, c, D, cy, base, e0, z0, n0⟩ := X
  obtain ⟨hx, hb, hml, hown, hts, hrt, hlk, hnm, hE⟩ := hC
  intro h0 h1 H locs ls hR hS hl
  exact lv_ishl hx hb hdg (hk h0 h1 H locs ls hR hS hl)
theorem bj_ishr {x y0 : Int32} (hdg : decode cc pc = .ok (.ishr, 1)) (k : bh_J em y cc ws ret NL FR LO X σ (pc + 1) lv (.int (x >>> (y0 &&& 31)) :: st) res) : bh_J em y cc ws ret NL FR LO X σ pc lv (.int y0 :: .int x :: st) res := by
  intro r σ' hres
  obtain ⟨hm, hk⟩ := k r σ' hres
  refine ⟨hm, fun hC => ?_⟩
  have hk := hk hC
  obtain ⟨l, p, e, s, m, args, below, meth, c, D, cy, base, e0, z0, n0⟩ := X
  obtain ⟨hx, hb, hml, hown, hts, hrt, hlk, hnm, hE⟩ := hC
  intro h0 h1 H locs ls hR hS hl
  exact lv_ishr hx hb hdg (hk h0 h1 H locs ls hR hS hl)
theorem bj_ineg {x : Int32} (hdg : decode cc pc = .ok (.ineg, 1)) (k : bh_J em y cc ws ret NL FR LO X σ (pc + 1) lv (.int (-x) :: st) res) : bh_J em y cc ws ret NL FR LO X σ pc lv (.int x :: st) res := by
  intro r σ' hres
  obtain ⟨hm, hk⟩ := k r σ' hres
  refine ⟨hm, fun hC => ?_⟩
  have hk := hk hC
  obtain ⟨l, p, e, s, m, args, below, meth, c, D, cy, base, e0, z0, n0⟩ := X
  obtain ⟨hx, hb, hml, hown, hts, hrt, hlk, hnm, hE⟩ := hC
  intro h0 h1 H locs ls hR hS hl
  exact lv_ineg hx hb hdg (hk h0 h1 H locs ls hR hS hl)
theorem bj_lmul {x y0 : Int64} (hdg : decode cc pc = .ok (.lmul, 1)) (k : bh_J em y cc ws ret NL FR LO X σ (pc + 1) lv (.long (x * y0) :: st) res) : bh_J em y cc ws ret NL FR LO X σ pc lv (.long y0 :: .long x :: st) res := by
  intro r σ' hres
  obtain ⟨hm, hk⟩ := k r σ' hres
  refine ⟨hm, fun hC => ?_⟩
  have hk := hk hC
  obtain ⟨l, p, e, s, m, args, below, meth, c, D, cy, base, e0, z0, n0⟩ := X
  obtain ⟨hx, hb, hml, hown, hts, hrt, hlk, hnm, hE⟩ := hC
  intro h0 h1 H locs ls hR hS hl
  exact lv_lmul hx hb hdg (hk h0 h1 H locs ls hR hS hl)
theorem bj_i2l {x : Int32} (hdg : decode cc pc = .ok (.i2l, 1)) (k : bh_J em y cc ws ret NL FR LO X σ (pc + 1) lv (.long x.toInt64 :: st) res) : bh_J em y cc ws ret NL FR LO X σ pc lv (.int x :: st) res := by
  intro r σ' hres
  obtain ⟨hm, hk⟩ := k r σ' hres
  refine ⟨hm, fun hC => ?_⟩
  have hk := hk hC
  obtain ⟨l, p, e, s, m, args, below, meth, c, D, cy, base, e0, z0, n0⟩ := X
  obtain ⟨hx, hb, hml, hown, hts, hrt, hlk, hnm, hE⟩ := hC
  intro h0 h1 H locs ls hR hS hl
  exact lv_i2l hx hb hdg rfl (hk h0 h1 H locs ls hR hS hl)
theorem bj_l2i {x : Int64} (hdg : decode cc pc = .ok (.l2i, 1)) (k : bh_J em y cc ws ret NL FR LO X σ (pc + 1) lv (.int x.toInt32 :: st) res) : bh_J em y cc ws ret NL FR LO X σ pc lv (.long x :: st) res := by
  intro r σ' hres
  obtain ⟨hm, hk⟩ := k r σ' hres
  refine ⟨hm, fun hC => ?_⟩
  have hk := hk hC
  obtain ⟨l, p, e, s, m, args, below, meth, c, D, cy, base, e0, z0, n0⟩ := X
  obtain ⟨hx, hb, hml, hown, hts, hrt, hlk, hnm, hE⟩ := hC
  intro h0 h1 H locs ls hR hS hl
  exact lv_l2i hx hb hdg rfl (hk h0 h1 H locs ls hR hS hl)
theorem bj_idivC {x y0 : Int32} (hdg : decode cc pc = .ok (.idiv, 1)) (hne : ¬ y0 = 0) (k : bh_J em y cc ws ret NL FR LO X σ (pc + 1) lv (.int (x / y0) :: st) res) : bh_J em y cc ws ret NL FR LO X σ pc lv (.int y0 :: .int x :: st) res := by
  intro r σ' hres
  obtain ⟨hm, hk⟩ := k r σ' hres
  refine ⟨hm, fun hC => ?_⟩
  have hk := hk hC
  obtain ⟨l, p, e, s, m, args, below, meth, c, D, cy, base, e0, z0, n0⟩ := X
  obtain ⟨hx, hb, hml, hown, hts, hrt, hlk, hnm, hE⟩ := hC
  intro h0 h1 H locs ls hR hS hl
  exact lv_idiv hx hb hdg hne (hk h0 h1 H locs ls hR hS hl)
theorem bj_iremC {x y0 : Int32} (hdg : decode cc pc = .ok (.irem, 1)) (hne : ¬ y0 = 0) (k : bh_J em y cc ws ret NL FR LO X σ (pc + 1) lv (.int (x - x / y0 * y0) :: st) res) : bh_J em y cc ws ret NL FR LO X σ pc lv (.int y0 :: .int x :: st) res := by
  intro r σ' hres
  obtain ⟨hm, hk⟩ := k r σ' hres
  refine ⟨hm, fun hC => ?_⟩
  have hk := hk hC
  obtain ⟨l, p, e, s, m, args, below, meth, c, D, cy, base, e0, z0, n0⟩ := X
  obtain ⟨hx, hb, hml, hown, hts, hrt, hlk, hnm, hE⟩ := hC
  intro h0 h1 H locs ls hR hS hl
  exact lv_irem hx hb hdg hne (hk h0 h1 H locs ls hR hS hl)
theorem bj_ldivC {x y0 : Int64} (hdg : decode cc pc = .ok (.ldiv, 1)) (hne : ¬ y0 = 0) (k : bh_J em y cc ws ret NL FR LO X σ (pc + 1) lv (.long (x / y0) :: st) res) : bh_J em y cc ws ret NL FR LO X σ pc lv (.long y0 :: .long x :: st) res := by
  intro r σ' hres
  obtain ⟨hm, hk⟩ := k r σ' hres
  refine ⟨hm, fun hC => ?_⟩
  have hk := hk hC
  obtain ⟨l, p, e, s, m, args, below, meth, c, D, cy, base, e0, z0, n0⟩ := X
  obtain ⟨hx, hb, hml, hown, hts, hrt, hlk, hnm, hE⟩ := hC
  intro h0 h1 H locs ls hR hS hl
  exact lv_ldiv hx hb hdg hne (hk h0 h1 H locs ls hR hS hl)
theorem bj_dup {v : Value} (hdg : decode cc pc = .ok (.dup, 1)) (hv : v.category = 1) (k : bh_J em y cc ws ret NL FR LO X σ (pc + 1) lv (v :: v :: st) res) : bh_J em y cc ws ret NL FR LO X σ pc lv (v :: st) res := by
  intro r σ' hres
  obtain ⟨hm, hk⟩ := k r σ' hres
  refine ⟨hm, fun hC => ?_⟩
  have hk := hk hC
  obtain ⟨l, p, e, s, m, args, below, meth, c, D, cy, base, e0, z0, n0⟩ := X
  obtain ⟨hx, hb, hml, hown, hts, hrt, hlk, hnm, hE⟩ := hC
  intro h0 h1 H locs ls hR hS hl
  exact lv_dup hx hb hdg hv (hk h0 h1 H locs ls hR hS hl)
theorem bj_pop {v : Value} (hdg : decode cc pc = .ok (.pop, 1)) (hv : v.category = 1) (k : bh_J em y cc ws ret NL FR LO X σ (pc + 1) lv st res) : bh_J em y cc ws ret NL FR LO X σ pc lv (v :: st) res := by
  intro r σ' hres
  obtain ⟨hm, hk⟩ := k r σ' hres
  refine ⟨hm, fun hC => ?_⟩
  have hk := hk hC
  obtain ⟨l, p, e, s, m, args, below, meth, c, D, cy, base, e0, z0, n0⟩ := X
  obtain ⟨hx, hb, hml, hown, hts, hrt, hlk, hnm, hE⟩ := hC
  intro h0 h1 H locs ls hR hS hl
  exact lv_pop hx hb hdg hv (hk h0 h1 H locs ls hR hS hl)
theorem bj_dup_x1 {v v2 : Value} (hdg : decode cc pc = .ok (.dup_x1, 1)) (hv : v.category = 1) (hv2 : v2.category = 1) (k : bh_J em y cc ws ret NL FR LO X σ (pc + 1) lv (v :: v2 :: v :: st) res) : bh_J em y cc ws ret NL FR LO X σ pc lv (v :: v2 :: st) res := by
  intro r σ' hres
  obtain ⟨hm, hk⟩ := k r σ' hres
  refine ⟨hm, fun hC => ?_⟩
  have hk := hk hC
  obtain ⟨l, p, e, s, m, args, below, meth, c, D, cy, base, e0, z0, n0⟩ := X
  obtain ⟨hx, hb, hml, hown, hts, hrt, hlk, hnm, hE⟩ := hC
  intro h0 h1 H locs ls hR hS hl
  exact lv_dup_x1 hx hb hdg hv hv2 (hk h0 h1 H locs ls hR hS hl)
theorem bj_dup_x2 {v v2 v3 : Value} (hdg : decode cc pc = .ok (.dup_x2, 1)) (hv : v.category = 1) (hv2 : v2.category = 1) (hv3 : v3.category = 1) (k : bh_J em y cc ws ret NL FR LO X σ (pc + 1) lv (v :: v2 :: v3 :: v :: st) res) : bh_J em y cc ws ret NL FR LO X σ pc lv (v :: v2 :: v3 :: st) res := by
  intro r σ' hres
  obtain ⟨hm, hk⟩ := k r σ' hres
  refine ⟨hm, fun hC => ?_⟩
  have hk := hk hC
  obtain ⟨l, p, e, s, m, args, below, meth, c, D, cy, base, e0, z0, n0⟩ := X
  obtain ⟨hx, hb, hml, hown, hts, hrt, hlk, hnm, hE⟩ := hC
  intro h0 h1 H locs ls hR hS hl
  exact lv_dup_x2 hx hb hdg hv hv2 hv3 (hk h0 h1 H locs ls hR hS hl)
theorem bj_dup2 {v v2 : Value} (hdg : decode cc pc = .ok (.dup2, 1)) (hv : v.category = 1) (hv2 : v2.category = 1) (k : bh_J em y cc ws ret NL FR LO X σ (pc + 1) lv (v :: v2 :: v :: v2 :: st) res) : bh_J em y cc ws ret NL FR LO X σ pc lv (v :: v2 :: st) res := by
  intro r σ' hres
  obtain ⟨hm, hk⟩ := k r σ' hres
  refine ⟨hm, fun hC => ?_⟩
  have hk := hk hC
  obtain ⟨l, p, e, s, m, args, below, meth, c, D, cy, base, e0, z0, n0⟩ := X
  obtain ⟨hx, hb, hml, hown, hts, hrt, hlk, hnm, hE⟩ := hC
  intro h0 h1 H locs ls hR hS hl
  exact lv_dup2_11 hx hb hdg hv hv2 (hk h0 h1 H locs ls hR hS hl)
theorem bj_goto {off : Int} {tgt : Nat} (hdg : decode cc pc = .ok (.goto off, 3)) (ht : (pc : Int) + off = (tgt : Int)) (k : bh_J em y cc ws ret NL FR LO X σ tgt lv st res) : bh_J em y cc ws ret NL FR LO X σ pc lv st res := by
  intro r σ' hres
  obtain ⟨hm, hk⟩ := k r σ' hres
  refine ⟨hm, fun hC => ?_⟩
  have hk := hk hC
  obtain ⟨l, p, e, s, m, args, below, meth, c, D, cy, base, e0, z0, n0⟩ := X
  obtain ⟨hx, hb, hml, hown, hts, hrt, hlk, hnm, hE⟩ := hC
  intro h0 h1 H locs ls hR hS hl
  exact lv_goto hx hb hdg ht (hk h0 h1 H locs ls hR hS hl)
theorem bj_tblOut {dflt lo hi : Int} {offs : Array Int} {len : Nat} {x : Int32} {tgt : Nat} (hdg : decode cc pc = .ok (.tableswitch dflt lo hi offs, len)) (h : x.toInt < lo ∨ hi < x.toInt) (ht : (pc : Int) + dflt = (tgt : Int)) (k : bh_J em y cc ws ret NL FR LO X σ tgt lv st res) : bh_J em y cc ws ret NL FR LO X σ pc lv (.int x :: st) res := by
  intro r σ' hres
  obtain ⟨hm, hk⟩ := k r σ' hres
  refine ⟨hm, fun hC => ?_⟩
  have hk := hk hC
  obtain ⟨l, p, e, s, m, args, below, meth, c, D, cy, base, e0, z0, n0⟩ := X
  obtain ⟨hx, hb, hml, hown, hts, hrt, hlk, hnm, hE⟩ := hC
  intro h0 h1 H locs ls hR hS hl
  exact lv_tableOut hx hb hdg h ht (hk h0 h1 H locs ls hR hS hl)
theorem bj_tblIn {dflt lo hi : Int} {offs : Array Int} {len : Nat} {x : Int32} {off : Int} {kv : Int32} {tgt : Nat} (hdg : decode cc pc = .ok (.tableswitch dflt lo hi offs, len)) (hxk : x = kv) (g1 : ¬ kv.toInt < lo) (g2 : ¬ hi < kv.toInt) (ho : offs[(kv.toInt - lo).toNat]? = some off) (ht : (pc : Int) + off = (tgt : Int)) (k : bh_J em y cc ws ret NL FR LO X σ tgt lv st res) : bh_J em y cc ws ret NL FR LO X σ pc lv (.int x :: st) res := by
  intro r σ' hres
  obtain ⟨hm, hk⟩ := k r σ' hres
  refine ⟨hm, fun hC => ?_⟩
  have hk := hk hC
  obtain ⟨l, p, e, s, m, args, below, meth, c, D, cy, base, e0, z0, n0⟩ := X
  obtain ⟨hx, hb, hml, hown, hts, hrt, hlk, hnm, hE⟩ := hC
  intro h0 h1 H locs ls hR hS hl
  exact (by subst hxk; exact lv_tableIn hx hb hdg g1 g2 ho ht (hk h0 h1 H locs ls hR hS hl))
theorem bj_if_eq {x : Int32} {off : Int} {tgt : Nat} {A B : Option (α × bh_S)} (hdg : decode cc pc = .ok (.ifCond .eq off, 3)) (ht : (pc : Int) + off = (tgt : Int)) (kt : x = 0 → bh_J em y cc ws ret NL FR LO X σ tgt lv st A) (kf : ¬ (x = 0) → bh_J em y cc ws ret NL FR LO X σ (pc + 3) lv st B) : bh_J em y cc ws ret NL FR LO X σ pc lv (.int x :: st) (if x = 0 then A else B) := by
  by_cases hq : x = 0
  · rw [if_pos hq]
    intro r σ' hres
    obtain ⟨hm, hk⟩ := kt hq r σ' hres
    refine ⟨hm, fun hC => ?_⟩
    have hk := hk hC
    obtain ⟨l, p, e, s, m, args, below, meth, c, D, cy, base, e0, z0, n0⟩ := X
    obtain ⟨hx, hb, hml, hown, hts, hrt, hlk, hnm, hE⟩ := hC
    intro h0 h1 H locs ls hR hS hl
    exact lv_if_eq hx hb hdg ht (fun _ => hk h0 h1 H locs ls hR hS hl) (fun h9 => absurd hq h9)
  · rw [if_neg hq]
    intro r σ' hres
    obtain ⟨hm, hk⟩ := kf hq r σ' hres
    refine ⟨hm, fun hC => ?_⟩
    have hk := hk hC
    obtain ⟨l, p, e, s, m, args, below, meth, c, D, cy, base, e0, z0, n0⟩ := X
    obtain ⟨hx, hb, hml, hown, hts, hrt, hlk, hnm, hE⟩ := hC
    intro h0 h1 H locs ls hR hS hl
    exact lv_if_eq hx hb hdg ht (fun h9 => absurd h9 hq) (fun _ => hk h0 h1 H locs ls hR hS hl)
theorem bj_if_lt {x : Int32} {off : Int} {tgt : Nat} {A B : Option (α × bh_S)} (hdg : decode cc pc = .ok (.ifCond .lt off, 3)) (ht : (pc : Int) + off = (tgt : Int)) (kt : x < 0 → bh_J em y cc ws ret NL FR LO X σ tgt lv st A) (kf : ¬ (x < 0) → bh_J em y cc ws ret NL FR LO X σ (pc + 3) lv st B) : bh_J em y cc ws ret NL FR LO X σ pc lv (.int x :: st) (if x < 0 then A else B) := by
  by_cases hq : x < 0
  · rw [if_pos hq]
    intro r σ' hres
    obtain ⟨hm, hk⟩ := kt hq r σ' hres
    refine ⟨hm, fun hC => ?_⟩
    have hk := hk hC
    obtain ⟨l, p, e, s, m, args, below, meth, c, D, cy, base, e0, z0, n0⟩ := X
    obtain ⟨hx, hb, hml, hown, hts, hrt, hlk, hnm, hE⟩ := hC
    intro h0 h1 H locs ls hR hS hl
    exact lv_if_lt hx hb hdg ht (fun _ => hk h0 h1 H locs ls hR hS hl) (fun h9 => absurd hq h9)
  · rw [if_neg hq]
    intro r σ' hres
    obtain ⟨hm, hk⟩ := kf hq r σ' hres
    refine ⟨hm, fun hC => ?_⟩
    have hk := hk hC
    obtain ⟨l, p, e, s, m, args, below, meth, c, D, cy, base, e0, z0, n0⟩ := X
    obtain ⟨hx, hb, hml, hown, hts, hrt, hlk, hnm, hE⟩ := hC
    intro h0 h1 H locs ls hR hS hl
    exact lv_if_lt hx hb hdg ht (fun h9 => absurd h9 hq) (fun _ => hk h0 h1 H locs ls hR hS hl)
theorem bj_if_ge {x : Int32} {off : Int} {tgt : Nat} {A B : Option (α × bh_S)} (hdg : decode cc pc = .ok (.ifCond .ge off, 3)) (ht : (pc : Int) + off = (tgt : Int)) (kt : 0 ≤ x → bh_J em y cc ws ret NL FR LO X σ tgt lv st A) (kf : ¬ (0 ≤ x) → bh_J em y cc ws ret NL FR LO X σ (pc + 3) lv st B) : bh_J em y cc ws ret NL FR LO X σ pc lv (.int x :: st) (if 0 ≤ x then A else B) := by
  by_cases hq : 0 ≤ x
  · rw [if_pos hq]
    intro r σ' hres
    obtain ⟨hm, hk⟩ := kt hq r σ' hres
    refine ⟨hm, fun hC => ?_⟩
    have hk := hk hC
    obtain ⟨l, p, e, s, m, args, below, meth, c, D, cy, base, e0, z0, n0⟩ := X
    obtain ⟨hx, hb, hml, hown, hts, hrt, hlk, hnm, hE⟩ := hC
    intro h0 h1 H locs ls hR hS hl
    exact lv_if_ge hx hb hdg ht (fun _ => hk h0 h1 H locs ls hR hS hl) (fun h9 => absurd hq h9)
  · rw [if_neg hq]
    intro r σ' hres
    obtain ⟨hm, hk⟩ := kf hq r σ' hres
    refine ⟨hm, fun hC => ?_⟩
    have hk := hk hC
    obtain ⟨l, p, e, s, m, args, below, meth, c, D, cy, base, e0, z0, n0⟩ := X
    obtain ⟨hx, hb, hml, hown, hts, hrt, hlk, hnm, hE⟩ := hC
    intro h0 h1 H locs ls hR hS hl
    exact lv_if_ge hx hb hdg ht (fun h9 => absurd h9 hq) (fun _ => hk h0 h1 H locs ls hR hS hl)
theorem bj_if_gt {x : Int32} {off : Int} {tgt : Nat} {A B : Option (α × bh_S)} (hdg : decode cc pc = .ok (.ifCond .gt off, 3)) (ht : (pc : Int) + off = (tgt : Int)) (kt : 0 < x → bh_J em y cc ws ret NL FR LO X σ tgt lv st A) (kf : ¬ (0 < x) → bh_J em y cc ws ret NL FR LO X σ (pc + 3) lv st B) : bh_J em y cc ws ret NL FR LO X σ pc lv (.int x :: st) (if 0 < x then A else B) := by
  by_cases hq : 0 < x
  · rw [if_pos hq]
    intro r σ' hres
    obtain ⟨hm, hk⟩ := kt hq r σ' hres
    refine ⟨hm, fun hC => ?_⟩
    have hk := hk hC
    obtain ⟨l, p, e, s, m, args, below, meth, c, D, cy, base, e0, z0, n0⟩ := X
    obtain ⟨hx, hb, hml, hown, hts, hrt, hlk, hnm, hE⟩ := hC
    intro h0 h1 H locs ls hR hS hl
    exact lv_if_gt hx hb hdg ht (fun _ => hk h0 h1 H locs ls hR hS hl) (fun h9 => absurd hq h9)
  · rw [if_neg hq]
    intro r σ' hres
    obtain ⟨hm, hk⟩ := kf hq r σ' hres
    refine ⟨hm, fun hC => ?_⟩
    have hk := hk hC
    obtain ⟨l, p, e, s, m, args, below, meth, c, D, cy, base, e0, z0, n0⟩ := X
    obtain ⟨hx, hb, hml, hown, hts, hrt, hlk, hnm, hE⟩ := hC
    intro h0 h1 H locs ls hR hS hl
    exact lv_if_gt hx hb hdg ht (fun h9 => absurd h9 hq) (fun _ => hk h0 h1 H locs ls hR hS hl)
theorem bj_if_le {x : Int32} {off : Int} {tgt : Nat} {A B : Option (α × bh_S)} (hdg : decode cc pc = .ok (.ifCond .le off, 3)) (ht : (pc : Int) + off = (tgt : Int)) (kt : x ≤ 0 → bh_J em y cc ws ret NL FR LO X σ tgt lv st A) (kf : ¬ (x ≤ 0) → bh_J em y cc ws ret NL FR LO X σ (pc + 3) lv st B) : bh_J em y cc ws ret NL FR LO X σ pc lv (.int x :: st) (if x ≤ 0 then A else B) := by
  by_cases hq : x ≤ 0
  · rw [if_pos hq]
    intro r σ' hres
    obtain ⟨hm, hk⟩ := kt hq r σ' hres
    refine ⟨hm, fun hC => ?_⟩
    have hk := hk hC
    obtain ⟨l, p, e, s, m, args, below, meth, c, D, cy, base, e0, z0, n0⟩ := X
    obtain ⟨hx, hb, hml, hown, hts, hrt, hlk, hnm, hE⟩ := hC
    intro h0 h1 H locs ls hR hS hl
    exact lv_if_le hx hb hdg ht (fun _ => hk h0 h1 H locs ls hR hS hl) (fun h9 => absurd hq h9)
  · rw [if_neg hq]
    intro r σ' hres
    obtain ⟨hm, hk⟩ := kf hq r σ' hres
    refine ⟨hm, fun hC => ?_⟩
    have hk := hk hC
    obtain ⟨l, p, e, s, m, args, below, meth, c, D, cy, base, e0, z0, n0⟩ := X
    obtain ⟨hx, hb, hml, hown, hts, hrt, hlk, hnm, hE⟩ := hC
    intro h0 h1 H locs ls hR hS hl
    exact lv_if_le hx hb hdg ht (fun h9 => absurd h9 hq) (fun _ => hk h0 h1 H locs ls hR hS hl)
theorem bj_icmp_eq {x y0 : Int32} {off : Int} {tgt : Nat} {A B : Option (α × bh_S)} (hdg : decode cc pc = .ok (.if_icmp .eq off, 3)) (ht : (pc : Int) + off = (tgt : Int)) (kt : x = y0 → bh_J em y cc ws ret NL FR LO X σ tgt lv st A) (kf : ¬ (x = y0) → bh_J em y cc ws ret NL FR LO X σ (pc + 3) lv st B) : bh_J em y cc ws ret NL FR LO X σ pc lv (.int y0 :: .int x :: st) (if x = y0 then A else B) := by
  by_cases hq : x = y0
  · rw [if_pos hq]
    intro r σ' hres
    obtain ⟨hm, hk⟩ := kt hq r σ' hres
    refine ⟨hm, fun hC => ?_⟩
    have hk := hk hC
    obtain ⟨l, p, e, s, m, args, below, meth, c, D, cy, base, e0, z0, n0⟩ := X
    obtain ⟨hx, hb, hml, hown, hts, hrt, hlk, hnm, hE⟩ := hC
    intro h0 h1 H locs ls hR hS hl
    exact lv_icmp_eq hx hb hdg ht (fun _ => hk h0 h1 H locs ls hR hS hl) (fun h9 => absurd hq h9)
  · rw [if_neg hq]
    intro r σ' hres
    obtain ⟨hm, hk⟩ := kf hq r σ' hres
    refine ⟨hm, fun hC => ?_⟩
    have hk := hk hC
    obtain ⟨l, p, e, s, m, args, below, meth, c, D, cy, base, e0, z0, n0⟩ := X
    obtain ⟨hx, hb, hml, hown, hts, hrt, hlk, hnm, hE⟩ := hC
    intro h0 h1 H locs ls hR hS hl
    exact lv_icmp_eq hx hb hdg ht (fun h9 => absurd h9 hq) (fun _ => hk h0 h1 H locs ls hR hS hl)
theorem bj_icmp_lt {x y0 : Int32} {off : Int} {tgt : Nat} {A B : Option (α × bh_S)} (hdg : decode cc pc = .ok (.if_icmp .lt off, 3)) (ht : (pc : Int) + off = (tgt : Int)) (kt : x < y0 → bh_J em y cc ws ret NL FR LO X σ tgt lv st A) (kf : ¬ (x < y0) → bh_J em y cc ws ret NL FR LO X σ (pc + 3) lv st B) : bh_J em y cc ws ret NL FR LO X σ pc lv (.int y0 :: .int x :: st) (if x < y0 then A else B) := by
  by_cases hq : x < y0
  · rw [if_pos hq]
    intro r σ' hres
    obtain ⟨hm, hk⟩ := kt hq r σ' hres
    refine ⟨hm, fun hC => ?_⟩
    have hk := hk hC
    obtain ⟨l, p, e, s, m, args, below, meth, c, D, cy, base, e0, z0, n0⟩ := X
    obtain ⟨hx, hb, hml, hown, hts, hrt, hlk, hnm, hE⟩ := hC
    intro h0 h1 H locs ls hR hS hl
    exact lv_icmp_lt hx hb hdg ht (fun _ => hk h0 h1 H locs ls hR hS hl) (fun h9 => absurd hq h9)
  · rw [if_neg hq]
    intro r σ' hres
    obtain ⟨hm, hk⟩ := kf hq r σ' hres
    refine ⟨hm, fun hC => ?_⟩
    have hk := hk hC
    obtain ⟨l, p, e, s, m, args, below, meth, c, D, cy, base, e0, z0, n0⟩ := X
    obtain ⟨hx, hb, hml, hown, hts, hrt, hlk, hnm, hE⟩ := hC
    intro h0 h1 H locs ls hR hS hl
    exact lv_icmp_lt hx hb hdg ht (fun h9 => absurd h9 hq) (fun _ => hk h0 h1 H locs ls hR hS hl)
theorem bj_icmp_ge {x y0 : Int32} {off : Int} {tgt : Nat} {A B : Option (α × bh_S)} (hdg : decode cc pc = .ok (.if_icmp .ge off, 3)) (ht : (pc : Int) + off = (tgt : Int)) (kt : y0 ≤ x → bh_J em y cc ws ret NL FR LO X σ tgt lv st A) (kf : ¬ (y0 ≤ x) → bh_J em y cc ws ret NL FR LO X σ (pc + 3) lv st B) : bh_J em y cc ws ret NL FR LO X σ pc lv (.int y0 :: .int x :: st) (if y0 ≤ x then A else B) := by
  by_cases hq : y0 ≤ x
  · rw [if_pos hq]
    intro r σ' hres
    obtain ⟨hm, hk⟩ := kt hq r σ' hres
    refine ⟨hm, fun hC => ?_⟩
    have hk := hk hC
    obtain ⟨l, p, e, s, m, args, below, meth, c, D, cy, base, e0, z0, n0⟩ := X
    obtain ⟨hx, hb, hml, hown, hts, hrt, hlk, hnm, hE⟩ := hC
    intro h0 h1 H locs ls hR hS hl
    exact lv_icmp_ge hx hb hdg ht (fun _ => hk h0 h1 H locs ls hR hS hl) (fun h9 => absurd hq h9)
  · rw [if_neg hq]
    intro r σ' hres
    obtain ⟨hm, hk⟩ := kf hq r σ' hres
    refine ⟨hm, fun hC => ?_⟩
    have hk := hk hC
    obtain ⟨l, p, e, s, m, args, below, meth, c, D, cy, base, e0, z0, n0⟩ := X
    obtain ⟨hx, hb, hml, hown, hts, hrt, hlk, hnm, hE⟩ := hC
    intro h0 h1 H locs ls hR hS hl
    exact lv_icmp_ge hx hb hdg ht (fun h9 => absurd h9 hq) (fun _ => hk h0 h1 H locs ls hR hS hl)
theorem bj_icmp_gt {x y0 : Int32} {off : Int} {tgt : Nat} {A B : Option (α × bh_S)} (hdg : decode cc pc = .ok (.if_icmp .gt off, 3)) (ht : (pc : Int) + off = (tgt : Int)) (kt : y0 < x → bh_J em y cc ws ret NL FR LO X σ tgt lv st A) (kf : ¬ (y0 < x) → bh_J em y cc ws ret NL FR LO X σ (pc + 3) lv st B) : bh_J em y cc ws ret NL FR LO X σ pc lv (.int y0 :: .int x :: st) (if y0 < x then A else B) := by
  by_cases hq : y0 < x
  · rw [if_pos hq]
    intro r σ' hres
    obtain ⟨hm, hk⟩ := kt hq r σ' hres
    refine ⟨hm, fun hC => ?_⟩
    have hk := hk hC
    obtain ⟨l, p, e, s, m, args, below, meth, c, D, cy, base, e0, z0, n0⟩ := X
    obtain ⟨hx, hb, hml, hown, hts, hrt, hlk, hnm, hE⟩ := hC
    intro h0 h1 H locs ls hR hS hl
    exact lv_icmp_gt hx hb hdg ht (fun _ => hk h0 h1 H locs ls hR hS hl) (fun h9 => absurd hq h9)
  · rw [if_neg hq]
    intro r σ' hres
    obtain ⟨hm, hk⟩ := kf hq r σ' hres
    refine ⟨hm, fun hC => ?_⟩
    have hk := hk hC
    obtain ⟨l, p, e, s, m, args, below, meth, c, D, cy, base, e0, z0, n0⟩ := X
    obtain ⟨hx, hb, hml, hown, hts, hrt, hlk, hnm, hE⟩ := hC
    intro h0 h1 H locs ls hR hS hl
    exact lv_icmp_gt hx hb hdg ht (fun h9 => absurd h9 hq) (fun _ => hk h0 h1 H locs ls hR hS hl)
theorem bj_icmp_le {x y0 : Int32} {off : Int} {tgt : Nat} {A B : Option (α × bh_S)} (hdg : decode cc pc = .ok (.if_icmp .le off, 3)) (ht : (pc : Int) + off = (tgt : Int)) (kt : x ≤ y0 → bh_J em y cc ws ret NL FR LO X σ tgt lv st A) (kf : ¬ (x ≤ y0) → bh_J em y cc ws ret NL FR LO X σ (pc + 3) lv st B) : bh_J em y cc ws ret NL FR LO X σ pc lv (.int y0 :: .int x :: st) (if x ≤ y0 then A else B) := by
  by_cases hq : x ≤ y0
  · rw [if_pos hq]
    intro r σ' hres
    obtain ⟨hm, hk⟩ := kt hq r σ' hres
    refine ⟨hm, fun hC => ?_⟩
    have hk := hk hC
    obtain ⟨l, p, e, s, m, args, below, meth, c, D, cy, base, e0, z0, n0⟩ := X
    obtain ⟨hx, hb, hml, hown, hts, hrt, hlk, hnm, hE⟩ := hC
    intro h0 h1 H locs ls hR hS hl
    exact lv_icmp_le hx hb hdg ht (fun _ => hk h0 h1 H locs ls hR hS hl) (fun h9 => absurd hq h9)
  · rw [if_neg hq]
    intro r σ' hres
    obtain ⟨hm, hk⟩ := kf hq r σ' hres
    refine ⟨hm, fun hC => ?_⟩
    have hk := hk hC
    obtain ⟨l, p, e, s, m, args, below, meth, c, D, cy, base, e0, z0, n0⟩ := X
    obtain ⟨hx, hb, hml, hown, hts, hrt, hlk, hnm, hE⟩ := hC
    intro h0 h1 H locs ls hR hS hl
    exact lv_icmp_le hx hb hdg ht (fun h9 => absurd h9 hq) (fun _ => hk h0 h1 H locs ls hR hS hl)
theorem bj_acmp_eq {rx ry : Option Nat} {off : Int} {tgt : Nat} {A B : Option (α × bh_S)} (hdg : decode cc pc = .ok (.if_acmp .eq off, 3)) (ht : (pc : Int) + off = (tgt : Int)) (kt : rx = ry → bh_J em y cc ws ret NL FR LO X σ tgt lv st A) (kf : ¬ (rx = ry) → bh_J em y cc ws ret NL FR LO X σ (pc + 3) lv st B) : bh_J em y cc ws ret NL FR LO X σ pc lv (va_rf ry :: va_rf rx :: st) (if rx = ry then A else B) := by
  by_cases hq : rx = ry
  · rw [if_pos hq]
    intro r σ' hres
    obtain ⟨hm, hk⟩ := kt hq r σ' hres
    refine ⟨hm, fun hC => ?_⟩
    have hk := hk hC
    obtain ⟨l, p, e, s, m, args, below, meth, c, D, cy, base, e0, z0, n0⟩ := X
    obtain ⟨hx, hb, hml, hown, hts, hrt, hlk, hnm, hE⟩ := hC
    intro h0 h1 H locs ls hR hS hl
    exact lv_acmp_eq hx hb hdg ht (fun _ => hk h0 h1 H locs ls hR hS hl) (fun h9 => absurd hq h9)
  · rw [if_neg hq]
    intro r σ' hres
    obtain ⟨hm, hk⟩ := kf hq r σ' hres
    refine ⟨hm, fun hC => ?_⟩
    have hk := hk hC
    obtain ⟨l, p, e, s, m, args, below, meth, c, D, cy, base, e0, z0, n0⟩ := X
    obtain ⟨hx, hb, hml, hown, hts, hrt, hlk, hnm, hE⟩ := hC
    intro h0 h1 H locs ls hR hS hl
    exact lv_acmp_eq hx hb hdg ht (fun h9 => absurd h9 hq) (fun _ => hk h0 h1 H locs ls hR hS hl)
theorem bj_if_ne {x : Int32} {off : Int} {tgt : Nat} {A B : Option (α × bh_S)} (hdg : decode cc pc = .ok (.ifCond .ne off, 3)) (ht : (pc : Int) + off = (tgt : Int)) (kt : ¬ (x = 0) → bh_J em y cc ws ret NL FR LO X σ tgt lv st B) (kf : x = 0 → bh_J em y cc ws ret NL FR LO X σ (pc + 3) lv st A) : bh_J em y cc ws ret NL FR LO X σ pc lv (.int x :: st) (if x = 0 then A else B) := by
  by_cases hq : x = 0
  · rw [if_pos hq]
    intro r σ' hres
    obtain ⟨hm, hk⟩ := kf hq r σ' hres
    refine ⟨hm, fun hC => ?_⟩
    have hk := hk hC
    obtain ⟨l, p, e, s, m, args, below, meth, c, D, cy, base, e0, z0, n0⟩ := X
    obtain ⟨hx, hb, hml, hown, hts, hrt, hlk, hnm, hE⟩ := hC
    intro h0 h1 H locs ls hR hS hl
    exact lv_if_ne hx hb hdg ht (fun h9 => absurd hq h9) (fun _ => hk h0 h1 H locs ls hR hS hl)
  · rw [if_neg hq]
    intro r σ' hres
    obtain ⟨hm, hk⟩ := kt hq r σ' hres
    refine ⟨hm, fun hC => ?_⟩
    have hk := hk hC
    obtain ⟨l, p, e, s, m, args, below, meth, c, D, cy, base, e0, z0, n0⟩ := X
    obtain ⟨hx, hb, hml, hown, hts, hrt, hlk, hnm, hE⟩ := hC
    intro h0 h1 H locs ls hR hS hl
    exact lv_if_ne hx hb hdg ht (fun _ => hk h0 h1 H locs ls hR hS hl) (fun h9 => absurd h9 hq)
theorem bj_icmp_ne {x y0 : Int32} {off : Int} {tgt : Nat} {A B : Option (α × bh_S)} (hdg : decode cc pc = .ok (.if_icmp .ne off, 3)) (ht : (pc : Int) + off = (tgt : Int)) (kt : ¬ (x = y0) → bh_J em y cc ws ret NL FR LO X σ tgt lv st B) (kf : x = y0 → bh_J em y cc ws ret NL FR LO X σ (pc + 3) lv st A) : bh_J em y cc ws ret NL FR LO X σ pc lv (.int y0 :: .int x :: st) (if x = y0 then A else B) := by
  by_cases hq : x = y0
  · rw [if_pos hq]
    intro r σ' hres
    obtain ⟨hm, hk⟩ := kf hq r σ' hres
    refine ⟨hm, fun hC => ?_⟩
    have hk := hk hC
    obtain ⟨l, p, e, s, m, args, below, meth, c, D, cy, base, e0, z0, n0⟩ := X
    obtain ⟨hx, hb, hml, hown, hts, hrt, hlk, hnm, hE⟩ := hC
    intro h0 h1 H locs ls hR hS hl
    exact lv_icmp_ne hx hb hdg ht (fun h9 => absurd hq h9) (fun _ => hk h0 h1 H locs ls hR hS hl)
  · rw [if_neg hq]
    intro r σ' hres
    obtain ⟨hm, hk⟩ := kt hq r σ' hres
    refine ⟨hm, fun hC => ?_⟩
    have hk := hk hC
    obtain ⟨l, p, e, s, m, args, below, meth, c, D, cy, base, e0, z0, n0⟩ := X
    obtain ⟨hx, hb, hml, hown, hts, hrt, hlk, hnm, hE⟩ := hC
    intro h0 h1 H locs ls hR hS hl
    exact lv_icmp_ne hx hb hdg ht (fun _ => hk h0 h1 H locs ls hR hS hl) (fun h9 => absurd h9 hq)
theorem bj_acmp_ne {rx ry : Option Nat} {off : Int} {tgt : Nat} {A B : Option (α × bh_S)} (hdg : decode cc pc = .ok (.if_acmp .ne off, 3)) (ht : (pc : Int) + off = (tgt : Int)) (kt : ¬ (rx = ry) → bh_J em y cc ws ret NL FR LO X σ tgt lv st B) (kf : rx = ry → bh_J em y cc ws ret NL FR LO X σ (pc + 3) lv st A) : bh_J em y cc ws ret NL FR LO X σ pc lv (va_rf ry :: va_rf rx :: st) (if rx = ry then A else B) := by
  by_cases hq : rx = ry
  · rw [if_pos hq]
    intro r σ' hres
    obtain ⟨hm, hk⟩ := kf hq r σ' hres
    refine ⟨hm, fun hC => ?_⟩
    have hk := hk hC
    obtain ⟨l, p, e, s, m, args, below, meth, c, D, cy, base, e0, z0, n0⟩ := X
    obtain ⟨hx, hb, hml, hown, hts, hrt, hlk, hnm, hE⟩ := hC
    intro h0 h1 H locs ls hR hS hl
    exact lv_acmp_ne hx hb hdg ht (fun h9 => absurd hq h9) (fun _ => hk h0 h1 H locs ls hR hS hl)
  · rw [if_neg hq]
    intro r σ' hres
    obtain ⟨hm, hk⟩ := kt hq r σ' hres
    refine ⟨hm, fun hC => ?_⟩
    have hk := hk hC
    obtain ⟨l, p, e, s, m, args, below, meth, c, D, cy, base, e0, z0, n0⟩ := X
    obtain ⟨hx, hb, hml, hown, hts, hrt, hlk, hnm, hE⟩ := hC
    intro h0 h1 H locs ls hR hS hl
    exact lv_acmp_ne hx hb hdg ht (fun _ => hk h0 h1 H locs ls hR hS hl) (fun h9 => absurd h9 hq)
/-- null or not -/
def bh_cs {β : Type} (o : Option Nat) (A : β) (B : Nat → β) : β := match o with
  | none => A
  | some a => B a
theorem bj_ifnull {o : Option Nat} {off : Int} {tgt : Nat} {A : Option (α × bh_S)} {B : Nat → Option (α × bh_S)} (hdg : decode cc pc = .ok (.ifnull off, 3)) (ht : (pc : Int) + off = (tgt : Int)) (kn : o = none → bh_J em y cc ws ret NL FR LO X σ tgt lv st A) (ks : ∀ a : Nat, o = some a → bh_J em y cc ws ret NL FR LO X σ (pc + 3) lv st (B a)) : bh_J em y cc ws ret NL FR LO X σ pc lv (va_rf o :: st) (bh_cs o A B) := by
  cases o with
  | none =>
    intro r σ' hres
    obtain ⟨hm, hk⟩ := kn rfl r σ' hres
    refine ⟨hm, fun hC => ?_⟩
    have hk := hk hC
    obtain ⟨l, p, e, s, m, args, below, meth, c, D, cy, base, e0, z0, n0⟩ := X
    obtain ⟨hx, hb, hml, hown, hts, hrt, hlk, hnm, hE⟩ := hC
    intro h0 h1 H locs ls hR hS hl
    exact lv_ifnullN hx hb hdg ht (hk h0 h1 H locs ls hR hS hl)
  | some a =>
    intro r σ' hres
    obtain ⟨hm, hk⟩ := ks a rfl r σ' hres
    refine ⟨hm, fun hC => ?_⟩
    have hk := hk hC
    obtain ⟨l, p, e, s, m, args, below, meth, c, D, cy, base, e0, z0, n0⟩ := X
    obtain ⟨hx, hb, hml, hown, hts, hrt, hlk, hnm, hE⟩ := hC
    intro h0 h1 H locs ls hR hS hl
    exact lv_ifnull hx hb hdg (hk h0 h1 H locs ls hR hS hl)
theorem bj_ifnonnull {o : Option Nat} {off : Int} {tgt : Nat} {A : Option (α × bh_S)} {B : Nat → Option (α × bh_S)} (hdg : decode cc pc = .ok (.ifnonnull off, 3)) (ht : (pc : Int) + off = (tgt : Int)) (kn : o = none → bh_J em y cc ws ret NL FR LO X σ (pc + 3) lv st A) (ks : ∀ a : Nat, o = some a → bh_J em y cc ws ret NL FR LO X σ tgt lv st (B a)) : bh_J em y cc ws ret NL FR LO X σ pc lv (va_rf o :: st) (bh_cs o A B) := by
  cases o with
  | none =>
    intro r σ' hres
    obtain ⟨hm, hk⟩ := kn rfl r σ' hres
    refine ⟨hm, fun hC => ?_⟩
    have hk := hk hC
    obtain ⟨l, p, e, s, m, args, below, meth, c, D, cy, base, e0, z0, n0⟩ := X
    obtain ⟨hx, hb, hml, hown, hts, hrt, hlk, hnm, hE⟩ := hC
    intro h0 h1 H locs ls hR hS hl
    exact lv_ifnonnullN hx hb hdg (hk h0 h1 H locs ls hR hS hl)
  | some a =>
    intro r σ' hres
    obtain ⟨hm, hk⟩ := ks a rfl r σ' hres
    refine ⟨hm, fun hC => ?_⟩
    have hk := hk hC
    obtain ⟨l, p, e, s, m, args, below, meth, c, D, cy, base, e0, z0, n0⟩ := X
    obtain ⟨hx, hb, hml, hown, hts, hrt, hlk, hnm, hE⟩ := hC
    intro h0 h1 H locs ls hR hS hl
    exact lv_ifnonnull hx hb hdg ht (hk h0 h1 H locs ls hR hS hl)
theorem bj_iret {v : Int32} (hdg : decode cc pc = .ok (.ireturn, 1)) : bh_J eI y cc ws (some .int) NL FR LO X σ pc lv [.int v] (some (v, σ)) := by
  intro r σ' hres
  cases hres
  refine ⟨⟨Nat.le_refl _, Nat.le_refl _⟩, fun hC => ?_⟩
  obtain ⟨l, p, e, s, m, args, below, meth, c, D, cy, base, e0, z0, n0⟩ := X
  obtain ⟨hx, hb, hml, hown, hts, hrt, hlk, hnm, hE⟩ := hC
  intro h0 h1 H locs ls hR hS hl
  exact W.iret hx hb hrt (fun t ht hW => ⟨rfl, by rw [ht]; exact hR, hS.F ht⟩) hS.2.2 hdg hlk
theorem bj_zret {v : Int32} (hdg : decode cc pc = .ok (.ireturn, 1)) : bh_J eI y cc ws (some .boolean) NL FR LO X σ pc lv [.int v] (bh_retZ σ v) := by
  intro r σ' hres
  unfold bh_retZ at hres
  split at hres
  case isFalse => cases hres
  rename_i hv
  cases hres
  refine ⟨⟨Nat.le_refl _, Nat.le_refl _⟩, fun hC => ?_⟩
  obtain ⟨l, p, e, s, m, args, below, meth, c, D, cy, base, e0, z0, n0⟩ := X
  obtain ⟨hx, hb, hml, hown, hts, hrt, hlk, hnm, hE⟩ := hC
  intro h0 h1 H locs ls hR hS hl
  exact W.zret hx hb hrt (by rcases hv with rfl | rfl <;> rfl) (fun t ht hW => ⟨rfl, by rw [ht]; exact hR, hS.F ht⟩) hS.2.2 hdg hlk
theorem bj_vret (hdg : decode cc pc = .ok (.return_, 1)) : bh_J eU y cc ws none NL FR LO X σ pc lv [] (some ((), σ)) := by
  intro r σ' hres
  cases hres
  refine ⟨⟨Nat.le_refl _, Nat.le_refl _⟩, fun hC => ?_⟩
  obtain ⟨l, p, e, s, m, args, below, meth, c, D, cy, base, e0, z0, n0⟩ := X
  obtain ⟨hx, hb, hml, hown, hts, hrt, hlk, hnm, hE⟩ := hC
  intro h0 h1 H locs ls hR hS hl
  exact W.vret hx hb hrt (fun t ht hW => ⟨rfl, by rw [ht]; exact hR, hS.F ht⟩) hS.2.2 hdg hlk
theorem bj_aret {o : Option Nat} {rt : FieldType} (hdg : decode cc pc = .ok (.areturn, 1)) (h9 : (∃ n, rt = .object n) ∨ ∃ t, rt = .array t) : bh_J eR y cc ws (some rt) NL FR LO X σ pc lv [va_rf o] (some (o, σ)) := by
  intro r σ' hres
  cases hres
  refine ⟨⟨Nat.le_refl _, Nat.le_refl _⟩, fun hC => ?_⟩
  obtain ⟨l, p, e, s, m, args, below, meth, c, D, cy, base, e0, z0, n0⟩ := X
  obtain ⟨hx, hb, hml, hown, hts, hrt, hlk, hnm, hE⟩ := hC
  intro h0 h1 H locs ls hR hS hl
  exact W.aret hx hb hrt h9 (va_rf_or o) (fun t ht hW => ⟨rfl, by rw [ht]; exact hR, hS.F ht⟩) hS.2.2 hdg hlk
theorem bh_enterF {ws' : List Cond} {av : List Value} (hy : plainFor y = true) (hw : ws = Cond.code y cc NL ret :: ws') (hlen : (lg_sl av).length ≤ NL) (body : ∀ X' : bh_X, bh_J em y cc ws ret NL FR LO X' σ 0 (lv_args 0 av) [] res) : bh_MX em X y ws FR LO av σ res := by
  intro r σ' hres
  refine ⟨(body X r σ' hres).1, ?_⟩
  obtain ⟨l, p0, e0', s0, m0, args0, below0, meth0, c0, D, cy, base, e0, z0, n0⟩ := X
  refine va_MetF (cc := cc) (maxL := NL) (ret := ret) hy hw ?_
  intro p e s m args below meth c s₁ B hml hv
  obtain ⟨rfl, hE, hR⟩ := hv
  have h := (body (l, p, e, s, m, av.toArray, below, meth, c, D, cy, base, e0, bh_z σ, bh_n σ) r σ' hres).2 ⟨B.exec, B.bytes, hml, findClass_of_methodNamed B.named, atoms_spec (ws := ws) B.pre, B.returns, B.notSynchronized, (fun h => (name_of_methodNamed B.named B.method).1.trans h), hE⟩ (Nat.le_refl _) (Nat.le_refl _) s.heap [] _ hR va_S.rf (lv_entry av hlen)
  rw [Nat.sub_self, Nat.sub_self] at h
  rw [lg_entry_eq]
  exact h
end BHJ
def bh_nz (y : Int32) : Option Unit := if y = 0 then none else some ()
def bh_nzL (y : Int64) : Option Unit := if y = 0 then none else some ()
theorem bh_nz_spec {y : Int32} {u : Unit} (h : bh_nz y = some u) : ¬ y = 0 := by
  unfold bh_nz at h
  split at h
  · cases h
  · assumption
theorem bh_nzL_spec {y : Int64} {u : Unit} (h : bh_nzL y = some u) : ¬ y = 0 := by
  unfold bh_nzL at h
  split at h
  · cases h
  · assumption
/-- an object of kind c -/
def bh_ck (σ : bh_S) (a c : Nat) : Option Unit := if bh_K σ a = c then some () else none
theorem bh_ck_spec {σ : bh_S} {a c : Nat} {u : Unit} (h : bh_ck σ a c = some u) : bh_K σ a = c := by
  unfold bh_ck at h
  split at h
  · assumption
  · cases h
theorem bh_cat (o : Option Nat) : (va_rf o).category = 1 := by cases o <;> rfl
def bh_fl (ws : List Cond) (own : String) (index : Nat) (ref name desc : String) : Prop := Cond.fieldLink own index ref name desc ∈ ws ∨ ∃ host, Cond.fieldLinkNest own index ref name desc host ∈ bh_nest
section BHR
variable {D : va_G} {cy : Nat → ClassId} {base e0 : Nat} {σ σ' : bh_S} {H H1 : Heap} {a : Nat}
theorem bh_Rep.obj (hR : bh_Rep D cy base e0 σ H) {ci : Nat} (hk : bh_K σ a = ci) {r : vw_C} (hr : vwCl[ci]? = some r) : base ≤ a ∧ t_OB a (D.1 ci) r.2.2 (D.2 ci) H (bh_V σ ci a) := by
  have h12 : ci < 12 := (List.getElem?_eq_some_iff.mp hr).1
  subst hk
  obtain ⟨h1, h2, -, -, -⟩ := hR.2.2 a (by omega)
  exact ⟨by rcases h1 with h | h; exact h; omega, h2 r hr⟩
theorem bh_Rep.ints (hR : bh_Rep D cy base e0 σ H) {ci : Nat} (hk : bh_K σ a = ci) (hr : ci = 12 ∨ ci = 13) : (base ≤ a ∨ bh_L σ a = 0) ∧ H[a]? = some (arrV (cy ci) (bh_L σ a) (fun j => .int (bh_I σ ci a j))) := by
  subst hk
  obtain ⟨h1, -, h3, -, -⟩ := hR.2.2 a (by omega)
  exact ⟨by rcases h1 with h | h; exact Or.inl h; exact Or.inr h.1, h3 hr⟩
theorem bh_Rep.wk (hR : bh_Rep D cy base e0 σ H) {ci : Nat} (hk : bh_K σ a = ci) (hr : 14 ≤ ci) (hr2 : ci < 18) : bh_wk (cy ci) (bh_L σ a) H a := by
  subst hk
  obtain ⟨h1, -, -, -, h5⟩ := hR.2.2 a (by omega)
  exact h5 hr
theorem bh_Rep.refs (hR : bh_Rep D cy base e0 σ H) {ci : Nat} (hk : bh_K σ a = ci) (hr : 14 ≤ ci) (hr2 : ci < 18) (hL : bh_L σ a ≠ 0) : (base ≤ a ∨ bh_L σ a = 0) ∧ H[a]? = some (arrV (cy ci) (bh_L σ a) (fun j => va_rf (bh_R σ ci a j))) := by
  subst hk
  obtain ⟨h1, -, -, h4, -⟩ := hR.2.2 a (by omega)
  exact ⟨by rcases h1 with h | h; exact Or.inl h; exact Or.inr h.1, h4 hr hL⟩
theorem bh_Rep.set (hR : bh_Rep D cy base e0 σ H) (hK : bh_K σ' = bh_K σ) (hL : bh_L σ' = bh_L σ) (hz : bh_z σ' = bh_z σ) (he : bh_e σ' = bh_e σ) (hI : ∀ c q k, q ≠ a → bh_I σ' c q k = bh_I σ c q k) (hRR : ∀ c q k, q ≠ a → bh_R σ' c q k = bh_R σ c q k) (hsz : H1.size = H.size) (oq : ∀ q : Nat, q ≠ a → H1[q]? = H[q]?) (hat : bh_at D cy σ' H1 a) : bh_Rep D cy base e0 σ' H1 := by
  obtain ⟨g1, g2, g3⟩ := hR
  refine ⟨by rw [hsz, hz]; exact g1, by rw [he]; exact g2, fun q hq => ?_⟩
  rw [hK] at hq
  obtain ⟨b1, b2, b3, b4, b5⟩ := g3 q hq
  refine ⟨by rw [hK, hL]; exact b1, ?_⟩
  by_cases hqa : q = a
  · subst hqa
    exact hat
  · refine ⟨?_, ?_, ?_, ?_⟩
    · intro r hr
      rw [hK] at hr ⊢
      refine ((b2 r hr).kept (oq q hqa)).to (fun j _ => ?_)
      simp only [bh_V, hI _ _ _ hqa, hRR _ _ _ hqa]
    · intro h
      rw [hK] at h ⊢
      rw [oq q hqa, b3 h, hL]
      simp only [hI _ _ _ hqa]
    · intro h h2
      rw [hK] at h ⊢
      rw [hL] at h2
      rw [oq q hqa, b4 h h2, hL]
      simp only [hRR _ _ _ hqa]
    · intro h
      rw [hK] at h ⊢
      rw [hL]
      exact (b5 h).kept (oq q hqa)
theorem bh_Rep.putI (hR : bh_Rep D cy base e0 σ H) {ci k : Nat} {x : Int32} (hk : bh_K σ a = ci) {r : vw_C} (hr : vwCl[ci]? = some r) (hi : bh_isR ci k = false) (hsz : H1.size = H.size) (oq : ∀ q : Nat, q ≠ a → H1[q]? = H[q]?) (hO : t_OB a (D.1 ci) r.2.2 (D.2 ci) H1 (updV (bh_V σ ci a) k (.int x))) : bh_Rep D cy base e0 (bh_setI σ ci a k x) H1 := by
  have h12 : ci < 12 := (List.getElem?_eq_some_iff.mp hr).1
  refine hR.set (σ' := bh_setI σ ci a k x) (a := a) rfl rfl rfl rfl (fun c q k' hq => ?_) (fun _ _ _ _ => rfl) hsz oq ?_
  · show (if c = ci ∧ q = a ∧ k' = k then x else _) = _
    rw [if_neg (fun h => hq h.2.1)]; rfl
  · subst hk
    refine ⟨fun r' hr' => ?_, fun h => ?_, fun h _ => ?_, fun h => ?_⟩
    · cases hr.symm.trans hr'
      refine hO.to (fun j _ => ?_)
      show updV (bh_V σ (bh_K σ a) a) k (.int x) j = bh_V (bh_setI σ (bh_K σ a) a k x) (bh_K σ a) a j
      unfold updV bh_V
      by_cases hj : j = k
      · subst hj
        rw [if_pos rfl, if_neg (by rw [hi]; decide)]
        show _ = Value.int (if bh_K σ a = bh_K σ a ∧ a = a ∧ j = j then x else _)
        rw [if_pos ⟨rfl, rfl, rfl⟩]
      · rw [if_neg hj]
        show _ = if _ then va_rf (bh_R σ _ a j) else Value.int (if bh_K σ a = bh_K σ a ∧ a = a ∧ j = k then x else bh_I σ (bh_K σ a) a j)
        have e9 : (if bh_K σ a = bh_K σ a ∧ a = a ∧ j = k then x else bh_I σ (bh_K σ a) a j) = bh_I σ (bh_K σ a) a j := if_neg (fun h => hj h.2.2)
        rw [e9]
    · change bh_K σ a = 12 ∨ bh_K σ a = 13 at h
      omega
    · change 14 ≤ bh_K σ a at h
      omega
    · change 14 ≤ bh_K σ a at h
      omega
theorem bh_Rep.putR (hR : bh_Rep D cy base e0 σ H) {ci k : Nat} {x : Option Nat} (hk : bh_K σ a = ci) {r : vw_C} (hr : vwCl[ci]? = some r) (hi : bh_isR ci k = true) (hsz : H1.size = H.size) (oq : ∀ q : Nat, q ≠ a → H1[q]? = H[q]?) (hO : t_OB a (D.1 ci) r.2.2 (D.2 ci) H1 (updV (bh_V σ ci a) k (va_rf x))) : bh_Rep D cy base e0 (bh_setR σ ci a k x) H1 := by
  have h12 : ci < 12 := (List.getElem?_eq_some_iff.mp hr).1
  refine hR.set (σ' := bh_setR σ ci a k x) (a := a) rfl rfl rfl rfl (fun _ _ _ _ => rfl) (fun c q k' hq => ?_) hsz oq ?_
  · show (if c = ci ∧ q = a ∧ k' = k then x else _) = _
    rw [if_neg (fun h => hq h.2.1)]; rfl
  · subst hk
    refine ⟨fun r' hr' => ?_, fun h => ?_, fun h _ => ?_, fun h => ?_⟩
    · cases hr.symm.trans hr'
      refine hO.to (fun j _ => ?_)
      show updV (bh_V σ (bh_K σ a) a) k (va_rf x) j = bh_V (bh_setR σ (bh_K σ a) a k x) (bh_K σ a) a j
      unfold updV bh_V
      by_cases hj : j = k
      · subst hj
        rw [if_pos rfl, if_pos hi]
        show _ = va_rf (if bh_K σ a = bh_K σ a ∧ a = a ∧ j = j then x else _)
        rw [if_pos ⟨rfl, rfl, rfl⟩]
      · rw [if_neg hj]
        show _ = if _ then va_rf (if bh_K σ a = bh_K σ a ∧ a = a ∧ j = k then x else bh_R σ (bh_K σ a) a j) else Value.int (bh_I σ _ a j)
        have e9 : (if bh_K σ a = bh_K σ a ∧ a = a ∧ j = k then x else bh_R σ (bh_K σ a) a j) = bh_R σ (bh_K σ a) a j := if_neg (fun h => hj h.2.2)
        rw [e9]
    · change bh_K σ a = 12 ∨ bh_K σ a = 13 at h
      omega
    · change 14 ≤ bh_K σ a at h
      omega
    · change 14 ≤ bh_K σ a at h
      omega
theorem bh_Rep.stI (hR : bh_Rep D cy base e0 σ H) {ci k : Nat} {x : Int32} (hk : bh_K σ a = ci) (hr : ci = 12 ∨ ci = 13) (hsz : H1.size = H.size) (oq : ∀ q : Nat, q ≠ a → H1[q]? = H[q]?) (hO : H1[a]? = some (arrV (cy ci) (bh_L σ a) (updV (fun j => .int (bh_I σ ci a j)) k (.int x)))) : bh_Rep D cy base e0 (bh_setI σ ci a k x) H1 := by
  refine hR.set (σ' := bh_setI σ ci a k x) (a := a) rfl rfl rfl rfl (fun c q k' hq => ?_) (fun _ _ _ _ => rfl) hsz oq ?_
  · show (if c = ci ∧ q = a ∧ k' = k then x else _) = _
    rw [if_neg (fun h => hq h.2.1)]; rfl
  · subst hk
    refine ⟨fun r' hr' => ?_, fun _ => ?_, fun h _ => ?_, fun h => ?_⟩
    · have h12 : bh_K σ a < 12 := (List.getElem?_eq_some_iff.mp hr').1
      omega
    · refine hO.trans ?_
      refine congrArg some (congrArg (arrV _ _) (funext fun j => ?_))
      unfold updV
      show _ = Value.int (if bh_K σ a = bh_K σ a ∧ a = a ∧ j = k then x else bh_I σ (bh_K σ a) a j)
      by_cases hj : j = k
      · rw [if_pos hj, if_pos ⟨rfl, rfl, hj⟩]
      · rw [if_neg hj, if_neg (fun h => hj h.2.2)]
    · change 14 ≤ bh_K σ a at h
      omega
    · change 14 ≤ bh_K σ a at h
      omega
theorem bh_Rep.stR (hR : bh_Rep D cy base e0 σ H) {ci k : Nat} {x : Option Nat} (hk : bh_K σ a = ci) (hr : 14 ≤ ci) (hsz : H1.size = H.size) (oq : ∀ q : Nat, q ≠ a → H1[q]? = H[q]?) (hO : H1[a]? = some (arrV (cy ci) (bh_L σ a) (updV (fun j => va_rf (bh_R σ ci a j)) k (va_rf x)))) : bh_Rep D cy base e0 (bh_setR σ ci a k x) H1 := by
  refine hR.set (σ' := bh_setR σ ci a k x) (a := a) rfl rfl rfl rfl (fun _ _ _ _ => rfl) (fun c q k' hq => ?_) hsz oq ?_
  · show (if c = ci ∧ q = a ∧ k' = k then x else _) = _
    rw [if_neg (fun h => hq h.2.1)]; rfl
  · subst hk
    refine ⟨fun r' hr' => ?_, fun h => ?_, fun _ _ => ?_, fun _ => bh_wk.of hO⟩
    · have h12 : bh_K σ a < 12 := (List.getElem?_eq_some_iff.mp hr').1
      omega
    · change bh_K σ a = 12 ∨ bh_K σ a = 13 at h
      omega
    · refine hO.trans ?_
      refine congrArg some (congrArg (arrV _ _) (funext fun j => ?_))
      unfold updV
      show _ = va_rf (if bh_K σ a = bh_K σ a ∧ a = a ∧ j = k then x else bh_R σ (bh_K σ a) a j)
      by_cases hj : j = k
      · rw [if_pos hj, if_pos ⟨rfl, rfl, hj⟩]
      · rw [if_neg hj, if_neg (fun h => hj h.2.2)]
/-- a new cell at the end -/
theorem bh_Rep.new (hR : bh_Rep D cy base e0 σ H) (hb : base ≤ H.size) {c N n : Nat} (hsz : H1.size = H.size + 1) (oq : ∀ q : Nat, q < H.size → H1[q]? = H[q]?) (hat : bh_at D cy (bh_new σ c N n) H1 H.size) : bh_Rep D cy base e0 (bh_new σ c N n) H1 := by
  obtain ⟨g1, g2, g3⟩ := hR
  refine ⟨by rw [hsz, g1]; rfl, g2, fun q hq => ?_⟩
  by_cases hqa : q = H.size
  · subst hqa
    exact ⟨Or.inl hb, hat⟩
  · have hqz : q ≠ bh_z σ := by rw [← g1]; exact hqa
    have eK : bh_K (bh_new σ c N n) q = bh_K σ q := if_neg hqz
    have eL : bh_L (bh_new σ c N n) q = bh_L σ q := if_neg hqz
    have eI' : ∀ c' k', bh_I (bh_new σ c N n) c' q k' = bh_I σ c' q k' := fun c' k' => if_neg (fun h => hqz h.2)
    have eR' : ∀ c' k', bh_R (bh_new σ c N n) c' q k' = bh_R σ c' q k' := fun c' k' => if_neg (fun h => hqz h.2)
    rw [eK] at hq
    obtain ⟨b1, b2, b3, b4, b5⟩ := g3 q hq
    have hlt : q < H.size := by
      by_cases h1 : bh_K σ q < 12
      · have hv : ∃ r, vwCl[bh_K σ q]? = some r := ⟨_, List.getElem?_eq_getElem (show bh_K σ q < vwCl.length from h1)⟩
        obtain ⟨r, hr⟩ := hv
        obtain ⟨cell, h, -⟩ := b2 r hr
        exact (Array.getElem?_eq_some_iff.mp h).1
      · by_cases h2 : bh_K σ q = 12 ∨ bh_K σ q = 13
        · exact (Array.getElem?_eq_some_iff.mp (b3 h2)).1
        · obtain ⟨cell, h, -⟩ := b5 (by omega)
          exact (Array.getElem?_eq_some_iff.mp h).1
    refine ⟨by rw [eK, eL]; exact b1, ?_, ?_, ?_, ?_⟩
    · intro r hr
      rw [eK] at hr ⊢
      refine ((b2 r hr).kept (oq q hlt)).to (fun j _ => ?_)
      simp only [bh_V, eI', eR']
    · intro h
      rw [eK] at h ⊢
      rw [oq q hlt, b3 h, eL]
      simp only [eI']
    · intro h h2
      rw [eK] at h ⊢
      rw [eL] at h2
      rw [oq q hlt, b4 h h2, eL]
      simp only [eR']
    · intro h
      rw [eK] at h ⊢
      rw [eL]
      exact (b5 h).kept (oq q hlt)
end BHR
section BHW
variable {p : Program} {l : Launch} {e : Env} {R : Room} {s : State} {m : MethodId} {args : Array Value} {below : List Frame} {meth : Method} {c : Code} {H : Heap} {locs : List Loc} {cells slots : Nat} {Q : State → Prop} {cc : ByteArray} {pc : Nat} {ls : Array Slot} {rest : List Value} {D : va_G} {cy : Nat → ClassId} {base e0 : Nat} {ws : List Cond} {own ref C : String} {T : u_T} {N ci index k a : Nat} {V : Nat → Value}
theorem bh_found (hts : ∀ w ∈ ws, w.before args s = true) (hin : ∀ w ∈ u_ws C T N, w ∈ ws) (hE : bh_Env D cy base e0 s) (hc : vwCl[ci]? = some (C, T, N)) (hk : k < N) (hsame : ref = (T k).1 ∨ Cond.sameField ref (T k).1 (T k).2.1 (T k).2.2.1 ∈ ws) :
    ∃ (cf : Nat) (kf : Class) (fi : Nat) (f : Field), s.fieldFound? (T k).1 (T k).2.1 (T k).2.2.1 = some (cf, kf, fi, f) ∧ s.fieldFound? ref (T k).2.1 (T k).2.2.1 = some (cf, kf, fi, f) ∧ f.isStatic = false ∧ f.slot = D.2 ci k := by
  obtain ⟨hS, hfc, kC, hkC, hkind⟩ := hE.1.1 ci _ hc
  obtain ⟨cf, kf, fi, f, hi, hsl⟩ := hS k hk
  refine ⟨cf, kf, fi, f, hi, ?_, (u_facts hfc hkC (u_lays hts hin hk) hi).1, hsl⟩
  rcases hsame with rfl | h
  · exact hi
  · exact u_same (hts _ h) _ hi
theorem bh_Wget (hexec : p.tables.exec = Jvm.exec) (hb : c.code = cc) (hts : ∀ w ∈ ws, w.before args s = true) (hin : ∀ w ∈ u_ws C T N, w ∈ ws) (hown : s.vm.findClass own = some m.cls) (hE : bh_Env D cy base e0 s) (hc : vwCl[ci]? = some (C, T, N)) (hk : k < N) (hlink : bh_fl ws own index ref (T k).2.1 (T k).2.2.1) (hsame : ref = (T k).1 ∨ Cond.sameField ref (T k).1 (T k).2.1 (T k).2.2.1 ∈ ws) (hO : t_OB a (D.1 ci) N (D.2 ci) H V) (hdg : decode cc pc = .ok (.getfield index, 3))
    (kk : W p l e R s m args below meth c H locs cells slots Q (F0 m (pc + 3) ls (V k :: rest))) : W p l e R s m args below meth c H locs cells slots Q (F0 m pc ls (.ref a :: rest)) := by
  obtain ⟨cf, kf, fi, f, hi, hi', hst, hsl⟩ := bh_found hts hin hE hc hk hsame
  obtain ⟨cell, q1, q2, q3, q4⟩ := hO
  have hv : cell.slots[f.slot]? = some (V k) := by rw [hsl]; exact q4 k hk
  rcases hlink with h | ⟨host, h⟩
  · exact W.getf hexec hb hown (hts _ h) hi' hst q1 (by rw [q3]; exact fun h => by cases h) hv rfl rfl hdg kk
  · exact va_Wgetf hexec hb hown (va_Nw.use rfl (hE.2.1 _ h)) hi' hst q1 (by rw [q3]; exact fun h => by cases h) hv rfl rfl hdg kk
theorem bh_Wput (hexec : p.tables.exec = Jvm.exec) (hb : c.code = cc) (hts : ∀ w ∈ ws, w.before args s = true) (hin : ∀ w ∈ u_ws C T N, w ∈ ws) (ty0 : Nat → FieldType) (hty : ∀ k, k < N → parseFieldDescriptor (T k).2.2.1 = some (ty0 k)) (hnm : ∀ a, a < N → ∀ b, b < N → a ≠ b → (T a).2.1 ≠ (T b).2.1) (hown : s.vm.findClass own = some m.cls) (hE : bh_Env D cy base e0 s) (hc : vwCl[ci]? = some (C, T, N)) (hk : k < N) (hlink : bh_fl ws own index ref (T k).2.1 (T k).2.2.1) (hsame : ref = (T k).1 ∨ Cond.sameField ref (T k).1 (T k).2.1 (T k).2.2.1 ∈ ws)
    (hfin : (T k).2.2.2 = false ∨ ((T k).2.2.2 = true ∧ meth.name = "<init>" ∧ (T k).1 = own ∧ Cond.fieldLink own index ref (T k).2.1 (T k).2.2.1 ∈ ws)) {v : Value} (hn : narrow (ty0 k) v = v) (hfit : fits (ty0 k) v = true) (hO : t_OB a (D.1 ci) N (D.2 ci) H V) (hdg : decode cc pc = .ok (.putfield index, 3))
    (kk : ∀ (H1 : Heap) (L : List Loc), (∀ q ∈ L, q.base = a) → H1.size = H.size → (∀ q : Nat, q ≠ a → H1[q]? = H[q]?) → t_OB a (D.1 ci) N (D.2 ci) H1 (updV V k v) → W p l e R s m args below meth c H1 (locs ++ L) cells slots Q (F0 m (pc + 3) ls rest)) : W p l e R s m args below meth c H locs cells slots Q (F0 m pc ls (v :: .ref a :: rest)) := by
  obtain ⟨cf, kf, fi, f, hi, hi', hst, hsl⟩ := bh_found hts hin hE hc hk hsame
  have hap := va_apart (own := own) hts hin ty0 hty hnm hE.1 hc
  obtain ⟨hS, hfc, kC, hkC, hkind⟩ := hE.1.1 ci _ hc
  obtain ⟨cell, q1, q2, q3, q4⟩ := hO
  have hlt : f.slot < cell.slots.size := by rw [hsl]; exact k2_hasslot (q4 k hk)
  have key : ∀ H' : Heap, H'[a]? = some (cell.setSlot f.slot v) → H'.size = H.size → (∀ q, q ≠ a → H'[q]? = H[q]?) → W p l e R s m args below meth c H' (locs ++ [⟨a, f.slot⟩]) cells slots Q (F0 m (pc + 3) ls rest) := fun H' e1 e2 e3 => by
    rw [hsl] at e1
    exact kk H' _ (fun q hq => by rw [List.mem_singleton.mp hq]) e2 e3 ⟨_, e1, q2, q3, t_set q4 hap hk v⟩
  rcases hfin with hfin | ⟨hfin, hini, hdecl, hl9⟩
  · have hlay := hts _ (hin _ (u_in_lay hk))
    unfold u_lay at hlay
    rw [if_neg (by rw [hfin]; decide)] at hlay
    have h6 := u_store hfc hkC hkind hlay hi (hty k hk) hn hfit
    rcases hlink with h | ⟨host, h⟩
    · exact W.putK hexec hb (f := f) ⟨hown, hts _ h, ⟨_, _, _, hi'⟩, hst⟩ (by rw [q2]; exact h6) q1 q3 hlt rfl rfl hdg key
    · exact va_WputK hexec hb (f := f) hown (va_Nw.use rfl (hE.2.1 _ h)) hi' hst (by rw [q2]; exact h6) q1 q3 hlt rfl rfl hdg key
  · have hlay := hts _ (hin _ (u_in_lay hk))
    unfold u_lay at hlay
    rw [if_pos hfin] at hlay
    have hcf : m.cls = cf := by
      obtain ⟨_, _, c', _, _, _, -, -, hf', -, -, -, hown2, -⟩ := Cond.laysFinal_spec hlay
      have e1 : c' = cf := by have := hi.symm.trans hf'; simp at this; exact this.1.symm
      rw [hdecl] at hown2
      rw [← e1]; exact Option.some.inj (hown.symm.trans hown2)
    have h6 := u_fits hfc hkC hkind (Or.inr hlay) hi (hty k hk) hn hfit
    exact W.putFinK hexec hb hown (hts _ hl9) hi' hst hcf hini (by rw [q2]; exact h6) q1 q3 hlt rfl rfl hdg key
theorem bh_Wcall {mc ms : Nat} {st0 : List Value} {rv : Option Value} {σ1 : bh_S} {av : Array Value} {H0 : Heap} (hr : va_Run p l e R s m args below meth c H locs cells slots mc ms (F0 m pc ls st0) rest (bh_Q D cy base e0 rv σ1 av) (fun q => base ≤ q)) (hS : va_S (fun q => base ≤ q) H0 H locs)
    (kk : ∀ (H1 : Heap) (locs1 : List Loc), bh_Rep D cy base e0 σ1 H1 → va_S (fun q => base ≤ q) H0 H1 locs1 → W p l e R s m args below meth c H1 locs1 (cells + mc) (slots + ms) Q (F0 m (pc + 3) ls (rv.toList ++ rest))) : W p l e R s m args below meth c H locs cells slots Q (F0 m pc ls st0) := by
  intro T hT X
  obtain ⟨v, st₀, t, T', L, h0, X', hL, e1, e2, ⟨hv, hP, hz, hk⟩, st⟩ := hr T hT X
  cases hv
  rw [h0] at hz hk
  obtain ⟨t2, a1, b1⟩ := kk T'.heap (locs ++ L) (by rw [e1]; exact hP)
    ⟨Nat.le_trans hS.1 (by rw [e1]; exact hz), fun q h1 h2 => by rw [e1, hk q (Nat.lt_of_lt_of_le h1 hS.1) h2]; exact hS.2.1 q h1 h2, fun q hq => by
      rcases List.mem_append.mp hq with h | h
      · exact hS.2.2 q h
      · exact hL q h⟩ T' rfl X'
  exact ⟨t2, st t2 a1, b1⟩
end BHW
/-- the environment goes along: a callee's start -/
theorem bh_Env.moved {D : va_G} {cy : Nat → ClassId} {base e0 : Nat} {s U : State} {H : Heap} {locs : List Loc} (h : bh_Env D cy base e0 s) (hS : va_S (fun q => base ≤ q) s.heap H locs) (hU : U.heap = H) (hW : s.WarmedH U.vm) : bh_Env D cy base e0 U := by
  obtain ⟨h1, h2, h3, ⟨h4, h5, h6⟩, h7, h8, h9, h10⟩ := h
  refine ⟨va_K.moved hW.alike h1, fun w hw => bh_Nw_warm (bh_nestN w hw) hW (h2 w hw), by rw [hU]; exact Nat.le_trans h3 hS.1, ⟨va_AO.moved hW.alike h4, va_AO.moved hW.alike h5, va_AO.moved hW.alike h6⟩, ?_, va_Mi.moved hW.alike h8, va_Dc.moved hW.alike h9, bh_AOA.moved hW.alike h10⟩
  rw [hU]
  exact (va_Z.kept h7 hS.2.1).moved hW.alike
theorem bh_Env.blind {D : va_G} {cy : Nat → ClassId} {base e0 : Nat} {U : State} {g : JFrame} {mk : MethodId} {a : Array Value} (h : bh_Env D cy base e0 U) : bh_Env D cy base e0 (U.calling g mk a) := by
  obtain ⟨h1, h2, h3, ⟨h4, h5, h6⟩, h7, h8, h9, h10⟩ := h
  have hvm : U.vm.Alike (U.calling g mk a).vm := Vm.Alike.refl U.vm
  exact ⟨va_K.moved hvm h1, fun w hw => va_Nw.same (u := U) (U := U.calling g mk a) (by have := bh_nestN w hw; cases w <;> first | exact (Bool.false_ne_true this).elim | rfl) rfl (h2 w hw), h3, ⟨va_AO.moved hvm h4, va_AO.moved hvm h5, va_AO.moved hvm h6⟩, va_Z.moved hvm h7, va_Mi.moved hvm h8, va_Dc.moved hvm h9, bh_AOA.moved hvm h10⟩
theorem bh_rdI_spec {σ : bh_S} {c a k : Nat} {v : Int32} (h : bh_rdI σ c a k = some v) : bh_K σ a = c ∧ v = bh_I σ c a k := by
  unfold bh_rdI at h
  split at h
  · exact ⟨by assumption, (Option.some.inj h).symm⟩
  · cases h
theorem bh_rdR_spec {σ : bh_S} {c a k : Nat} {v : Option Nat} (h : bh_rdR σ c a k = some v) : bh_K σ a = c ∧ v = bh_R σ c a k := by
  unfold bh_rdR at h
  split at h
  · exact ⟨by assumption, (Option.some.inj h).symm⟩
  · cases h
theorem bh_wrI_spec {σ σ1 : bh_S} {c a k : Nat} {v : Int32} (h : bh_wrI σ c a k v = some σ1) : bh_K σ a = c ∧ σ1 = bh_setI σ c a k v := by
  unfold bh_wrI at h
  split at h
  · exact ⟨by assumption, (Option.some.inj h).symm⟩
  · cases h
theorem bh_wrZ_spec {σ σ1 : bh_S} {c a k : Nat} {v : Int32} (h : bh_wrZ σ c a k v = some σ1) : (bh_K σ a = c ∧ (v = 0 ∨ v = 1)) ∧ σ1 = bh_setI σ c a k v := by
  unfold bh_wrZ at h
  split at h
  · exact ⟨by assumption, (Option.some.inj h).symm⟩
  · cases h
theorem bh_wrR_spec {σ σ1 : bh_S} {c a k : Nat} {v : Option Nat} (h : bh_wrR σ c a k v = some σ1) : bh_K σ a = c ∧ σ1 = bh_setR σ c a k v := by
  unfold bh_wrR at h
  split at h
  · exact ⟨by assumption, (Option.some.inj h).symm⟩
  · cases h
section BHJ2
variable {α : Type} {em : α → Option Value} {y : MethodName} {cc : ByteArray} {ws : List Cond} {ret : Option FieldType} {NL FR LO : Nat} {X : bh_X} {σ : bh_S} {pc : Nat} {lv : List (Nat × Value)} {st : List Value} {res : Option (α × bh_S)}

theorem bj_getI {ci k index N a : Nat} {C ref : String} {T : u_T} {f : Int32 → Option (α × bh_S)} (hc : vwCl[ci]? = some (C, T, N)) (hin : ∀ w ∈ u_ws C T N, w ∈ ws) (hk : k < N) (hI : bh_isR ci k = false) (hlink : bh_fl ws y.cls index ref (T k).2.1 (T k).2.2.1) (hsame : ref = (T k).1 ∨ Cond.sameField ref (T k).1 (T k).2.1 (T k).2.2.1 ∈ ws) (hdg : decode cc pc = .ok (.getfield index, 3)) (kk : ∀ v : Int32, bh_rdI σ ci a k = some v → bh_J em y cc ws ret NL FR LO X σ (pc + 3) lv (.int v :: st) (f v)) : bh_J em y cc ws ret NL FR LO X σ pc lv (.ref a :: st) ((bh_rdI σ ci a k).bind f) := by
  refine bj_op (fun v hv => ?_)
  obtain ⟨hK, hV⟩ := bh_rdI_spec hv
  intro r σ' hres
  obtain ⟨hm, hk9⟩ := kk v hv r σ' hres
  refine ⟨hm, fun hC => ?_⟩
  have hk9 := hk9 hC
  obtain ⟨l, p, e, s, m, args, below, meth, c, D, cy, base, e0, z0, n0⟩ := X
  obtain ⟨hx, hb, hml, hown, hts, hrt, hlk, hnm, hE⟩ := hC
  intro h0 h1 H locs ls hR hS hl

  have hVk : bh_V σ ci a k = .int v := by rw [hV]; unfold bh_V; rw [hI]; rfl
  exact bh_Wget hx hb hts hin hown hE hc hk hlink hsame (hR.obj hK hc).2 hdg (by rw [hVk]; exact hk9 h0 h1 H locs ls hR hS hl)
theorem bj_getR {ci k index N a : Nat} {C ref : String} {T : u_T} {f : Option Nat → Option (α × bh_S)} (hc : vwCl[ci]? = some (C, T, N)) (hin : ∀ w ∈ u_ws C T N, w ∈ ws) (hk : k < N) (hI : bh_isR ci k = true) (hlink : bh_fl ws y.cls index ref (T k).2.1 (T k).2.2.1) (hsame : ref = (T k).1 ∨ Cond.sameField ref (T k).1 (T k).2.1 (T k).2.2.1 ∈ ws) (hdg : decode cc pc = .ok (.getfield index, 3)) (kk : ∀ v : Option Nat, bh_rdR σ ci a k = some v → bh_J em y cc ws ret NL FR LO X σ (pc + 3) lv (va_rf v :: st) (f v)) : bh_J em y cc ws ret NL FR LO X σ pc lv (.ref a :: st) ((bh_rdR σ ci a k).bind f) := by
  refine bj_op (fun v hv => ?_)
  obtain ⟨hK, hV⟩ := bh_rdR_spec hv
  intro r σ' hres
  obtain ⟨hm, hk9⟩ := kk v hv r σ' hres
  refine ⟨hm, fun hC => ?_⟩
  have hk9 := hk9 hC
  obtain ⟨l, p, e, s, m, args, below, meth, c, D, cy, base, e0, z0, n0⟩ := X
  obtain ⟨hx, hb, hml, hown, hts, hrt, hlk, hnm, hE⟩ := hC
  intro h0 h1 H locs ls hR hS hl

  have hVk : bh_V σ ci a k = va_rf v := by rw [hV]; unfold bh_V; rw [hI]; rfl
  exact bh_Wget hx hb hts hin hown hE hc hk hlink hsame (hR.obj hK hc).2 hdg (by rw [hVk]; exact hk9 h0 h1 H locs ls hR hS hl)
theorem bj_putI {ci k index N a : Nat} {C ref : String} {T : u_T} {v : Int32} {f : bh_S → Option (α × bh_S)} (hc : vwCl[ci]? = some (C, T, N)) (hin : ∀ w ∈ u_ws C T N, w ∈ ws) (hk : k < N) (hI : bh_isR ci k = false) (hlink : bh_fl ws y.cls index ref (T k).2.1 (T k).2.2.1) (hsame : ref = (T k).1 ∨ Cond.sameField ref (T k).1 (T k).2.1 (T k).2.2.1 ∈ ws) (ty0 : Nat → FieldType) (hty : ∀ k, k < N → parseFieldDescriptor (T k).2.2.1 = some (ty0 k)) (hnm0 : ∀ a, a < N → ∀ b, b < N → a ≠ b → (T a).2.1 ≠ (T b).2.1) (hty9 : ty0 k = .int) (hfin : (T k).2.2.2 = false ∨ ((T k).2.2.2 = true ∧ y.name = "<init>" ∧ (T k).1 = y.cls ∧ Cond.fieldLink y.cls index ref (T k).2.1 (T k).2.2.1 ∈ ws)) (hdg : decode cc pc = .ok (.putfield index, 3)) (kk : ∀ σ1 : bh_S, bh_wrI σ ci a k v = some σ1 → bh_J em y cc ws ret NL FR LO X σ1 (pc + 3) lv st (f σ1)) : bh_J em y cc ws ret NL FR LO X σ pc lv (.int v :: .ref a :: st) ((bh_wrI σ ci a k v).bind f) := by
  refine bj_op (fun σ1 hv => ?_)
  have kk := kk σ1 hv
  obtain ⟨hK, rfl⟩ := bh_wrI_spec hv
  intro r σ' hres
  obtain ⟨hm, hk9⟩ := kk r σ' hres
  refine ⟨hm, fun hC => ?_⟩
  have hk9 := hk9 hC
  obtain ⟨l, p, e, s, m, args, below, meth, c, D, cy, base, e0, z0, n0⟩ := X
  obtain ⟨hx, hb, hml, hown, hts, hrt, hlk, hnm, hE⟩ := hC
  intro h0 h1 H locs ls hR hS hl

  obtain ⟨hab, hO⟩ := hR.obj hK hc
  refine bh_Wput hx hb hts hin ty0 hty hnm0 hown hE hc hk hlink hsame (by rcases hfin with h | ⟨g1, g2, g3, g4⟩; exact Or.inl h; exact Or.inr ⟨g1, hnm g2, g3, g4⟩) (by rw [hty9]; rfl) (by rw [hty9]; rfl) hO hdg (fun H1 L hL hsz oq hO1 => ?_)
  exact hk9 h0 h1 H1 (locs ++ L) ls (hR.putI hK hc hI hsz oq hO1) ⟨by rw [hsz]; exact hS.1, fun q g1 g2 => by rw [oq q (fun e9 => g2 (by rw [e9]; exact hab))]; exact hS.2.1 q g1 g2, fun q hq => by rcases List.mem_append.mp hq with h | h; exact hS.2.2 q h; rw [hL q h]; exact hab⟩ hl
theorem bj_putZ {ci k index N a : Nat} {C ref : String} {T : u_T} {v : Int32} {f : bh_S → Option (α × bh_S)} (hc : vwCl[ci]? = some (C, T, N)) (hin : ∀ w ∈ u_ws C T N, w ∈ ws) (hk : k < N) (hI : bh_isR ci k = false) (hlink : bh_fl ws y.cls index ref (T k).2.1 (T k).2.2.1) (hsame : ref = (T k).1 ∨ Cond.sameField ref (T k).1 (T k).2.1 (T k).2.2.1 ∈ ws) (ty0 : Nat → FieldType) (hty : ∀ k, k < N → parseFieldDescriptor (T k).2.2.1 = some (ty0 k)) (hnm0 : ∀ a, a < N → ∀ b, b < N → a ≠ b → (T a).2.1 ≠ (T b).2.1) (hty9 : ty0 k = .boolean) (hfin : (T k).2.2.2 = false ∨ ((T k).2.2.2 = true ∧ y.name = "<init>" ∧ (T k).1 = y.cls ∧ Cond.fieldLink y.cls index ref (T k).2.1 (T k).2.2.1 ∈ ws)) (hdg : decode cc pc = .ok (.putfield index, 3)) (kk : ∀ σ1 : bh_S, bh_wrZ σ ci a k v = some σ1 → bh_J em y cc ws ret NL FR LO X σ1 (pc + 3) lv st (f σ1)) : bh_J em y cc ws ret NL FR LO X σ pc lv (.int v :: .ref a :: st) ((bh_wrZ σ ci a k v).bind f) := by
  refine bj_op (fun σ1 hv => ?_)
  have kk := kk σ1 hv
  obtain ⟨hK, rfl⟩ := bh_wrZ_spec hv
  intro r σ' hres
  obtain ⟨hm, hk9⟩ := kk r σ' hres
  refine ⟨hm, fun hC => ?_⟩
  have hk9 := hk9 hC
  obtain ⟨l, p, e, s, m, args, below, meth, c, D, cy, base, e0, z0, n0⟩ := X
  obtain ⟨hx, hb, hml, hown, hts, hrt, hlk, hnm, hE⟩ := hC
  intro h0 h1 H locs ls hR hS hl

  obtain ⟨hab, hO⟩ := hR.obj hK.1 hc
  refine bh_Wput hx hb hts hin ty0 hty hnm0 hown hE hc hk hlink hsame (by rcases hfin with h | ⟨g1, g2, g3, g4⟩; exact Or.inl h; exact Or.inr ⟨g1, hnm g2, g3, g4⟩) (by rw [hty9]; rcases hK.2 with rfl | rfl <;> rfl) (by rw [hty9]; rcases hK.2 with rfl | rfl <;> rfl) hO hdg (fun H1 L hL hsz oq hO1 => ?_)
  exact hk9 h0 h1 H1 (locs ++ L) ls (hR.putI hK.1 hc hI hsz oq hO1) ⟨by rw [hsz]; exact hS.1, fun q g1 g2 => by rw [oq q (fun e9 => g2 (by rw [e9]; exact hab))]; exact hS.2.1 q g1 g2, fun q hq => by rcases List.mem_append.mp hq with h | h; exact hS.2.2 q h; rw [hL q h]; exact hab⟩ hl
theorem bj_putR {ci k index N a : Nat} {C ref : String} {T : u_T} {v : Option Nat} {f : bh_S → Option (α × bh_S)} (hc : vwCl[ci]? = some (C, T, N)) (hin : ∀ w ∈ u_ws C T N, w ∈ ws) (hk : k < N) (hI : bh_isR ci k = true) (hlink : bh_fl ws y.cls index ref (T k).2.1 (T k).2.2.1) (hsame : ref = (T k).1 ∨ Cond.sameField ref (T k).1 (T k).2.1 (T k).2.2.1 ∈ ws) (ty0 : Nat → FieldType) (hty : ∀ k, k < N → parseFieldDescriptor (T k).2.2.1 = some (ty0 k)) (hnm0 : ∀ a, a < N → ∀ b, b < N → a ≠ b → (T a).2.1 ≠ (T b).2.1) (hty9 : (∃ n, ty0 k = .object n) ∨ ∃ t, ty0 k = .array t) (hfin : (T k).2.2.2 = false ∨ ((T k).2.2.2 = true ∧ y.name = "<init>" ∧ (T k).1 = y.cls ∧ Cond.fieldLink y.cls index ref (T k).2.1 (T k).2.2.1 ∈ ws)) (hdg : decode cc pc = .ok (.putfield index, 3)) (kk : ∀ σ1 : bh_S, bh_wrR σ ci a k v = some σ1 → bh_J em y cc ws ret NL FR LO X σ1 (pc + 3) lv st (f σ1)) : bh_J em y cc ws ret NL FR LO X σ pc lv (va_rf v :: .ref a :: st) ((bh_wrR σ ci a k v).bind f) := by
  refine bj_op (fun σ1 hv => ?_)
  have kk := kk σ1 hv
  obtain ⟨hK, rfl⟩ := bh_wrR_spec hv
  intro r σ' hres
  obtain ⟨hm, hk9⟩ := kk r σ' hres
  refine ⟨hm, fun hC => ?_⟩
  have hk9 := hk9 hC
  obtain ⟨l, p, e, s, m, args, below, meth, c, D, cy, base, e0, z0, n0⟩ := X
  obtain ⟨hx, hb, hml, hown, hts, hrt, hlk, hnm, hE⟩ := hC
  intro h0 h1 H locs ls hR hS hl

  obtain ⟨hab, hO⟩ := hR.obj hK hc
  refine bh_Wput hx hb hts hin ty0 hty hnm0 hown hE hc hk hlink hsame (by rcases hfin with h | ⟨g1, g2, g3, g4⟩; exact Or.inl h; exact Or.inr ⟨g1, hnm g2, g3, g4⟩) (by rcases hty9 with ⟨n, e9⟩ | ⟨n, e9⟩ <;> rw [e9] <;> cases v <;> rfl) (by rcases hty9 with ⟨n, e9⟩ | ⟨n, e9⟩ <;> rw [e9] <;> cases v <;> rfl) hO hdg (fun H1 L hL hsz oq hO1 => ?_)
  exact hk9 h0 h1 H1 (locs ++ L) ls (hR.putR hK hc hI hsz oq hO1) ⟨by rw [hsz]; exact hS.1, fun q g1 g2 => by rw [oq q (fun e9 => g2 (by rw [e9]; exact hab))]; exact hS.2.1 q g1 g2, fun q hq => by rcases List.mem_append.mp hq with h | h; exact hS.2.2 q h; rw [hL q h]; exact hab⟩ hl

theorem bh_ldI_spec {σ : bh_S} {c a : Nat} {i v : Int32} (h : bh_ldI σ c a i = some v) : (bh_K σ a = c ∧ ¬ (i < 0 ∨ bh_L σ a ≤ i.toNatClampNeg)) ∧ v = bh_I σ c a i.toNatClampNeg := by
  unfold bh_ldI at h
  split at h
  · exact ⟨by assumption, (Option.some.inj h).symm⟩
  · cases h
theorem bh_ldR_spec {σ : bh_S} {c a : Nat} {i : Int32} {v : Option Nat} (h : bh_ldR σ c a i = some v) : (bh_K σ a = c ∧ ¬ (i < 0 ∨ bh_L σ a ≤ i.toNatClampNeg)) ∧ v = bh_R σ c a i.toNatClampNeg := by
  unfold bh_ldR at h
  split at h
  · exact ⟨by assumption, (Option.some.inj h).symm⟩
  · cases h
theorem bh_stI_spec {σ σ1 : bh_S} {c a : Nat} {i v : Int32} (h : bh_stI σ c a i v = some σ1) : (bh_K σ a = c ∧ ¬ (i < 0 ∨ bh_L σ a ≤ i.toNatClampNeg)) ∧ σ1 = bh_setI σ c a i.toNatClampNeg v := by
  unfold bh_stI at h
  split at h
  · exact ⟨by assumption, (Option.some.inj h).symm⟩
  · cases h
theorem bh_stZ_spec {σ σ1 : bh_S} {c a : Nat} {i v : Int32} (h : bh_stZ σ c a i v = some σ1) : (bh_K σ a = c ∧ ¬ (i < 0 ∨ bh_L σ a ≤ i.toNatClampNeg) ∧ (v = 0 ∨ v = 1)) ∧ σ1 = bh_setI σ c a i.toNatClampNeg v := by
  unfold bh_stZ at h
  split at h
  · exact ⟨by assumption, (Option.some.inj h).symm⟩
  · cases h
theorem bh_stR_spec {σ σ1 : bh_S} {c a : Nat} {i : Int32} {v : Option Nat} (h : bh_stR σ c a i v = some σ1) : (bh_K σ a = c ∧ ¬ (i < 0 ∨ bh_L σ a ≤ i.toNatClampNeg) ∧ bh_mayLie σ c v = true) ∧ σ1 = bh_setR σ c a i.toNatClampNeg v := by
  unfold bh_stR at h
  split at h
  · exact ⟨by assumption, (Option.some.inj h).symm⟩
  · cases h
theorem bh_len_spec {σ : bh_S} {c a : Nat} {v : Int32} (h : bh_len σ c a = some v) : bh_K σ a = c ∧ v = Int32.ofNat (bh_L σ a) := by
  unfold bh_len at h
  split at h
  · exact ⟨by assumption, (Option.some.inj h).symm⟩
  · cases h
theorem bh_ab {base n : Nat} {a : Nat} {i : Int32} (h : base ≤ a ∨ n = 0) (hi : ¬ (i < 0 ∨ n ≤ i.toNatClampNeg)) : base ≤ a := by
  rcases h with h | h
  · exact h
  · exact absurd (Or.inr (by rw [h]; exact Nat.zero_le _)) hi

theorem bj_iald {a : Nat} {i : Int32} {f : Int32 → Option (α × bh_S)} (hdg : decode cc pc = .ok (.iaload, 1)) (kk : ∀ v : Int32, bh_ldI σ 12 a i = some v → bh_J em y cc ws ret NL FR LO X σ (pc + 1) lv (.int v :: st) (f v)) : bh_J em y cc ws ret NL FR LO X σ pc lv (.int i :: .ref a :: st) ((bh_ldI σ 12 a i).bind f) := by
  refine bj_op (fun v hv => ?_)
  obtain ⟨⟨hK, hi⟩, hV⟩ := bh_ldI_spec hv
  intro r σ' hres
  obtain ⟨hm, hk9⟩ := kk v hv r σ' hres
  refine ⟨hm, fun hC => ?_⟩
  have hk9 := hk9 hC
  obtain ⟨l, p, e, s, m, args, below, meth, c, D, cy, base, e0, z0, n0⟩ := X
  obtain ⟨hx, hb, hml, hown, hts, hrt, hlk, hnm, hE⟩ := hC
  intro h0 h1 H locs ls hR hS hl

  have hlt : i.toNatClampNeg < bh_L σ a := Nat.not_le.mp fun q => hi (Or.inr q)
  exact W.iald (v := .int v) hx hb (hR.ints hK (by decide)).2 ((hE.1.2 0 _ rfl).1 _ _) (fun q => by cases q) (by rw [arrV_size]; exact hi) (by rw [arrV_read _ _ hlt, hV]) rfl rfl hdg (hk9 h0 h1 H locs ls hR hS hl)
theorem bj_zald {a : Nat} {i : Int32} {f : Int32 → Option (α × bh_S)} (hdg : decode cc pc = .ok (.baload, 1)) (kk : ∀ v : Int32, bh_ldI σ 13 a i = some v → bh_J em y cc ws ret NL FR LO X σ (pc + 1) lv (.int v :: st) (f v)) : bh_J em y cc ws ret NL FR LO X σ pc lv (.int i :: .ref a :: st) ((bh_ldI σ 13 a i).bind f) := by
  refine bj_op (fun v hv => ?_)
  obtain ⟨⟨hK, hi⟩, hV⟩ := bh_ldI_spec hv
  intro r σ' hres
  obtain ⟨hm, hk9⟩ := kk v hv r σ' hres
  refine ⟨hm, fun hC => ?_⟩
  have hk9 := hk9 hC
  obtain ⟨l, p, e, s, m, args, below, meth, c, D, cy, base, e0, z0, n0⟩ := X
  obtain ⟨hx, hb, hml, hown, hts, hrt, hlk, hnm, hE⟩ := hC
  intro h0 h1 H locs ls hR hS hl

  have hlt : i.toNatClampNeg < bh_L σ a := Nat.not_le.mp fun q => hi (Or.inr q)
  exact W.zald (v := .int v) hx hb (hR.ints hK (by decide)).2 ((hE.1.2 1 _ rfl).1 _ _) (fun q => by cases q) (by rw [arrV_size]; exact hi) (by rw [arrV_read _ _ hlt, hV]) rfl rfl hdg (hk9 h0 h1 H locs ls hR hS hl)
theorem bj_iast {a : Nat} {i v : Int32} {f : bh_S → Option (α × bh_S)} (hdg : decode cc pc = .ok (.iastore, 1)) (kk : ∀ σ1 : bh_S, bh_stI σ 12 a i v = some σ1 → bh_J em y cc ws ret NL FR LO X σ1 (pc + 1) lv st (f σ1)) : bh_J em y cc ws ret NL FR LO X σ pc lv (.int v :: .int i :: .ref a :: st) ((bh_stI σ 12 a i v).bind f) := by
  refine bj_op (fun σ1 hv => ?_)
  have kk := kk σ1 hv
  obtain ⟨⟨hK, hi⟩, rfl⟩ := bh_stI_spec hv
  intro r σ' hres
  obtain ⟨hm, hk9⟩ := kk r σ' hres
  refine ⟨hm, fun hC => ?_⟩
  have hk9 := hk9 hC
  obtain ⟨l, p, e, s, m, args, below, meth, c, D, cy, base, e0, z0, n0⟩ := X
  obtain ⟨hx, hb, hml, hown, hts, hrt, hlk, hnm, hE⟩ := hC
  intro h0 h1 H locs ls hR hS hl

  obtain ⟨hab0, hO⟩ := hR.ints hK (by decide)
  have hab := bh_ab hab0 hi
  refine W.iast hx hb hO ((hE.1.2 0 _ rfl).1 _ _) (fun q => by cases q) (by rw [arrV_size]; exact hi) rfl rfl hdg (fun H1 e1 hsz oq => ?_)
  rw [arrV_store] at e1
  exact hk9 h0 h1 H1 _ ls (hR.stI hK (by decide) hsz oq e1) ⟨by rw [hsz]; exact hS.1, fun q g1 g2 => by rw [oq q (fun e9 => g2 (by rw [e9]; exact hab))]; exact hS.2.1 q g1 g2, fun q hq => by rcases List.mem_append.mp hq with h | h; exact hS.2.2 q h; rw [List.mem_singleton.mp h]; exact hab⟩ hl
theorem bj_zast {a : Nat} {i v : Int32} {f : bh_S → Option (α × bh_S)} (hdg : decode cc pc = .ok (.bastore, 1)) (kk : ∀ σ1 : bh_S, bh_stZ σ 13 a i v = some σ1 → bh_J em y cc ws ret NL FR LO X σ1 (pc + 1) lv st (f σ1)) : bh_J em y cc ws ret NL FR LO X σ pc lv (.int v :: .int i :: .ref a :: st) ((bh_stZ σ 13 a i v).bind f) := by
  refine bj_op (fun σ1 hv => ?_)
  have kk := kk σ1 hv
  obtain ⟨⟨hK, hi, h01⟩, rfl⟩ := bh_stZ_spec hv
  intro r σ' hres
  obtain ⟨hm, hk9⟩ := kk r σ' hres
  refine ⟨hm, fun hC => ?_⟩
  have hk9 := hk9 hC
  obtain ⟨l, p, e, s, m, args, below, meth, c, D, cy, base, e0, z0, n0⟩ := X
  obtain ⟨hx, hb, hml, hown, hts, hrt, hlk, hnm, hE⟩ := hC
  intro h0 h1 H locs ls hR hS hl

  obtain ⟨hab0, hO⟩ := hR.ints hK (by decide)
  have hab := bh_ab hab0 hi
  refine W.zast hx hb hO ((hE.1.2 1 _ rfl).1 _ _) (fun q => by cases q) (by rw [arrV_size]; exact hi) rfl rfl hdg (fun H1 e1 hsz oq => ?_)
  have e2 : narrow .boolean (.int v) = .int v := by rcases h01 with rfl | rfl <;> rfl
  rw [e2] at e1
  rw [arrV_store] at e1
  exact hk9 h0 h1 H1 _ ls (hR.stI hK (by decide) hsz oq e1) ⟨by rw [hsz]; exact hS.1, fun q g1 g2 => by rw [oq q (fun e9 => g2 (by rw [e9]; exact hab))]; exact hS.2.1 q g1 g2, fun q hq => by rcases List.mem_append.mp hq with h | h; exact hS.2.2 q h; rw [List.mem_singleton.mp h]; exact hab⟩ hl
theorem bj_aald {ci a : Nat} {i : Int32} {f : Option Nat → Option (α × bh_S)} (hci : 14 ≤ ci ∧ ci < 18) (hdg : decode cc pc = .ok (.aaload, 1)) (kk : ∀ v : Option Nat, bh_ldR σ ci a i = some v → bh_J em y cc ws ret NL FR LO X σ (pc + 1) lv (va_rf v :: st) (f v)) : bh_J em y cc ws ret NL FR LO X σ pc lv (.int i :: .ref a :: st) ((bh_ldR σ ci a i).bind f) := by
  refine bj_op (fun v hv => ?_)
  obtain ⟨⟨hK, hi⟩, hV⟩ := bh_ldR_spec hv
  intro r σ' hres
  obtain ⟨hm, hk9⟩ := kk v hv r σ' hres
  refine ⟨hm, fun hC => ?_⟩
  have hk9 := hk9 hC
  obtain ⟨l, p, e, s, m, args, below, meth, c, D, cy, base, e0, z0, n0⟩ := X
  obtain ⟨hx, hb, hml, hown, hts, hrt, hlk, hnm, hE⟩ := hC
  intro h0 h1 H locs ls hR hS hl

  have hlt : i.toNatClampNeg < bh_L σ a := Nat.not_le.mp fun q => hi (Or.inr q)
  have hty : ∃ ty : FieldType, ty.isReference = true ∧ ArrOfT s (cy ci) ty := by
    rcases (show ci = 14 ∨ ci = 15 ∨ ci = 16 ∨ ci = 17 by omega) with rfl | rfl | rfl | rfl
    · exact ⟨_, rfl, (hE.1.2 2 _ rfl).1⟩
    · exact ⟨_, rfl, (hE.1.2 3 _ rfl).1⟩
    · exact ⟨_, rfl, (hE.1.2 4 _ rfl).1⟩
    · exact ⟨_, rfl, (hE.1.2 5 _ rfl).1⟩
  obtain ⟨ty, hr9, hA⟩ := hty
  exact W.aald (v := va_rf v) (ty := ty) hx hb (hR.refs hK hci.1 hci.2 (by omega)).2 (hA _ _) hr9 (fun q => by cases q) (by rw [arrV_size]; exact hi) (by rw [arrV_read _ _ hlt, hV]) rfl rfl hdg (hk9 h0 h1 H locs ls hR hS hl)
theorem bj_alen {ci a : Nat} {f : Int32 → Option (α × bh_S)} (hci : 12 ≤ ci ∧ ci < 18) (hdg : decode cc pc = .ok (.arraylength, 1)) (kk : ∀ v : Int32, bh_len σ ci a = some v → bh_J em y cc ws ret NL FR LO X σ (pc + 1) lv (.int v :: st) (f v)) : bh_J em y cc ws ret NL FR LO X σ pc lv (.ref a :: st) ((bh_len σ ci a).bind f) := by
  refine bj_op (fun v hv => ?_)
  obtain ⟨hK, hV⟩ := bh_len_spec hv
  intro r σ' hres
  obtain ⟨hm, hk9⟩ := kk v hv r σ' hres
  refine ⟨hm, fun hC => ?_⟩
  have hk9 := hk9 hC
  obtain ⟨l, p, e, s, m, args, below, meth, c, D, cy, base, e0, z0, n0⟩ := X
  obtain ⟨hx, hb, hml, hown, hts, hrt, hlk, hnm, hE⟩ := hC
  intro h0 h1 H locs ls hR hS hl

  subst hV
  by_cases h2 : ci < 14
  · have h3 : ci = 12 ∨ ci = 13 := by omega
    have hty : ∃ ty : FieldType, ArrOfT s (cy ci) ty := by
      rcases h3 with rfl | rfl
      · exact ⟨_, (hE.1.2 0 _ rfl).1⟩
      · exact ⟨_, (hE.1.2 1 _ rfl).1⟩
    obtain ⟨ty, hA⟩ := hty
    exact W.alen hx hb (hR.ints hK h3).2 (hA _ _) (by rw [arrV_size]) rfl rfl hdg (hk9 h0 h1 H locs ls hR hS hl)
  · have hty : ∃ ty : FieldType, ArrOfT s (cy ci) ty := by
      rcases (show ci = 14 ∨ ci = 15 ∨ ci = 16 ∨ ci = 17 by omega) with rfl | rfl | rfl | rfl
      · exact ⟨_, (hE.1.2 2 _ rfl).1⟩
      · exact ⟨_, (hE.1.2 3 _ rfl).1⟩
      · exact ⟨_, (hE.1.2 4 _ rfl).1⟩
      · exact ⟨_, (hE.1.2 5 _ rfl).1⟩
    obtain ⟨ty, hA⟩ := hty
    obtain ⟨cell, g1, g2, g3, g4, g5⟩ := hR.wk hK (by omega) hci.2
    obtain ⟨-, k9, hk8, cm9, hkk9⟩ := hA 0 (fun _ => .null)
    exact W.alen hx hb g1 ⟨g5, k9, by rw [g2]; exact hk8, cm9, hkk9⟩ g3 rfl rfl hdg (hk9 h0 h1 H locs ls hR hS hl)
/-- an object that the memory holds, as a receiver, a thing to store -/
theorem bh_recv {D : va_G} {cy : Nat → ClassId} {base e0 : Nat} {s : State} {H : Heap} {a ci : Nat} {q : vw_C} (hE : bh_Env D cy base e0 s) (hR : bh_Rep D cy base e0 σ H) (hK : bh_K σ a = ci) (hc : vwCl[ci]? = some q) : ∃ cell : Cell, H[a]? = some cell ∧ cell.vm.isStatics = false ∧ s.vm.findClass q.1 = some cell.cls := by
  obtain ⟨cell, g1, g2, g3, -⟩ := (hR.obj hK hc).2
  exact ⟨cell, g1, by rw [g3]; rfl, by rw [g2]; exact (hE.1.1 ci q hc).2.1⟩
theorem bh_castO : ∀ k, k < 12 → ∀ q : vw_C, vwCl[k]? = some q → Cond.castable q.1 "java/lang/Object" ∈ bh_nest := by
  intro k hk q hq
  match k, hk, hq with
  | 0, _, hq | 1, _, hq | 2, _, hq | 3, _, hq | 4, _, hq | 5, _, hq | 6, _, hq | 7, _, hq | 8, _, hq | 9, _, hq | 10, _, hq | 11, _, hq => cases hq; decide +kernel
  | k + 12, hk, _ => omega
/-- what may lie in a row of references -/
theorem bh_lie {D : va_G} {cy : Nat → ClassId} {base e0 : Nat} {s : State} {H : Heap} {ci b : Nat} (hE : bh_Env D cy base e0 s) (hR : bh_Rep D cy base e0 σ H) (h : bh_mayLie σ ci (some b) = true) : ∃ (C : String) (comp : ClassId) (kA : Class) (cell : Cell) (kE kC : Class), s.vm.classes[cy ci]? = some kA ∧ kA.kind = .array comp (.object C) ∧ s.vm.classes[comp]? = some kE ∧ H[b]? = some cell ∧ (∀ q, cell.vm ≠ .statics q) ∧ s.vm.classes[cell.cls]? = some kC ∧ s.vm.assignable cell.cls comp = true := by
  have h9 : (ci = 14 ∧ bh_K σ b = 1) ∨ (ci = 15 ∧ bh_K σ b = 2) ∨ (ci = 16 ∧ bh_K σ b < 12) := by
    simp only [bh_mayLie, Bool.or_eq_true, Bool.and_eq_true, beq_iff_eq, decide_eq_true_eq] at h
    rcases h with (h | h) | h
    · exact Or.inl h
    · exact Or.inr (Or.inl h)
    · exact Or.inr (Or.inr h)
  rcases h9 with ⟨rfl, hK⟩ | ⟨rfl, hK⟩ | ⟨rfl, hK⟩
  · obtain ⟨cell, g1, g2, g3, -⟩ := (hR.obj hK (r := (RX0, TX0, 4)) rfl).2
    obtain ⟨hfc, kC, hkC, hkk⟩ := (hE.1.1 1 (RX0, TX0, 4) rfl).2
    obtain ⟨kA, comp, k1, k2, k3, -⟩ := (hE.1.2 2 _ rfl).2
    obtain rfl : comp = D.1 1 := Option.some.inj (k3.symm.trans hfc)
    exact ⟨_, _, kA, cell, kC, kC, k1, k2, hkC, g1, (fun q h => by rw [g3] at h; cases h), by rw [g2]; exact hkC, by rw [g2]; exact va_assign ⟨hfc, kC, hkC, hkk⟩⟩
  · obtain ⟨cell, g1, g2, g3, -⟩ := (hR.obj hK (r := (RX1, TX1, 2)) rfl).2
    obtain ⟨hfc, kC, hkC, hkk⟩ := (hE.1.1 2 (RX1, TX1, 2) rfl).2
    obtain ⟨kA, comp, k1, k2, k3, -⟩ := (hE.1.2 3 _ rfl).2
    obtain rfl : comp = D.1 2 := Option.some.inj (k3.symm.trans hfc)
    exact ⟨_, _, kA, cell, kC, kC, k1, k2, hkC, g1, (fun q h => by rw [g3] at h; cases h), by rw [g2]; exact hkC, by rw [g2]; exact va_assign ⟨hfc, kC, hkC, hkk⟩⟩
  · obtain ⟨q, hq⟩ : ∃ r, vwCl[bh_K σ b]? = some r := ⟨_, List.getElem?_eq_getElem (show bh_K σ b < vwCl.length from hK)⟩
    obtain ⟨cell, g1, g2, g3, -⟩ := (hR.obj rfl hq).2
    obtain ⟨hfc, kC, hkC, hkk⟩ := (hE.1.1 _ q hq).2
    obtain ⟨kA, comp, k1, k2, k3, -⟩ := (hE.1.2 4 _ rfl).2
    obtain ⟨kE, hkE, -⟩ := Vm.findClass_spec k3
    obtain ⟨c0, t1, f1, f2, f3⟩ := Cond.castable_spec (va_Nw.use (A := #[]) rfl (hE.2.1 _ (bh_castO _ hK q hq)))
    cases hfc.symm.trans f1
    cases k3.symm.trans f2
    exact ⟨_, _, kA, cell, kE, kC, k1, k2, hkE, g1, (fun q h => by rw [g3] at h; cases h), by rw [g2]; exact hkC, by rw [g2]; exact f3⟩

theorem bj_aast {ci a : Nat} {i : Int32} {v : Option Nat} {f : bh_S → Option (α × bh_S)} (hci : 14 ≤ ci ∧ ci < 17) (hdg : decode cc pc = .ok (.aastore, 1)) (kk : ∀ σ1 : bh_S, bh_stR σ ci a i v = some σ1 → bh_J em y cc ws ret NL FR LO X σ1 (pc + 1) lv st (f σ1)) : bh_J em y cc ws ret NL FR LO X σ pc lv (va_rf v :: .int i :: .ref a :: st) ((bh_stR σ ci a i v).bind f) := by
  refine bj_op (fun σ1 hv => ?_)
  have kk := kk σ1 hv
  obtain ⟨⟨hK, hi, hmay⟩, rfl⟩ := bh_stR_spec hv
  intro r σ' hres
  obtain ⟨hm, hk9⟩ := kk r σ' hres
  refine ⟨hm, fun hC => ?_⟩
  have hk9 := hk9 hC
  obtain ⟨l, p, e, s, m, args, below, meth, c, D, cy, base, e0, z0, n0⟩ := X
  obtain ⟨hx, hb, hml, hown, hts, hrt, hlk, hnm, hE⟩ := hC
  intro h0 h1 H locs ls hR hS hl

  have hlt9 : i.toNatClampNeg < bh_L σ a := Nat.not_le.mp fun q => hi (Or.inr q)
  obtain ⟨hab0, hO⟩ := hR.refs hK hci.1 (by omega) (by omega)
  have hab := bh_ab hab0 hi
  cases v with
  | none =>
    have hty : ∃ C : String, ArrOfT s (cy ci) (.object C) := by
      rcases (show ci = 14 ∨ ci = 15 ∨ ci = 16 by omega) with rfl | rfl | rfl
      · exact ⟨_, (hE.1.2 2 _ rfl).1⟩
      · exact ⟨_, (hE.1.2 3 _ rfl).1⟩
      · exact ⟨_, (hE.1.2 4 _ rfl).1⟩
    obtain ⟨C, hA⟩ := hty
    refine va_WaastN (C := C) hx hb hO (hA _ _) (fun q => by cases q) (by rw [arrV_size]; exact hi) rfl rfl hdg (fun H1 e1 hsz oq => ?_)
    rw [arrV_store] at e1
    exact hk9 h0 h1 H1 _ ls (hR.stR hK hci.1 hsz oq e1) ⟨by rw [hsz]; exact hS.1, fun q g1 g2 => by rw [oq q (fun e9 => g2 (by rw [e9]; exact hab))]; exact hS.2.1 q g1 g2, fun q hq => by rcases List.mem_append.mp hq with h | h; exact hS.2.2 q h; rw [List.mem_singleton.mp h]; exact hab⟩ hl
  | some b =>
    obtain ⟨C, comp, kA, cell, kE, kC, k1, k2, k3, k4, k5, k6, k7⟩ := bh_lie hE hR hmay
    refine W.aast hx hb hO (fun q h => by cases h) (fun h => by cases h) k1 k2 rfl k3 ⟨fun h => hi (Or.inl h), by rw [arrV_size]; exact Nat.not_le.mp fun q => hi (Or.inr q)⟩ k4 k5 k6 k7 rfl rfl hdg (fun H1 e1 hsz oq => ?_)
    rw [arrV_store] at e1
    exact hk9 h0 h1 H1 _ ls (hR.stR hK hci.1 hsz oq e1) ⟨by rw [hsz]; exact hS.1, fun q g1 g2 => by rw [oq q (fun e9 => g2 (by rw [e9]; exact hab))]; exact hS.2.1 q g1 g2, fun q hq => by rcases List.mem_append.mp hq with h | h; exact hS.2.2 q h; rw [List.mem_singleton.mp h]; exact hab⟩ hl
theorem bj_new {ci index N : Nat} {C : String} {T : u_T} {f : Nat → bh_S → Option (α × bh_S)} (hc : vwCl[ci]? = some (C, T, N)) (hin : ∀ w ∈ u_ws C T N, w ∈ ws) (ty0 : Nat → FieldType) (hty : ∀ k, k < N → parseFieldDescriptor (T k).2.2.1 = some (ty0 k)) (hdf : ∀ k, k < N → defaultValue (ty0 k) = if bh_isR ci k then .null else .int 0) (hcl : Cond.classLink y.cls index C ∈ ws) (hinst : Cond.instantiable C N ∈ ws) (hini : Cond.initialized C ∈ ws) (hdg : decode cc pc = .ok (.new index, 3)) (kk : ∀ (a : Nat) (σ1 : bh_S), bh_newO σ ci N = some (a, σ1) → bh_J em y cc ws ret NL FR LO X σ1 (pc + 3) lv (.ref a :: st) (f a σ1)) : bh_J em y cc ws ret NL FR LO X σ pc lv st (bh_bnd (bh_newO σ ci N) f) := by
  have kk := kk _ _ rfl
  intro r σ' hres
  obtain ⟨hm, hk9⟩ := kk r σ' hres
  refine ⟨⟨Nat.le_trans (Nat.le_succ _) hm.1, Nat.le_trans (Nat.le_add_right _ N) hm.2⟩, fun hC => ?_⟩
  have hk9 := hk9 hC
  obtain ⟨l, p, e, s, m, args, below, meth, c, D, cy, base, e0, z0, n0⟩ := X
  obtain ⟨hx, hb, hml, hown, hts, hrt, hlk, hnm, hE⟩ := hC
  intro h0 h1 H locs ls hR hS hl

  have hm1 : bh_z σ + 1 ≤ bh_z σ' := hm.1
  have hm2 : bh_n σ + N ≤ bh_n σ' := hm.2
  have h12 : ci < 12 := (List.getElem?_eq_some_iff.mp hc).1
  have hKn := hE.1.1 ci _ hc
  have hz : H.size = bh_z σ := hR.1
  have hbs : base ≤ H.size := Nat.le_trans hE.2.2.1 hS.1
  refine W.newcK hx hb hown (hts _ hcl) (hts _ hinst) (hts _ hini) rfl hdg (show bh_z σ - z0 + 1 ≤ bh_z σ' - z0 by omega) (show bh_n σ - n0 + N ≤ bh_n σ' - n0 by omega) hKn.2.1 hz (fun H1 kC hkC e1 z1 o1 => ?_)
  have hO := u_born ty0 hts hin hKn hkC e1 hty
  refine W.cs (show bh_z σ - z0 + 1 = bh_z σ + 1 - z0 by omega) (show bh_n σ - n0 + N = bh_n σ + N - n0 by omega) ?_
  refine hk9 (show z0 ≤ bh_z σ + 1 by omega) (show n0 ≤ bh_n σ + N by omega) H1 locs ls (hR.new hbs (by rw [z1, hz]) (fun q hq => o1 q (by rw [← hz]; exact hq)) ?_) ⟨by rw [z1]; have := hS.1; omega, fun q g1 g2 => by rw [o1 q (by have := hS.1; omega)]; exact hS.2.1 q g1 g2, hS.2.2⟩ hl
  rw [hz]
  have eK : bh_K (bh_new σ ci N 0) (bh_z σ) = ci := if_pos rfl
  refine ⟨fun r hr => ?_, fun h => ?_, fun h _ => ?_, fun h => ?_⟩
  · rw [eK] at hr ⊢
    cases hc.symm.trans hr
    refine hO.to (fun j hj => ?_)
    rw [hdf j hj]
    show _ = if bh_isR ci j then va_rf (if ci = ci ∧ bh_z σ = bh_z σ then none else _) else Value.int (if ci = ci ∧ bh_z σ = bh_z σ then 0 else _)
    rw [if_pos (⟨rfl, rfl⟩ : ci = ci ∧ bh_z σ = bh_z σ), if_pos (⟨rfl, rfl⟩ : ci = ci ∧ bh_z σ = bh_z σ)]
    rfl
  · rw [eK] at h
    omega
  · rw [eK] at h
    omega
  · rw [eK] at h
    omega
theorem bh_newA_spec {σ σ1 : bh_S} {c a : Nat} {n : Int32} (h : bh_newA σ c n = some (a, σ1)) : (¬ n < 0 ∧ n.toNatClampNeg ≤ 100000) ∧ a = bh_z σ ∧ σ1 = bh_new σ c n.toNatClampNeg n.toNatClampNeg := by
  unfold bh_newA at h
  split at h
  · have := Option.some.inj h
    cases this
    exact ⟨by assumption, rfl, rfl⟩
  · cases h
theorem bj_bnd {β : Type} {o : Option (β × bh_S)} {f : β → bh_S → Option (α × bh_S)} (kk : ∀ (v : β) (σ1 : bh_S), o = some (v, σ1) → bh_J em y cc ws ret NL FR LO X σ pc lv st (f v σ1)) : bh_J em y cc ws ret NL FR LO X σ pc lv st (bh_bnd o f) := by
  cases o with
  | none => exact bj_none
  | some q => obtain ⟨v, σ1⟩ := q; exact kk v σ1 rfl
theorem bj_newi {n : Int32} {f : Nat → bh_S → Option (α × bh_S)} (harr : Cond.arrayClass .int ∈ ws) (hdg : decode cc pc = .ok (.newarray .int, 2)) (kk : ∀ (a : Nat) (σ1 : bh_S), bh_newA σ 12 n = some (a, σ1) → bh_J em y cc ws ret NL FR LO X σ1 (pc + 2) lv (.ref a :: st) (f a σ1)) : bh_J em y cc ws ret NL FR LO X σ pc lv (.int n :: st) (bh_bnd (bh_newA σ 12 n) f) := by
  refine bj_bnd (fun a σ1 hv => ?_)
  have kk := kk a σ1 hv
  obtain ⟨⟨hn, hN⟩, rfl, rfl⟩ := bh_newA_spec hv
  intro r σ' hres
  obtain ⟨hm, hk9⟩ := kk r σ' hres
  refine ⟨⟨Nat.le_trans (Nat.le_succ _) hm.1, Nat.le_trans (Nat.le_add_right _ _) hm.2⟩, fun hC => ?_⟩
  have hk9 := hk9 hC
  obtain ⟨l, p, e, s, m, args, below, meth, c, D, cy, base, e0, z0, n0⟩ := X
  obtain ⟨hx, hb, hml, hown, hts, hrt, hlk, hnm, hE⟩ := hC
  intro h0 h1 H locs ls hR hS hl

  generalize hNe : n.toNatClampNeg = N at hN hm hk9 ⊢
  have hm1 : bh_z σ + 1 ≤ bh_z σ' := hm.1
  have hm2 : bh_n σ + N ≤ bh_n σ' := hm.2
  have hz : H.size = bh_z σ := hR.1
  have hbs : base ≤ H.size := Nat.le_trans hE.2.2.1 hS.1
  refine va_newaK (atype := .int) hx hb (hts _ harr) rfl hdg rfl hn hNe (Nat.le_trans (Nat.mul_le_mul hN (show componentBytes _ ≤ 4 by decide)) (by decide)) (show bh_z σ - z0 + 1 ≤ bh_z σ' - z0 by omega) (show bh_n σ - n0 + N ≤ bh_n σ' - n0 by omega) hz (fun H1 cA e1 z1 o1 hAr hNm => ?_)
  have hcA : cA = cy 12 := Option.some.inj (hNm.symm.trans (hE.1.2 0 _ rfl).2)
  subst hcA
  refine W.cs (show bh_z σ - z0 + 1 = bh_z σ + 1 - z0 by omega) (show bh_n σ - n0 + N = bh_n σ + N - n0 by omega) ?_
  refine hk9 (show z0 ≤ bh_z σ + 1 by omega) (show n0 ≤ bh_n σ + N by omega) H1 locs ls (hR.new hbs (by rw [z1, hz]) (fun q hq => o1 q (by rw [← hz]; exact hq)) ?_) ⟨by rw [z1]; have := hS.1; omega, fun q g1 g2 => by rw [o1 q (by have := hS.1; omega)]; exact hS.2.1 q g1 g2, hS.2.2⟩ hl
  rw [hz]
  have eK : bh_K (bh_new σ 12 N N) (bh_z σ) = 12 := if_pos rfl
  refine ⟨fun r hr => ?_, fun h => ?_, fun h _ => ?_, fun h => ?_⟩
  · rw [eK] at hr
    exact absurd (List.getElem?_eq_some_iff.mp hr).1 (by decide)
  · rw [eK]
    have eL : bh_L (bh_new σ 12 N N) (bh_z σ) = N := if_pos rfl
    rw [eL]
    refine e1.trans (congrArg some (congrArg (arrV _ _) (funext fun j => ?_)))
    show _ = Value.int (if (12 : Nat) = 12 ∧ bh_z σ = bh_z σ then 0 else _)
    rw [if_pos ⟨rfl, rfl⟩]
    rfl
  · rw [eK] at h
    exact absurd h (by decide)
  · rw [eK] at h
    exact absurd h (by decide)
theorem bj_newz {n : Int32} {f : Nat → bh_S → Option (α × bh_S)} (harr : Cond.arrayClass .boolean ∈ ws) (hdg : decode cc pc = .ok (.newarray .boolean, 2)) (kk : ∀ (a : Nat) (σ1 : bh_S), bh_newA σ 13 n = some (a, σ1) → bh_J em y cc ws ret NL FR LO X σ1 (pc + 2) lv (.ref a :: st) (f a σ1)) : bh_J em y cc ws ret NL FR LO X σ pc lv (.int n :: st) (bh_bnd (bh_newA σ 13 n) f) := by
  refine bj_bnd (fun a σ1 hv => ?_)
  have kk := kk a σ1 hv
  obtain ⟨⟨hn, hN⟩, rfl, rfl⟩ := bh_newA_spec hv
  intro r σ' hres
  obtain ⟨hm, hk9⟩ := kk r σ' hres
  refine ⟨⟨Nat.le_trans (Nat.le_succ _) hm.1, Nat.le_trans (Nat.le_add_right _ _) hm.2⟩, fun hC => ?_⟩
  have hk9 := hk9 hC
  obtain ⟨l, p, e, s, m, args, below, meth, c, D, cy, base, e0, z0, n0⟩ := X
  obtain ⟨hx, hb, hml, hown, hts, hrt, hlk, hnm, hE⟩ := hC
  intro h0 h1 H locs ls hR hS hl

  generalize hNe : n.toNatClampNeg = N at hN hm hk9 ⊢
  have hm1 : bh_z σ + 1 ≤ bh_z σ' := hm.1
  have hm2 : bh_n σ + N ≤ bh_n σ' := hm.2
  have hz : H.size = bh_z σ := hR.1
  have hbs : base ≤ H.size := Nat.le_trans hE.2.2.1 hS.1
  refine va_newaK (atype := .boolean) hx hb (hts _ harr) rfl hdg rfl hn hNe (Nat.le_trans (Nat.mul_le_mul hN (show componentBytes _ ≤ 4 by decide)) (by decide)) (show bh_z σ - z0 + 1 ≤ bh_z σ' - z0 by omega) (show bh_n σ - n0 + N ≤ bh_n σ' - n0 by omega) hz (fun H1 cA e1 z1 o1 hAr hNm => ?_)
  have hcA : cA = cy 13 := Option.some.inj (hNm.symm.trans (hE.1.2 1 _ rfl).2)
  subst hcA
  refine W.cs (show bh_z σ - z0 + 1 = bh_z σ + 1 - z0 by omega) (show bh_n σ - n0 + N = bh_n σ + N - n0 by omega) ?_
  refine hk9 (show z0 ≤ bh_z σ + 1 by omega) (show n0 ≤ bh_n σ + N by omega) H1 locs ls (hR.new hbs (by rw [z1, hz]) (fun q hq => o1 q (by rw [← hz]; exact hq)) ?_) ⟨by rw [z1]; have := hS.1; omega, fun q g1 g2 => by rw [o1 q (by have := hS.1; omega)]; exact hS.2.1 q g1 g2, hS.2.2⟩ hl
  rw [hz]
  have eK : bh_K (bh_new σ 13 N N) (bh_z σ) = 13 := if_pos rfl
  refine ⟨fun r hr => ?_, fun h => ?_, fun h _ => ?_, fun h => ?_⟩
  · rw [eK] at hr
    exact absurd (List.getElem?_eq_some_iff.mp hr).1 (by decide)
  · rw [eK]
    have eL : bh_L (bh_new σ 13 N N) (bh_z σ) = N := if_pos rfl
    rw [eL]
    refine e1.trans (congrArg some (congrArg (arrV _ _) (funext fun j => ?_)))
    show _ = Value.int (if (13 : Nat) = 13 ∧ bh_z σ = bh_z σ then 0 else _)
    rw [if_pos ⟨rfl, rfl⟩]
    rfl
  · rw [eK] at h
    exact absurd h (by decide)
  · rw [eK] at h
    exact absurd h (by decide)
theorem bj_newF {index : Nat} {n : Int32} {f : Nat → bh_S → Option (α × bh_S)} (hcl : Cond.classLink y.cls index "BeetHouse$Farmer" ∈ ws) (hdg : decode cc pc = .ok (.anewarray index, 3)) (kk : ∀ (a : Nat) (σ1 : bh_S), bh_newA σ 14 n = some (a, σ1) → bh_J em y cc ws ret NL FR LO X σ1 (pc + 3) lv (.ref a :: st) (f a σ1)) : bh_J em y cc ws ret NL FR LO X σ pc lv (.int n :: st) (bh_bnd (bh_newA σ 14 n) f) := by
  refine bj_bnd (fun a σ1 hv => ?_)
  have kk := kk a σ1 hv
  obtain ⟨⟨hn, hN⟩, rfl, rfl⟩ := bh_newA_spec hv
  intro r σ' hres
  obtain ⟨hm, hk9⟩ := kk r σ' hres
  refine ⟨⟨Nat.le_trans (Nat.le_succ _) hm.1, Nat.le_trans (Nat.le_add_right _ _) hm.2⟩, fun hC => ?_⟩
  have hk9 := hk9 hC
  obtain ⟨l, p, e, s, m, args, below, meth, c, D, cy, base, e0, z0, n0⟩ := X
  obtain ⟨hx, hb, hml, hown, hts, hrt, hlk, hnm, hE⟩ := hC
  intro h0 h1 H locs ls hR hS hl

  have hm1 : bh_z σ + 1 ≤ bh_z σ' := hm.1
  have hm2 : bh_n σ + n.toNatClampNeg ≤ bh_n σ' := hm.2
  have hz : H.size = bh_z σ := hR.1
  have hbs : base ≤ H.size := Nat.le_trans hE.2.2.1 hS.1
  refine W.anew hx hb hown (hts _ hcl) (va_AO.use hE.2.2.2.1.1) rfl hdg rfl hn (by omega) (show bh_z σ - z0 + 1 ≤ bh_z σ' - z0 by omega) (show bh_n σ - n0 + n.toNatClampNeg ≤ bh_n σ' - n0 by omega) (fun cA kA comp f1 f2 f3 f4 => ?_)
  generalize hN' : n.toNatClampNeg = N at hm hk9 hm2 ⊢
  generalize hH1 : H.push ({ cls := cA, slots := Array.replicate N .null, vm := .none } : Cell) = H1
  have z1 : H1.size = H.size + 1 := by rw [← hH1, Array.size_push]
  have e1 : H1[H.size]? = some (arrV cA N (fun _ => .null)) := by rw [← hH1, Array.getElem?_push_size, ← arrV_new]
  have o1 : ∀ q : Nat, q < H.size → H1[q]? = H[q]? := fun q hq => by rw [← hH1, Array.getElem?_push, if_neg (Nat.ne_of_lt hq)]
  have hcA : cA = cy 14 := by
    obtain ⟨kA9, comp9, k1, k2, k3, k4⟩ := (hE.1.2 2 _ rfl).2
    exact Option.some.inj (f1.symm.trans k4)
  subst hcA
  refine W.eq (g2 := F0 m (pc + 3) ls (.ref (bh_z σ) :: st)) (by rw [← hz]) ?_
  refine W.cs (show bh_z σ - z0 + 1 = bh_z σ + 1 - z0 by omega) (show bh_n σ - n0 + N = bh_n σ + N - n0 by omega) ?_
  refine hk9 (show z0 ≤ bh_z σ + 1 by omega) (show n0 ≤ bh_n σ + N by omega) H1 locs ls (hR.new hbs z1 o1 ?_) ⟨by rw [z1]; have := hS.1; omega, fun q g1 g2 => by rw [o1 q (by have := hS.1; omega)]; exact hS.2.1 q g1 g2, hS.2.2⟩ hl
  rw [hz] at e1 ⊢
  have eK : bh_K (bh_new σ 14 N N) (bh_z σ) = 14 := if_pos rfl
  refine ⟨fun r hr => ?_, fun h => ?_, fun h _ => ?_, fun h => ?_⟩
  · rw [eK] at hr
    exact absurd (List.getElem?_eq_some_iff.mp hr).1 (by decide)
  · rw [eK] at h
    exact absurd h (by decide)
  · rw [eK]
    have eL : bh_L (bh_new σ 14 N N) (bh_z σ) = N := if_pos rfl
    rw [eL]
    refine e1.trans (congrArg some (congrArg (arrV _ _) (funext fun j => ?_)))
    show _ = va_rf (if (14 : Nat) = 14 ∧ bh_z σ = bh_z σ then none else _)
    rw [if_pos ⟨rfl, rfl⟩]
    rfl
  · rw [eK]
    have eL : bh_L (bh_new σ 14 N N) (bh_z σ) = N := if_pos rfl
    rw [eL]
    exact bh_wk.of e1
theorem bj_newG {index : Nat} {n : Int32} {f : Nat → bh_S → Option (α × bh_S)} (hcl : Cond.classLink y.cls index "BeetHouse$Gang" ∈ ws) (hdg : decode cc pc = .ok (.anewarray index, 3)) (kk : ∀ (a : Nat) (σ1 : bh_S), bh_newA σ 15 n = some (a, σ1) → bh_J em y cc ws ret NL FR LO X σ1 (pc + 3) lv (.ref a :: st) (f a σ1)) : bh_J em y cc ws ret NL FR LO X σ pc lv (.int n :: st) (bh_bnd (bh_newA σ 15 n) f) := by
  refine bj_bnd (fun a σ1 hv => ?_)
  have kk := kk a σ1 hv
  obtain ⟨⟨hn, hN⟩, rfl, rfl⟩ := bh_newA_spec hv
  intro r σ' hres
  obtain ⟨hm, hk9⟩ := kk r σ' hres
  refine ⟨⟨Nat.le_trans (Nat.le_succ _) hm.1, Nat.le_trans (Nat.le_add_right _ _) hm.2⟩, fun hC => ?_⟩
  have hk9 := hk9 hC
  obtain ⟨l, p, e, s, m, args, below, meth, c, D, cy, base, e0, z0, n0⟩ := X
  obtain ⟨hx, hb, hml, hown, hts, hrt, hlk, hnm, hE⟩ := hC
  intro h0 h1 H locs ls hR hS hl

  have hm1 : bh_z σ + 1 ≤ bh_z σ' := hm.1
  have hm2 : bh_n σ + n.toNatClampNeg ≤ bh_n σ' := hm.2
  have hz : H.size = bh_z σ := hR.1
  have hbs : base ≤ H.size := Nat.le_trans hE.2.2.1 hS.1
  refine W.anew hx hb hown (hts _ hcl) (va_AO.use hE.2.2.2.1.2.1) rfl hdg rfl hn (by omega) (show bh_z σ - z0 + 1 ≤ bh_z σ' - z0 by omega) (show bh_n σ - n0 + n.toNatClampNeg ≤ bh_n σ' - n0 by omega) (fun cA kA comp f1 f2 f3 f4 => ?_)
  generalize hN' : n.toNatClampNeg = N at hm hk9 hm2 ⊢
  generalize hH1 : H.push ({ cls := cA, slots := Array.replicate N .null, vm := .none } : Cell) = H1
  have z1 : H1.size = H.size + 1 := by rw [← hH1, Array.size_push]
  have e1 : H1[H.size]? = some (arrV cA N (fun _ => .null)) := by rw [← hH1, Array.getElem?_push_size, ← arrV_new]
  have o1 : ∀ q : Nat, q < H.size → H1[q]? = H[q]? := fun q hq => by rw [← hH1, Array.getElem?_push, if_neg (Nat.ne_of_lt hq)]
  have hcA : cA = cy 15 := by
    obtain ⟨kA9, comp9, k1, k2, k3, k4⟩ := (hE.1.2 3 _ rfl).2
    exact Option.some.inj (f1.symm.trans k4)
  subst hcA
  refine W.eq (g2 := F0 m (pc + 3) ls (.ref (bh_z σ) :: st)) (by rw [← hz]) ?_
  refine W.cs (show bh_z σ - z0 + 1 = bh_z σ + 1 - z0 by omega) (show bh_n σ - n0 + N = bh_n σ + N - n0 by omega) ?_
  refine hk9 (show z0 ≤ bh_z σ + 1 by omega) (show n0 ≤ bh_n σ + N by omega) H1 locs ls (hR.new hbs z1 o1 ?_) ⟨by rw [z1]; have := hS.1; omega, fun q g1 g2 => by rw [o1 q (by have := hS.1; omega)]; exact hS.2.1 q g1 g2, hS.2.2⟩ hl
  rw [hz] at e1 ⊢
  have eK : bh_K (bh_new σ 15 N N) (bh_z σ) = 15 := if_pos rfl
  refine ⟨fun r hr => ?_, fun h => ?_, fun h _ => ?_, fun h => ?_⟩
  · rw [eK] at hr
    exact absurd (List.getElem?_eq_some_iff.mp hr).1 (by decide)
  · rw [eK] at h
    exact absurd h (by decide)
  · rw [eK]
    have eL : bh_L (bh_new σ 15 N N) (bh_z σ) = N := if_pos rfl
    rw [eL]
    refine e1.trans (congrArg some (congrArg (arrV _ _) (funext fun j => ?_)))
    show _ = va_rf (if (15 : Nat) = 15 ∧ bh_z σ = bh_z σ then none else _)
    rw [if_pos ⟨rfl, rfl⟩]
    rfl
  · rw [eK]
    have eL : bh_L (bh_new σ 15 N N) (bh_z σ) = N := if_pos rfl
    rw [eL]
    exact bh_wk.of e1
theorem bj_newQ {index : Nat} {n : Int32} {f : Nat → bh_S → Option (α × bh_S)} (hcl : Cond.classLink y.cls index "java/lang/Object" ∈ ws) (hdg : decode cc pc = .ok (.anewarray index, 3)) (kk : ∀ (a : Nat) (σ1 : bh_S), bh_newA σ 16 n = some (a, σ1) → bh_J em y cc ws ret NL FR LO X σ1 (pc + 3) lv (.ref a :: st) (f a σ1)) : bh_J em y cc ws ret NL FR LO X σ pc lv (.int n :: st) (bh_bnd (bh_newA σ 16 n) f) := by
  refine bj_bnd (fun a σ1 hv => ?_)
  have kk := kk a σ1 hv
  obtain ⟨⟨hn, hN⟩, rfl, rfl⟩ := bh_newA_spec hv
  intro r σ' hres
  obtain ⟨hm, hk9⟩ := kk r σ' hres
  refine ⟨⟨Nat.le_trans (Nat.le_succ _) hm.1, Nat.le_trans (Nat.le_add_right _ _) hm.2⟩, fun hC => ?_⟩
  have hk9 := hk9 hC
  obtain ⟨l, p, e, s, m, args, below, meth, c, D, cy, base, e0, z0, n0⟩ := X
  obtain ⟨hx, hb, hml, hown, hts, hrt, hlk, hnm, hE⟩ := hC
  intro h0 h1 H locs ls hR hS hl

  have hm1 : bh_z σ + 1 ≤ bh_z σ' := hm.1
  have hm2 : bh_n σ + n.toNatClampNeg ≤ bh_n σ' := hm.2
  have hz : H.size = bh_z σ := hR.1
  have hbs : base ≤ H.size := Nat.le_trans hE.2.2.1 hS.1
  refine W.anew hx hb hown (hts _ hcl) (va_AO.use hE.2.2.2.1.2.2) rfl hdg rfl hn (by omega) (show bh_z σ - z0 + 1 ≤ bh_z σ' - z0 by omega) (show bh_n σ - n0 + n.toNatClampNeg ≤ bh_n σ' - n0 by omega) (fun cA kA comp f1 f2 f3 f4 => ?_)
  generalize hN' : n.toNatClampNeg = N at hm hk9 hm2 ⊢
  generalize hH1 : H.push ({ cls := cA, slots := Array.replicate N .null, vm := .none } : Cell) = H1
  have z1 : H1.size = H.size + 1 := by rw [← hH1, Array.size_push]
  have e1 : H1[H.size]? = some (arrV cA N (fun _ => .null)) := by rw [← hH1, Array.getElem?_push_size, ← arrV_new]
  have o1 : ∀ q : Nat, q < H.size → H1[q]? = H[q]? := fun q hq => by rw [← hH1, Array.getElem?_push, if_neg (Nat.ne_of_lt hq)]
  have hcA : cA = cy 16 := by
    obtain ⟨kA9, comp9, k1, k2, k3, k4⟩ := (hE.1.2 4 _ rfl).2
    exact Option.some.inj (f1.symm.trans k4)
  subst hcA
  refine W.eq (g2 := F0 m (pc + 3) ls (.ref (bh_z σ) :: st)) (by rw [← hz]) ?_
  refine W.cs (show bh_z σ - z0 + 1 = bh_z σ + 1 - z0 by omega) (show bh_n σ - n0 + N = bh_n σ + N - n0 by omega) ?_
  refine hk9 (show z0 ≤ bh_z σ + 1 by omega) (show n0 ≤ bh_n σ + N by omega) H1 locs ls (hR.new hbs z1 o1 ?_) ⟨by rw [z1]; have := hS.1; omega, fun q g1 g2 => by rw [o1 q (by have := hS.1; omega)]; exact hS.2.1 q g1 g2, hS.2.2⟩ hl
  rw [hz] at e1 ⊢
  have eK : bh_K (bh_new σ 16 N N) (bh_z σ) = 16 := if_pos rfl
  refine ⟨fun r hr => ?_, fun h => ?_, fun h _ => ?_, fun h => ?_⟩
  · rw [eK] at hr
    exact absurd (List.getElem?_eq_some_iff.mp hr).1 (by decide)
  · rw [eK] at h
    exact absurd h (by decide)
  · rw [eK]
    have eL : bh_L (bh_new σ 16 N N) (bh_z σ) = N := if_pos rfl
    rw [eL]
    refine e1.trans (congrArg some (congrArg (arrV _ _) (funext fun j => ?_)))
    show _ = va_rf (if (16 : Nat) = 16 ∧ bh_z σ = bh_z σ then none else _)
    rw [if_pos ⟨rfl, rfl⟩]
    rfl
  · rw [eK]
    have eL : bh_L (bh_new σ 16 N N) (bh_z σ) = N := if_pos rfl
    rw [eL]
    exact bh_wk.of e1
theorem bh_cst_spec {σ : bh_S} {c : Nat} {o : Option Nat} {u : Unit} (h : bh_cst σ c o = some u) : o = none ∨ ∃ a, o = some a ∧ bh_K σ a = c := by
  cases o with
  | none => exact Or.inl rfl
  | some a =>
    unfold bh_cst at h
    dsimp only at h
    split at h
    · exact Or.inr ⟨a, rfl, by assumption⟩
    · cases h
theorem bj_cast {ci index N : Nat} {C : String} {T : u_T} {o : Option Nat} {f : Unit → Option (α × bh_S)} (hc : vwCl[ci]? = some (C, T, N)) (hcl : Cond.classLink y.cls index C ∈ ws) (hdg : decode cc pc = .ok (.checkcast index, 3)) (kk : bh_J em y cc ws ret NL FR LO X σ (pc + 3) lv (va_rf o :: st) (f ())) : bh_J em y cc ws ret NL FR LO X σ pc lv (va_rf o :: st) ((bh_cst σ ci o).bind f) := by
  refine bj_op (fun u hv => ?_)
  have hs := bh_cst_spec hv
  intro r σ' hres
  obtain ⟨hm, hk9⟩ := kk r σ' hres
  refine ⟨hm, fun hC => ?_⟩
  have hk9 := hk9 hC
  obtain ⟨l, p, e, s, m, args, below, meth, c, D, cy, base, e0, z0, n0⟩ := X
  obtain ⟨hx, hb, hml, hown, hts, hrt, hlk, hnm, hE⟩ := hC
  intro h0 h1 H locs ls hR hS hl

  rcases hs with rfl | ⟨a, rfl, hK⟩
  · exact lv_castN hx hb hdg (hk9 h0 h1 H locs ls hR hS hl)
  · exact va_castS hx hb hown (hts _ hcl) (hE.1.1 ci _ hc).2 (bh_recv hE hR hK hc) hdg (hk9 h0 h1 H locs ls hR hS hl)
theorem bj_gets {index : Nat} (hlink : Cond.fieldLink y.cls index "java/util/ArrayList" "DEFAULTCAPACITY_EMPTY_ELEMENTDATA" "[Ljava/lang/Object;" ∈ ws) (hdg : decode cc pc = .ok (.getstatic index, 3)) (k : bh_J em y cc ws ret NL FR LO X σ (pc + 3) lv (.ref (bh_e σ) :: st) res) : bh_J em y cc ws ret NL FR LO X σ pc lv st res := by
  intro r σ' hres
  obtain ⟨hm, hk⟩ := k r σ' hres
  refine ⟨hm, fun hC => ?_⟩
  have hk := hk hC
  obtain ⟨l, p, e, s, m, args, below, meth, c, D, cy, base, e0, z0, n0⟩ := X
  obtain ⟨hx, hb, hml, hown, hts, hrt, hlk, hnm, hE⟩ := hC
  intro h0 h1 H locs ls hR hS hl
  rw [hR.2.1] at hk
  exact va_gets hx hb hE.2.2.2.2.1 hS hown (hts _ hlink) (fun _ h => h) hdg (hk h0 h1 H locs ls hR hS hl)
/-- Math.min, Math.max -/
def bh_min (x y : Int32) : Int32 := if y < x then y else x
def bh_max (x y : Int32) : Int32 := if x < y then y else x
theorem bj_min {index : Nat} {x y0 : Int32} (h1w : Cond.methodLink y.cls index Lib.Math.min.name ∈ ws) (h2w : Cond.static Lib.Math.min.name ∈ ws) (h3w : Cond.initialized "java/lang/Math" ∈ ws) (h4w : Cond.code Lib.Math.min.name Lib.Math.min.code 2 (some .int) ∈ ws) (hfr : 1 ≤ FR) (hlo : (st.map fun v => v.category).sum + 13 ≤ LO) (hdg : decode cc pc = .ok (.invokestatic index, 3)) (k : bh_J em y cc ws ret NL FR LO X σ (pc + 3) lv (.int (bh_min x y0) :: st) res) : bh_J em y cc ws ret NL FR LO X σ pc lv (.int y0 :: .int x :: st) res := by
  intro r σ' hres
  obtain ⟨hm, hk⟩ := k r σ' hres
  refine ⟨hm, fun hC => ?_⟩
  have hk := hk hC
  obtain ⟨l, p, e, s, m, args, below, meth, c, D, cy, base, e0, z0, n0⟩ := X
  obtain ⟨hx, hb, hml, hown, hts, hrt, hlk, hnm, hE⟩ := hC
  intro h0 h1 H locs ls hR hS hl
  exact va_mmin hx hb (hml.trans hl.1.symm) hown (hts _ h1w) (hts _ h2w) (hts _ h3w) (hts _ h4w) hfr hlo (show bh_z σ - z0 ≤ bh_z σ' - z0 by have := hm.1; omega) (show bh_n σ - n0 ≤ bh_n σ' - n0 by have := hm.2; omega) hdg (hk h0 h1 H locs ls hR hS hl)
theorem bj_max {index : Nat} {x y0 : Int32} (h1w : Cond.methodLink y.cls index Lib.Math.max.name ∈ ws) (h2w : Cond.static Lib.Math.max.name ∈ ws) (h3w : Cond.initialized "java/lang/Math" ∈ ws) (h4w : Cond.code Lib.Math.max.name Lib.Math.max.code 2 (some .int) ∈ ws) (hfr : 1 ≤ FR) (hlo : (st.map fun v => v.category).sum + 13 ≤ LO) (hdg : decode cc pc = .ok (.invokestatic index, 3)) (k : bh_J em y cc ws ret NL FR LO X σ (pc + 3) lv (.int (bh_max x y0) :: st) res) : bh_J em y cc ws ret NL FR LO X σ pc lv (.int y0 :: .int x :: st) res := by
  intro r σ' hres
  obtain ⟨hm, hk⟩ := k r σ' hres
  refine ⟨hm, fun hC => ?_⟩
  have hk := hk hC
  obtain ⟨l, p, e, s, m, args, below, meth, c, D, cy, base, e0, z0, n0⟩ := X
  obtain ⟨hx, hb, hml, hown, hts, hrt, hlk, hnm, hE⟩ := hC
  intro h0 h1 H locs ls hR hS hl
  exact va_mmax hx hb (hml.trans hl.1.symm) hown (hts _ h1w) (hts _ h2w) (hts _ h3w) (hts _ h4w) hfr hlo (show bh_z σ - z0 ≤ bh_z σ' - z0 by have := hm.1; omega) (show bh_n σ - n0 ≤ bh_n σ' - n0 by have := hm.2; omega) hdg (hk h0 h1 H locs ls hR hS hl)
theorem bj_objInit {index a : Nat} (h1w : Cond.methodLink y.cls index Lib.objectInit ∈ ws) (h2w : Cond.instanceMethod Lib.objectInit ∈ ws) (h3w : Cond.code Lib.objectInit ⟨#[0xb1]⟩ 1 none ∈ ws) (hfr : 1 ≤ FR) (hlo : (st.map fun v => v.category).sum + 12 ≤ LO) (hdg : decode cc pc = .ok (.invokespecial index, 3)) (k : bh_J em y cc ws ret NL FR LO X σ (pc + 3) lv st res) : bh_J em y cc ws ret NL FR LO X σ pc lv (.ref a :: st) res := by
  intro r σ' hres
  obtain ⟨hm, hk⟩ := k r σ' hres
  refine ⟨hm, fun hC => ?_⟩
  have hk := hk hC
  obtain ⟨l, p, e, s, m, args, below, meth, c, D, cy, base, e0, z0, n0⟩ := X
  obtain ⟨hx, hb, hml, hown, hts, hrt, hlk, hnm, hE⟩ := hC
  intro h0 h1 H locs ls hR hS hl
  exact W.objInit hx hb hown (hts _ h1w) (hts _ h2w) (hts _ h3w) rfl (by rw [hml]; exact hl.1) rfl hdg hfr (show 2 * 0 + _ + 12 ≤ LO by omega) (hk h0 h1 H locs ls hR hS hl)
/-- a call that a contract answers -/
def bh_Run {β : Type} (em' : β → Option Value) (y : MethodName) (cc : ByteArray) (ws : List Cond) (ret : Option FieldType) (NL FR LO : Nat) (X : bh_X) (σ : bh_S) (pc : Nat) (lv : List (Nat × Value)) (st rest : List Value) (g : Option (β × bh_S)) : Prop :=
  ∀ (v : β) (σ1 : bh_S), g = some (v, σ1) → (bh_z σ ≤ bh_z σ1 ∧ bh_n σ ≤ bh_n σ1) ∧ (bh_C y cc ws ret NL X → match X with
    | (l, p, e, s, m, args, below, meth, c, D, cy, base, e0, _, _) => ∀ (R : Room) (H : Heap) (locs : List Loc) (ls : Array Slot) (cells slots : Nat), R.frames = FR → R.locals = LO → cells + (bh_z σ1 - bh_z σ) ≤ R.cells → slots + (bh_n σ1 - bh_n σ) ≤ R.slots → bh_Rep D cy base e0 σ H → va_S (fun q => base ≤ q) s.heap H locs → lv_has ls NL lv →
      ∃ av : Array Value, va_Run p l e R s m args below meth c H locs cells slots (bh_z σ1 - bh_z σ) (bh_n σ1 - bh_n σ) (F0 m pc ls st) rest (bh_Q D cy base e0 (em' v) σ1 av) (fun q => base ≤ q))
theorem bj_call {β : Type} {em' : β → Option Value} {rest : List Value} {g : Option (β × bh_S)} {f : β → bh_S → Option (α × bh_S)} (hr : bh_Run em' y cc ws ret NL FR LO X σ pc lv st rest g) (kk : ∀ (v : β) (σ1 : bh_S), g = some (v, σ1) → bh_J em y cc ws ret NL FR LO X σ1 (pc + 3) lv ((em' v).toList ++ rest) (f v σ1)) : bh_J em y cc ws ret NL FR LO X σ pc lv st (bh_bnd g f) := by
  refine bj_bnd (fun v σ1 hv => ?_)
  intro r σ' hres
  obtain ⟨hm, hk9⟩ := kk v σ1 hv r σ' hres
  obtain ⟨hm1, hr9⟩ := hr v σ1 hv
  refine ⟨⟨Nat.le_trans hm1.1 hm.1, Nat.le_trans hm1.2 hm.2⟩, fun hC => ?_⟩
  have hk9 := hk9 hC
  have hr9 := hr9 hC
  obtain ⟨l, p, e, s, m, args, below, meth, c, D, cy, base, e0, z0, n0⟩ := X
  obtain ⟨hx, hb, hml, hown, hts, hrt, hlk, hnm, hE⟩ := hC
  intro h0 h1 H locs ls hR hS hl
  have a1 := hm1.1
  have a2 := hm1.2
  have b1 := hm.1
  have b2 := hm.2
  obtain ⟨av, hr9⟩ := hr9 (bh_Rm FR LO (bh_z σ' - z0) (bh_n σ' - n0)) H locs ls (bh_z σ - z0) (bh_n σ - n0) rfl rfl (show _ ≤ bh_z σ' - z0 by omega) (show _ ≤ bh_n σ' - n0 by omega) hR hS hl
  refine bh_Wcall hr9 hS (fun H1 locs1 hR1 hS1 => ?_)
  exact W.cs (show _ = bh_z σ1 - z0 by omega) (show _ = bh_n σ1 - n0 by omega) (hk9 (by omega) (by omega) H1 locs1 ls hR1 hS1 hl)
theorem bj_callI {rest : List Value} {g : Option (Int32 × bh_S)} {f : Int32 → bh_S → Option (α × bh_S)} (hr : bh_Run eI y cc ws ret NL FR LO X σ pc lv st rest g) (kk : ∀ (v : Int32) (σ1 : bh_S), g = some (v, σ1) → bh_J em y cc ws ret NL FR LO X σ1 (pc + 3) lv (.int v :: rest) (f v σ1)) : bh_J em y cc ws ret NL FR LO X σ pc lv st (bh_bnd g f) := bj_call hr kk
theorem bj_callR {rest : List Value} {g : Option (Option Nat × bh_S)} {f : Option Nat → bh_S → Option (α × bh_S)} (hr : bh_Run eR y cc ws ret NL FR LO X σ pc lv st rest g) (kk : ∀ (v : Option Nat) (σ1 : bh_S), g = some (v, σ1) → bh_J em y cc ws ret NL FR LO X σ1 (pc + 3) lv (va_rf v :: rest) (f v σ1)) : bh_J em y cc ws ret NL FR LO X σ pc lv st (bh_bnd g f) := bj_call hr kk
theorem bj_callU {rest : List Value} {g : Option (Unit × bh_S)} {f : Unit → bh_S → Option (α × bh_S)} (hr : bh_Run eU y cc ws ret NL FR LO X σ pc lv st rest g) (kk : ∀ (v : Unit) (σ1 : bh_S), g = some (v, σ1) → bh_J em y cc ws ret NL FR LO X σ1 (pc + 3) lv rest (f v σ1)) : bh_J em y cc ws ret NL FR LO X σ pc lv st (bh_bnd g f) := bj_call hr kk
section BHC
variable {β : Type} {em' : β → Option Value} {y' : MethodName} {cc' : ByteArray} {ws' ws2 : List Cond} {ret' : Option FieldType} {NL' FR' LO' n index : Nat} {As rest : List Value} {g : Option (β × bh_S)} {b ci : Nat} {q : vw_C}
theorem bh_Pre {D : va_G} {cy : Nat → ClassId} {base e0 : Nat} {s : State} {H : Heap} {locs : List Loc} {av : List Value} (hE : bh_Env D cy base e0 s) (hR : bh_Rep D cy base e0 σ H) (hS : va_S (fun q => base ≤ q) s.heap H locs) : FrameBlind (va_Pc av (fun U => bh_Env D cy base e0 U ∧ bh_Rep D cy base e0 σ U.heap)) ∧ ∀ U : State, U.heap = H → s.WarmedH U.vm → va_Pc av (fun U => bh_Env D cy base e0 U ∧ bh_Rep D cy base e0 σ U.heap) av.toArray U :=
  ⟨fun _ _ _ _ h => ⟨h.1, h.2.1.blind, h.2.2⟩, fun U hU hW => ⟨rfl, hE.moved hS hU hW, by rw [hU]; exact hR⟩⟩
theorem br_V (hM : bh_MX em' X y' ws' FR' LO' (.ref b :: As) σ g) (hw : ws' = Cond.code y' cc' NL' ret' :: ws2) (hG : GoodIn ws (wsV y.cls index q.1 y' ws')) (hc : vwCl[ci]? = some q) (hK : bh_K σ b = ci) (hd : y'.cls = q.1 ∧ y'.cls ≠ "java/lang/invoke/MethodHandle" ∧ y'.cls ≠ "java/lang/invoke/VarHandle" ∧ (parseMethodDescriptor y'.desc).map (fun d => d.parameters.length) = some n) (hn : As.length = n) (hroom : FR' + 1 ≤ FR ∧ 8 + (NL' + 11) + LO' ≤ LO) (hst : st = As.reverse ++ .ref b :: rest) (hcat : (rest.map fun v => v.category).sum ≤ 8) (hdg : decode cc pc = .ok (.invokevirtual index, 3)) : bh_Run em' y cc ws ret NL FR LO X σ pc lv st rest g := by
  intro v σ1 hg
  obtain ⟨hm, hM⟩ := hM v σ1 hg
  refine ⟨hm, fun hC => ?_⟩
  obtain ⟨l, p, e, s, m, args, below, meth, c, D, cy, base, e0, z0, n0⟩ := X
  obtain ⟨hx, hb, hml, hown, hts, hrt, hlk, hnm, hE⟩ := hC
  intro R H locs ls cells slots hRf hRl hcl hsl hR hS hl
  have hP := bh_Pre (av := .ref b :: As) hE hR hS
  exact ⟨_, va_runV (As := As) (rest := rest) ⟨hx, hb, hml, hown, hts⟩ hM (cwV n hts hG hw rfl rfl hd (by rw [hRf, hRl]; exact hroom)) ⟨hP.1, bh_recv hE hR hK hc, hP.2⟩ rfl hn hl.1 hst (lv_room hcat) hdg ⟨hcl, hsl⟩⟩
theorem br_VN {host : String} (hM : bh_MX em' X y' ws' FR' LO' (.ref b :: As) σ g) (hw : ws' = Cond.code y' cc' NL' ret' :: ws2) (hG : GoodIn ws ws') (hN : Cond.methodLinkNest y.cls index y' host ∈ bh_nest) (h1w : Cond.initialized y'.cls ∈ ws) (h2w : Cond.instanceMethod y' ∈ ws) (h3w : Cond.selects q.1 y' y' ∈ ws) (hc : vwCl[ci]? = some q) (hK : bh_K σ b = ci) (hd : y'.cls ≠ "java/lang/invoke/MethodHandle" ∧ y'.cls ≠ "java/lang/invoke/VarHandle" ∧ (parseMethodDescriptor y'.desc).map (fun d => d.parameters.length) = some n) (hn : As.length = n) (hroom : FR' + 1 ≤ FR ∧ 8 + (NL' + 11) + LO' ≤ LO) (hst : st = As.reverse ++ .ref b :: rest) (hcat : (rest.map fun v => v.category).sum ≤ 8) (hdg : decode cc pc = .ok (.invokevirtual index, 3)) : bh_Run em' y cc ws ret NL FR LO X σ pc lv st rest g := by
  intro v σ1 hg
  obtain ⟨hm, hM⟩ := hM v σ1 hg
  refine ⟨hm, fun hC => ?_⟩
  obtain ⟨l, p, e, s, m, args, below, meth, c, D, cy, base, e0, z0, n0⟩ := X
  obtain ⟨hx, hb, hml, hown, hts, hrt, hlk, hnm, hE⟩ := hC
  intro R H locs ls cells slots hRf hRl hcl hsl hR hS hl
  have hP := bh_Pre (av := .ref b :: As) hE hR hS
  exact ⟨_, va_runVN (As := As) (rest := rest) (C := q.1) ⟨hx, hb, hml, hown, hts⟩ hM ⟨va_cnB n hts hG hw rfl rfl (hE.2.1 _ hN) (hts _ h1w) hd (by rw [hRf, hRl]; exact hroom), hts _ h2w, hts _ h3w⟩ ⟨hP.1, bh_recv hE hR hK hc, hP.2⟩ rfl hn hl.1 hst (lv_room hcat) hdg ⟨hcl, hsl⟩⟩
theorem br_S (hM : bh_MX em' X y' ws' FR' LO' As σ g) (hw : ws' = Cond.code y' cc' NL' ret' :: ws2) (hG : GoodIn ws (va_wsS y.cls index y' ws')) (hd : y'.cls ≠ "java/lang/invoke/MethodHandle" ∧ y'.cls ≠ "java/lang/invoke/VarHandle" ∧ (parseMethodDescriptor y'.desc).map (fun d => d.parameters.length) = some n) (hn : As.length = n) (hroom : FR' + 1 ≤ FR ∧ 8 + (NL' + 11) + LO' ≤ LO) (hst : st = As.reverse ++ rest) (hcat : (rest.map fun v => v.category).sum ≤ 8) (hdg : decode cc pc = .ok (.invokestatic index, 3)) : bh_Run em' y cc ws ret NL FR LO X σ pc lv st rest g := by
  intro v σ1 hg
  obtain ⟨hm, hM⟩ := hM v σ1 hg
  refine ⟨hm, fun hC => ?_⟩
  obtain ⟨l, p, e, s, m, args, below, meth, c, D, cy, base, e0, z0, n0⟩ := X
  obtain ⟨hx, hb, hml, hown, hts, hrt, hlk, hnm, hE⟩ := hC
  intro R H locs ls cells slots hRf hRl hcl hsl hR hS hl
  have hP := bh_Pre (av := As) hE hR hS
  exact ⟨_, va_runS (As := As) (rest := rest) ⟨hx, hb, hml, hown, hts⟩ hM (va_cwS n hts hG hw rfl rfl hd (by rw [hRf, hRl]; exact hroom)) hP rfl hn hl.1 hst (lv_room hcat) hdg ⟨hcl, hsl⟩⟩
theorem br_I (hM : bh_MX em' X y' ws' FR' LO' (.ref b :: As) σ g) (hw : ws' = Cond.code y' cc' NL' none :: ws2) (hG : GoodIn ws ws') (h1w : Cond.initialized y'.cls ∈ ws) (h2w : Cond.methodLink y.cls index y' ∈ ws) (h3w : Cond.instanceMethod y' ∈ ws) (hin : y'.name = "<init>") (hd : y'.cls ≠ "java/lang/invoke/MethodHandle" ∧ y'.cls ≠ "java/lang/invoke/VarHandle" ∧ (parseMethodDescriptor y'.desc).map (fun d => d.parameters.length) = some n) (hn : As.length = n) (hroom : FR' + 1 ≤ FR ∧ 8 + (NL' + 11) + LO' ≤ LO) (hst : st = As.reverse ++ .ref b :: rest) (hcat : (rest.map fun v => v.category).sum ≤ 8) (hdg : decode cc pc = .ok (.invokespecial index, 3)) : bh_Run em' y cc ws ret NL FR LO X σ pc lv st rest g := by
  intro v σ1 hg
  obtain ⟨hm, hM⟩ := hM v σ1 hg
  refine ⟨hm, fun hC => ?_⟩
  obtain ⟨l, p, e, s, m, args, below, meth, c, D, cy, base, e0, z0, n0⟩ := X
  obtain ⟨hx, hb, hml, hown, hts, hrt, hlk, hnm, hE⟩ := hC
  intro R H locs ls cells slots hRf hRl hcl hsl hR hS hl
  have hP := bh_Pre (av := .ref b :: As) hE hR hS
  exact ⟨_, va_runI (As := As) (rest := rest) ⟨hx, hb, hml, hown, hts⟩ hM (cwI n hts hG hw rfl rfl (hts _ h1w) (hts _ h2w) (hts _ h3w) hin hd (by rw [hRf, hRl]; exact hroom)) hP rfl hn hl.1 hst (lv_room hcat) hdg ⟨hcl, hsl⟩⟩
theorem br_IN {host : String} (hM : bh_MX em' X y' ws' FR' LO' (.ref b :: As) σ g) (hw : ws' = Cond.code y' cc' NL' none :: ws2) (hG : GoodIn ws ws') (hN : Cond.methodLinkNest y.cls index y' host ∈ bh_nest) (h1w : Cond.initialized y'.cls ∈ ws) (h3w : Cond.instanceMethod y' ∈ ws) (hin : y'.name = "<init>") (hd : y'.cls ≠ "java/lang/invoke/MethodHandle" ∧ y'.cls ≠ "java/lang/invoke/VarHandle" ∧ (parseMethodDescriptor y'.desc).map (fun d => d.parameters.length) = some n) (hn : As.length = n) (hroom : FR' + 1 ≤ FR ∧ 8 + (NL' + 11) + LO' ≤ LO) (hst : st = As.reverse ++ .ref b :: rest) (hcat : (rest.map fun v => v.category).sum ≤ 8) (hdg : decode cc pc = .ok (.invokespecial index, 3)) : bh_Run em' y cc ws ret NL FR LO X σ pc lv st rest g := by
  intro v σ1 hg
  obtain ⟨hm, hM⟩ := hM v σ1 hg
  refine ⟨hm, fun hC => ?_⟩
  obtain ⟨l, p, e, s, m, args, below, meth, c, D, cy, base, e0, z0, n0⟩ := X
  obtain ⟨hx, hb, hml, hown, hts, hrt, hlk, hnm, hE⟩ := hC
  intro R H locs ls cells slots hRf hRl hcl hsl hR hS hl
  have hP := bh_Pre (av := .ref b :: As) hE hR hS
  exact ⟨_, va_runIN (As := As) (rest := rest) ⟨hx, hb, hml, hown, hts⟩ hM ⟨va_cnB n hts hG hw rfl rfl (hE.2.1 _ hN) (hts _ h1w) hd (by rw [hRf, hRl]; exact hroom), hin, hts _ h3w⟩ hP rfl hn hl.1 hst (lv_room hcat) hdg ⟨hcl, hsl⟩⟩
end BHC

end BHJ2
