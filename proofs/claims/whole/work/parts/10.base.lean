/-! The base: whole numbers as the machine keeps them; the heap as one table of numbers by object and place; the goal AW. -/
theorem ii_bmod {z : Int} (h1 : -2147483648 ≤ z) (h2 : z < 2147483648) : z.bmod (2 ^ 32) = z := Int.bmod_eq_of_le (by omega) (by omega)
def ii_n (z : Int) : Int32 := Int32.ofInt z
abbrev ii_v (z : Int) : Value := .int (ii_n z)
def ii_B (z : Int) : Prop := -2147483648 ≤ z ∧ z < 2147483648
theorem ii_toInt {z : Int} (h : ii_B z) : (ii_n z).toInt = z := by
  unfold ii_n
  rw [Int32.toInt_ofInt]
  exact ii_bmod h.1 h.2
theorem ii_add (a b : Int) : ii_n a + ii_n b = ii_n (a + b) := (Int32.ofInt_add a b).symm
theorem ii_sub (a b : Int) : ii_n a - ii_n b = ii_n (a - b) := (Int32.ofInt_sub a b).symm
theorem ii_mul (a b : Int) : ii_n a * ii_n b = ii_n (a * b) := (Int32.ofInt_mul a b).symm
theorem ii_neg (a : Int) : - ii_n a = ii_n (-a) := (Int32.ofInt_neg a).symm
theorem ii_lt {a b : Int} (ha : ii_B a) (hb : ii_B b) : ii_n a < ii_n b ↔ a < b := by
  rw [Int32.lt_iff_toInt_lt, ii_toInt ha, ii_toInt hb]
theorem ii_le {a b : Int} (ha : ii_B a) (hb : ii_B b) : ii_n a ≤ ii_n b ↔ a ≤ b := by
  rw [Int32.le_iff_toInt_le, ii_toInt ha, ii_toInt hb]
theorem ii_eq {a b : Int} (ha : ii_B a) (hb : ii_B b) : ii_n a = ii_n b ↔ a = b :=
  ⟨fun h => by rw [← ii_toInt ha, ← ii_toInt hb, h], fun h => by rw [h]⟩
theorem ii_of (x : Int32) : x = ii_n x.toInt := (Int32.ofInt_toInt x).symm
theorem ii_Bof (x : Int32) : ii_B x.toInt := ⟨Int32.le_toInt x, Int32.toInt_lt x⟩
theorem ii_nI (n : Nat) : nI n = ii_n (n : Int) := by
  unfold nI ii_n
  exact (Int32.ofInt_eq_ofNat ..).symm
theorem ii_clamp {z : Int} (h0 : 0 ≤ z) (h : z < 2147483648) : (ii_n z).toNatClampNeg = z.toNat := by
  show (ii_n z).toInt.toNat = _
  rw [ii_toInt ⟨by omega, h⟩]
theorem ii_clampN {k : Nat} (h : k < 2147483648) : (ii_n (k : Int)).toNatClampNeg = k := by
  rw [ii_clamp (by omega) (by omega)]
  exact Int.toNat_natCast k
theorem ii_inN {k n : Nat} (hk : k < n) (h : n < 2147483648) : vp_in (ii_n (k : Int)) n := by
  rw [← ii_nI]
  exact vp_in_nI hk (by omega)
/-- one place of the table written -/
def ii_up (f : Nat → Nat → Int) (o k : Nat) (v : Int) : Nat → Nat → Int := fun o' k' => if o' = o then (if k' = k then v else f o k') else f o' k'
theorem ii_up_s (f : Nat → Nat → Int) (o k : Nat) (v : Int) : ii_up f o k v o k = v := by simp [ii_up]
theorem ii_up_o (f : Nat → Nat → Int) {o k o' : Nat} (v : Int) (k' : Nat) (h : o' ≠ o) : ii_up f o k v o' k' = f o' k' := by simp [ii_up, h]
theorem ii_up_k (f : Nat → Nat → Int) {o k k' : Nat} (v : Int) (h : k' ≠ k) : ii_up f o k v o k' = f o k' := by simp [ii_up, h]
theorem ii_up_row (f : Nat → Nat → Int) {o k o' : Nat} (v : Int) (h : o' ≠ o) : ii_up f o k v o' = f o' := by funext k'; simp [ii_up, h]
theorem ii_up_same (f : Nat → Nat → Int) {o k : Nat} {v : Int} (h : f o k = v) : ii_up f o k v = f := by
  funext o' k'
  unfold ii_up
  by_cases h1 : o' = o
  · by_cases h2 : k' = k
    · rw [if_pos h1, if_pos h2, h1, h2, h]
    · rw [if_pos h1, if_neg h2, h1]
  · rw [if_neg h1]
theorem ii_up_up (f : Nat → Nat → Int) (o k : Nat) (v w : Int) : ii_up (ii_up f o k v) o k w = ii_up f o k w := by
  funext o' k'
  simp only [ii_up]
  by_cases h1 : o' = o <;> by_cases h2 : k' = k <;> simp [h1, h2]
theorem ii_up_com (f : Nat → Nat → Int) {o k o2 k2 : Nat} (v w : Int) (h : o ≠ o2 ∨ k ≠ k2) : ii_up (ii_up f o k v) o2 k2 w = ii_up (ii_up f o2 k2 w) o k v := by
  funext o' k'
  simp only [ii_up]
  by_cases h1 : o' = o <;> by_cases h2 : k' = k <;> by_cases h3 : o' = o2 <;> by_cases h4 : k' = k2 <;> simp_all
/-- the environment: the tables' numbers; the classes of arrays (0 int, 1 char, 2 Object, 3 long, 4 double); where ArrayList's empty array lies -/
abbrev ab_E : Type := va_G × (Nat → ClassId) × Nat
/-- the heap's numbers: the table; how many buses, requests; what the two arrays of the law hold -/
abbrev ab_H : Type := (Nat → Nat → Int) × Nat × Nat × Int64 × UInt64
/-- how far the world is made (1 the planner, 2 the model, 3 and 4 the law's arrays), and cells that stand apart -/
abbrev ab_X : Type := Nat × (Nat → Option va_E)
abbrev ab_fi (z : ab_H) : Nat → Nat → Int := z.1
abbrev ab_nb (z : ab_H) : Nat := z.2.1
abbrev ab_nr (z : ab_H) : Nat := z.2.2.1
abbrev ab_set (z : ab_H) (f : Nat → Nat → Int) : ab_H := (f, z.2)
abbrev ab_up (z : ab_H) (o k : Nat) (v : Int) : ab_H := (ii_up z.1 o k v, z.2)
abbrev ab_x4 : ab_X := (4, fun _ => none)
def ab_A (base : Nat) : Nat → Prop := fun q => base ≤ q
abbrev ab_n5 : List (Option Nat) := [none, none, none, none, none]
/-- the objects: the class, and what each place holds: a number, or a reference to the object of that name -/
def ab_ob (ex nb nr o : Nat) : Option (Nat × List (Option Nat)) :=
  if o < 40 then
    (if ex = 0 then none
    else if o = 0 then some (10, [some 1, some 2, some 4, some 9, some 13, some 17, none, none, none])
    else if o = 2 then some (1, [some 3, some (300 + nr)])
    else if o = 4 then some (5, [some 5, some 6, some 7, some 8, none])
    else if o = 9 then some (4, [some 2, some 10])
    else if o = 11 then some (9, [some 2, some 12, none, none, none, none, none])
    else if o = 13 then some (3, [some 9, some 11, some 14, none, none, none, none, none])
    else if o = 14 then some (8, [some 24, none])
    else if o = 15 then some (8, [some 25, none])
    else if o = 16 then some (8, [some 26, none])
    else if o = 17 then some (6, [some 9, some 11, some 15, some 16, none])
    else none)
  else if o = 40 then (if ex < 2 then none else some (11, [none, some 41, some 42, some 43, some 44, some 45, some 46, some 47, some 48, some 49, some 50, some 51, some 52, some 53, some 54, some 55, some 56, some 57, some 58, some 59, some 60, some 61, some 62, some 63, some 64, some 65, some 66, some 67, some 68, none, none, none, none, none, none, some 75, some 76, none, none, none, none, none, none, some 83, some 84, none, none]))
  else if ex = 0 then none
  else if 200 ≤ o ∧ o < 210 then (if o < 200 + nb then some (2, [none, none, none, none, none, some (o + 10), none, none, none, none, none, none, none]) else none)
  else if 210 ≤ o ∧ o < 220 then (if o < 210 + nb then some (8, [some (o + 10), none]) else none)
  else if 300 ≤ o ∧ o ≤ 300 + nr then some (7, [none, none, none, none, none, none, none, none, none, none, none, none, none])
  else none
/-- the arrays of numbers: the kind and how many places -/
def ab_ar (ex nb o : Nat) : Option (Nat × Nat) :=
  if o < 40 then
    (if ex = 0 then none
    else if 5 ≤ o ∧ o ≤ 8 then some (0, 60)
    else if o = 10 ∨ o = 12 then some (0, 8)
    else if 24 ≤ o ∧ o ≤ 26 then some (0, 8)
    else none)
  else if o < 90 then
    (if ex < 2 then none
    else if 41 ≤ o ∧ o ≤ 51 then some (0, 4)
    else if o = 52 then some (0, 32)
    else if 53 ≤ o ∧ o ≤ 62 then some (0, 31)
    else if o = 63 ∨ o = 64 then some (1, 31)
    else if 65 ≤ o ∧ o ≤ 68 then some (0, 60)
    else if o = 75 ∨ o = 76 ∨ o = 83 ∨ o = 84 then some (0, 8)
    else none)
  else if ex = 0 then none
  else if 220 ≤ o ∧ o < 230 then (if o < 220 + nb then some (0, 8) else none)
  else none
def ab_fs (ad : Nat → Nat) (row : Nat → Int) : Nat → List (Option Nat) → List Value
  | _, [] => []
  | k, none :: ds => ii_v (row k) :: ab_fs ad row (k + 1) ds
  | k, some r :: ds => .ref (ad r) :: ab_fs ad row (k + 1) ds
/-- what is not told of a list: its count of changes, and how many places its array has (0: it is the empty one) -/
abbrev ab_G : Type := (Nat → Int32) × (Nat → Nat)
abbrev ab_rows (n : Nat) (f : Nat → Nat) : Nat → Option Nat := fun j => if j < n then some (f j) else none
/-- what lies at the object of a name -/
def ab_cel (E : ab_E) (x : ab_X) (ad : Nat → Nat) (g : ab_G) (nb nr : Nat) (ol : Int64 × UInt64) (row : Nat → Int) (o : Nat) : Option va_E :=
  match ab_ob x.1 nb nr o with
  | some (ci, ds) => some (.inr (ci, ab_fs ad row 0 ds))
  | none => match ab_ar x.1 nb o with
    | some (t, n) => some (.inl (E.2.1 t, n, .inl (fun j => ii_n (row j))))
    | none =>
      if 500 ≤ o then x.2 o
      else if x.1 = 0 then none
      else if o = 1 then some (.inr (0, [.int (g.1 1), .ref (if g.2 1 = 0 then E.2.2 else ad 31), ii_v nb]))
      else if o = 3 then some (.inr (0, [.int (g.1 3), .ref (if g.2 3 = 0 then E.2.2 else ad 33), ii_v nr]))
      else if o = 31 then (if g.2 1 = 0 then none else some (.inl (E.2.1 2, g.2 1, .inr (.inr (.inr (.inr (ab_rows nb (fun j => ad (200 + j)))))))))
      else if o = 33 then (if g.2 3 = 0 then none else some (.inl (E.2.1 2, g.2 3, .inr (.inr (.inr (.inr (ab_rows nr (fun j => ad (300 + j)))))))))
      else if o = 90 ∧ 3 ≤ x.1 then some (.inl (E.2.1 3, 1, .inr (.inl (fun _ => ol.1))))
      else if o = 91 ∧ 4 ≤ x.1 then some (.inl (E.2.1 4, 1, .inr (.inr (.inr (.inl (fun _ => ol.2))))))
      else none
abbrev ab_ce (E : ab_E) (x : ab_X) (ad : Nat → Nat) (g : ab_G) (z : ab_H) (o : Nat) : Option va_E := ab_cel E x ad g z.2.1 z.2.2.1 z.2.2.2 (z.1 o) o
abbrev ab_tys (E : ab_E) : List (ClassId × FieldType) := [(E.2.1 0, .int), (E.2.1 1, .char), (E.2.1 2, .object "java/lang/Object"), (E.2.1 3, .long), (E.2.1 4, .double)]
/-- the texts that are thrown: where they stand among ShuttleRow's constants -/
def ab_strs : List (Nat × String) := [(74, "the detour is not between 0 and 200"), (79, "the wait is not between 0 and 60"), (85, "there is no such bus"), (93, "there are 4 buses"), (111, "there are 30 requests"), (180, "the request does not wait"), (197, "the request was not refused"), (203, "the request was refused"), (251, "the minutes are not between 1 and 60"), (281, "the bus has not driven"), (314, "nobody was dropped"), (319, "there is no such request"), (321, "the request was refused or cancelled"), (325, "both places are the same"), (328, "the request would be refused"), (330, "the tour has no such stop"), (332, "there is no such entry")]
/-- what lies outside: the statics and constants that the JDK and the throws read -/
def ab_SF (base : Nat) (E : ab_E) (U : State) (H : Heap) : Prop :=
  vx_Zq Bundle.tN "UNASSIGNED_STACK" Bundle.steD (ab_A base) U H ∧ vx_Zq Bundle.tN "SUPPRESSED_SENTINEL" Bundle.listD (ab_A base) U H
  ∧ va_Z "java/util/ArrayList" "DEFAULTCAPACITY_EMPTY_ELEMENTDATA" "[Ljava/lang/Object;" (.ref E.2.2) (ab_A base) U H ∧ (va_T (.object "java/lang/Object") E.2.2 0 (fun _ => .null) (ab_A base) U H ∧ (∃ mi : Nat, va_Mi "[Ljava/lang/Object;" mi U) ∧ va_AO "java/lang/Object" U)
  ∧ (∀ q ∈ ab_strs, ∃ a, vk_R RX9 q.1 q.2 a U) ∧ ∀ w ∈ ab_nest, va_Nw w U
theorem ab_nest_go {u U : State} (hW : u.WarmedH U.vm) (h : ∀ w ∈ ab_nest, va_Nw w u) : ∀ w ∈ ab_nest, va_Nw w U := by
  intro w hw
  have h1 := h w hw
  have h2 : ab_isN w = true := (List.mem_filter.mp hw).2
  cases w <;> first | exact va_Nw.warmF hW h1 | exact va_Nw.warmM hW h1 | exact va_Nw.warmC hW h1 | exact va_Nw.warmD hW h1 | (cases h2; done)
theorem ab_nest_same {u U : State} (hv : U.vm = u.vm) (h : ∀ w ∈ ab_nest, va_Nw w u) : ∀ w ∈ ab_nest, va_Nw w U := by
  intro w hw
  have h1 := h w hw
  have h2 : ab_isN w = true := (List.mem_filter.mp hw).2
  cases w <;> first | exact va_Nw.same rfl hv.symm h1 | (cases h2; done)
theorem ab_SF_go {base : Nat} {E : ab_E} {u U : State} {H H1 : Heap} (hW : u.WarmedH U.vm) (hq : ∀ a : Nat, a < H.size → ¬ ab_A base a → H1[a]? = H[a]?) (h : ab_SF base E u H) : ab_SF base E U H1 :=
  ⟨(h.1.moved hW.alike).kept hq, (h.2.1.moved hW.alike).kept hq, (h.2.2.1.moved hW.alike).kept hq, ⟨(h.2.2.2.1.1.moved hW.alike).kept hq, h.2.2.2.1.2.1.elim (fun mi hm => ⟨mi, va_Mi.moved hW.alike hm⟩), va_AO.moved hW.alike h.2.2.2.1.2.2⟩, fun q hqm => by
    obtain ⟨a, ha⟩ := h.2.2.2.2.1 q hqm
    exact ⟨a, vk_R.warm hW ha⟩, ab_nest_go hW h.2.2.2.2.2⟩
theorem ab_SF_same {base : Nat} {E : ab_E} {u U : State} {H : Heap} (hv : U.vm = u.vm) (h : ab_SF base E u H) : ab_SF base E U H := by
  have hA : u.vm.Alike U.vm := by rw [hv]; exact Vm.Alike.refl _
  exact ⟨h.1.moved hA, h.2.1.moved hA, h.2.2.1.moved hA, ⟨h.2.2.2.1.1.moved hA, h.2.2.2.1.2.1.elim (fun mi hm => ⟨mi, va_Mi.moved hA hm⟩), va_AO.moved hA h.2.2.2.1.2.2⟩, fun q hqm => by
    obtain ⟨a, ha⟩ := h.2.2.2.2.1 q hqm
    exact ⟨a, vk_R.same hv ha⟩, ab_nest_same hv h.2.2.2.2.2⟩
/-- a list's array has room for what the list holds -/
def ab_gok (g : ab_G) (z : ab_H) : Prop := z.2.1 ≤ g.2 1 ∧ g.2 1 ≤ 60 ∧ z.2.2.1 ≤ g.2 3 ∧ g.2 3 ≤ 60
/-- THE HEAP: it holds the table -/
def ab_HM (E : ab_E) (base : Nat) (x : ab_X) (ad : Nat → Nat) (z : ab_H) (U : State) (H : Heap) : Prop :=
  va_K E.1 vwCl (ab_tys E) U ∧ base ≤ H.size ∧ ∃ g : ab_G, ab_gok g z ∧ (∀ (o : Nat) (e : va_E), ab_ce E x ad g z o = some e → va_at E.1 vwCl (ad o, e) H ∧ base ≤ ad o)
    ∧ ∀ (o o2 : Nat) (e e2 : va_E), ab_ce E x ad g z o = some e → ab_ce E x ad g z o2 = some e2 → ad o = ad o2 → o = o2
theorem ab_HM_moved {E : ab_E} {base : Nat} {x : ab_X} {ad : Nat → Nat} {z : ab_H} {u U : State} {H : Heap} (hvm : u.vm.Alike U.vm) (h : ab_HM E base x ad z u H) : ab_HM E base x ad z U H := ⟨va_K.moved hvm h.1, h.2⟩
section AW
variable (p : Program) (l : Launch) (e : Env) (R : Room) (s : State) (m : MethodId) (args : Array Value) (below : List Frame) (meth : Method) (c : Code) (E : ab_E) (base nL : Nat) (Q : State → Prop)
/-- THE GOAL: from the frame at pc, over any heap that holds the table, the machine comes to Q -/
def ab_W (x : ab_X) (ad : Nat → Nat) (z : ab_H) (k n pc : Nat) (L : List (Nat × Value)) (st : List Value) : Prop :=
  ∀ (H : Heap) (locs : List Loc) (ls : Array Slot), ab_HM E base x ad z s H → va_S (ab_A base) s.heap H locs → lv_has ls nL L → W p l e R s m args below meth c H locs k n Q (F0 m pc ls st)
/-- the same with an exception of the class X thrown at pc -/
def ab_WX (x : ab_X) (ad : Nat → Nat) (z : ab_H) (k n pc : Nat) (L : List (Nat × Value)) (rest : List Value) (X : String) : Prop :=
  ∀ (H : Heap) (locs : List Loc) (ls : Array Slot) (q : Addr) (ce : Cell), ab_HM E base x ad z s H → va_S (ab_A base) s.heap H locs → lv_has ls nL L → H[q]? = some ce → ce.vm = .none → s.vm.findClass X = some ce.cls → vx_W p l e R s m args below meth c H locs k n Q (F0 m pc ls rest) q
/-- what stands through a whole method -/
def ab_C (own : String) (cc : ByteArray) (ret : Option FieldType) : Prop :=
  p.tables.exec = Jvm.exec ∧ c.code = cc ∧ meth.sig.returnType = ret ∧ c.maxLocals = nL ∧ s.vm.findClass own = some m.cls ∧ (∀ w ∈ ab_all, w.before args s = true) ∧ meth.locks = false ∧ l.stackTraces = false ∧ ab_SF base E s s.heap ∧ base ≤ s.heap.size
end AW
def ab_rm (d mc ms : Nat) : Room := { frames := d, cells := mc, slots := ms, locals := 60 * d + 100 }
abbrev ab_ws (y : MethodName) (cc : ByteArray) (nL : Nat) (ret : Option FieldType) : List Cond := .code y cc nL ret :: ab_all
abbrev ab_P : Type := (Option Value ⊕ String) → ab_X → (Nat → Nat) → ab_H → Prop
def ab_pc (E : ab_E) (base : Nat) (x : ab_X) (ad : Nat → Nat) (z : ab_H) : State → Prop := fun U => ab_HM E base x ad z U U.heap ∧ ab_SF base E U U.heap
def ab_qc (E : ab_E) (base : Nat) (Post : ab_P) : Array Value → State → Outcome → State → Prop := fun _ st oc t => (∃ (v : Option Value) (x : ab_X) (ad : Nat → Nat) (z : ab_H), oc = .returned v ∧ Post (.inl v) x ad z ∧ ab_HM E base x ad z t t.heap) ∧ va_F (ab_A base) st t
def ab_xc (E : ab_E) (base : Nat) (Post : ab_P) : String → State → State → Prop := fun X st t => (∃ (x : ab_X) (ad : Nat → Nat) (z : ab_H), Post (.inr X) x ad z ∧ ab_HM E base x ad z t t.heap) ∧ va_F (ab_A base) st t
/-- A CONTRACT: the method y, at these arguments and this table, comes back as Post says; d calls deep at most, mc cells of ms places made at most -/
def ab_M (l : Launch) (E : ab_E) (base : Nat) (y : MethodName) (cc : ByteArray) (nL : Nat) (ret : Option FieldType) (d mc ms : Nat) (as : List Value) (x : ab_X) (ad : Nat → Nat) (z : ab_H) (Post : ab_P) : Prop :=
  vx_Met l y (ab_ws y cc nL ret) (ab_rm d mc ms) (va_Pc as (ab_pc E base x ad z)) (ab_qc E base Post) (ab_xc E base Post) mc ms (ab_A base)
/-- it returns v, and the table is z1 -/
abbrev ab_R (v : Value) (x1 : ab_X) (ad1 : Nat → Nat) (z1 : ab_H) : ab_P := fun oc x ad z => oc = .inl (some v) ∧ x = x1 ∧ ad = ad1 ∧ z = z1
abbrev ab_V (x1 : ab_X) (ad1 : Nat → Nat) (z1 : ab_H) : ab_P := fun oc x ad z => oc = .inl none ∧ x = x1 ∧ ad = ad1 ∧ z = z1
abbrev ab_T (X : String) (x1 : ab_X) (ad1 : Nat → Nat) (z1 : ab_H) : ab_P := fun oc x ad z => oc = .inr X ∧ x = x1 ∧ ad = ad1 ∧ z = z1
