/-! Objects that are made: the heap as a table by address, and its rows. -/
def aw_up (cw : Nat → Option va_E) (a : Nat) (e : va_E) : Nat → Option va_E := fun q => if q = a then some e else cw q
theorem aw_up_s (cw : Nat → Option va_E) (a : Nat) (e : va_E) : aw_up cw a e a = some e := if_pos rfl
theorem aw_up_o {cw : Nat → Option va_E} {a q : Nat} (e : va_E) (h : q ≠ a) : aw_up cw a e q = cw q := if_neg h
/-- q lies above all that is known -/
def aw_top (cw : Nat → Option va_E) (q : Nat) : Prop := ∀ (b : Nat) (e : va_E), cw b = some e → b < q
def aw_HM (E : ab_E) (base : Nat) (cw : Nat → Option va_E) (U : State) (H : Heap) : Prop := va_K E.1 vwCl (ab_tys E) U ∧ base ≤ H.size ∧ ∀ (a : Nat) (e : va_E), cw a = some e → va_at E.1 vwCl (a, e) H ∧ base ≤ a
theorem aw_HM_moved {E : ab_E} {base : Nat} {cw : Nat → Option va_E} {u U : State} {H : Heap} (hvm : u.vm.Alike U.vm) (h : aw_HM E base cw u H) : aw_HM E base cw U H := ⟨va_K.moved hvm h.1, h.2⟩
theorem va_at_lt {D : va_G} {cl : List vw_C} {q : Nat × va_E} {H : Heap} (h : va_at D cl q H) : q.1 < H.size := by
  obtain ⟨a, e⟩ := q
  cases e with
  | inl a1 => exact (Array.getElem?_eq_some_iff.mp (show H[a]? = _ from h)).1
  | inr o => 
    obtain ⟨r, -, cell, h1, -⟩ := h
    exact (Array.getElem?_eq_some_iff.mp h1).1
theorem va_at_kept {D : va_G} {cl : List vw_C} {q : Nat × va_E} {H H1 : Heap} (h : va_at D cl q H) (hq : H1[q.1]? = H[q.1]?) : va_at D cl q H1 := by
  obtain ⟨a, e⟩ := q
  cases e with
  | inl a1 => 
    show H1[a]? = _
    rw [show H1[a]? = H[a]? from hq]
    exact h
  | inr o => 
    obtain ⟨r, hr, cell, h1, h2⟩ := h
    exact ⟨r, hr, cell, by rw [show H1[a]? = H[a]? from hq]; exact h1, h2⟩
theorem aw_HM_set {E : ab_E} {base : Nat} {cw : Nat → Option va_E} {s : State} {H H1 : Heap} {a : Nat} {e1 : va_E} (h : aw_HM E base cw s H) (ha : base ≤ a) (hat : va_at E.1 vwCl (a, e1) H1) (hsz : H1.size = H.size) (hoth : ∀ q, q ≠ a → H1[q]? = H[q]?) : aw_HM E base (aw_up cw a e1) s H1 := by
  refine ⟨h.1, by rw [hsz]; exact h.2.1, fun q e he => ?_⟩
  by_cases hq : q = a
  · subst hq
    rw [aw_up_s] at he
    cases he
    exact ⟨hat, ha⟩
  · rw [aw_up_o _ hq] at he
    exact ⟨va_at_kept (h.2.2 q e he).1 (hoth q hq), (h.2.2 q e he).2⟩
theorem aw_HM_fresh {E : ab_E} {base : Nat} {cw : Nat → Option va_E} {s : State} {H : Heap} (h : aw_HM E base cw s H) : aw_top cw H.size := fun b e hb => va_at_lt (h.2.2 b e hb).1
theorem aw_HM_new {E : ab_E} {base : Nat} {cw : Nat → Option va_E} {s : State} {H H1 : Heap} {e1 : va_E} (h : aw_HM E base cw s H) (hat : va_at E.1 vwCl (H.size, e1) H1) (hsz : H1.size = H.size + 1) (hoth : ∀ q, q < H.size → H1[q]? = H[q]?) : aw_HM E base (aw_up cw H.size e1) s H1 := by
  refine ⟨h.1, by rw [hsz]; exact Nat.le_succ_of_le h.2.1, fun q e he => ?_⟩
  by_cases hq : q = H.size
  · subst hq
    rw [aw_up_s] at he
    cases he
    exact ⟨hat, h.2.1⟩
  · rw [aw_up_o _ hq] at he
    have h1 := h.2.2 q e he
    exact ⟨va_at_kept h1.1 (hoth q (va_at_lt h1.1)), h1.2⟩
section AWW
variable (p : Program) (l : Launch) (e : Env) (R : Room) (s : State) (m : MethodId) (args : Array Value) (below : List Frame) (meth : Method) (c : Code) (E : ab_E) (base nL : Nat) (Q : State → Prop)
/-- the goal, over any heap that holds the table by address -/
def aw_W (cw : Nat → Option va_E) (k n pc : Nat) (L : List (Nat × Value)) (st : List Value) : Prop :=
  ∀ (H : Heap) (locs : List Loc) (ls : Array Slot), aw_HM E base cw s H → va_S (ab_A base) s.heap H locs → lv_has ls nL L → W p l e R s m args below meth c H locs k n Q (F0 m pc ls st)
end AWW
def aw_qc (E : ab_E) (base : Nat) (Post : Option Value → (Nat → Option va_E) → Prop) : Array Value → State → Outcome → State → Prop := fun _ st oc t => (∃ (v : Option Value) (cw : Nat → Option va_E), oc = .returned v ∧ Post v cw ∧ aw_HM E base cw t t.heap) ∧ va_F (ab_A base) st t
def aw_no : String → State → State → Prop := fun _ _ _ => False
/-- a contract over the table by address; nothing is thrown -/
def aw_M (l : Launch) (E : ab_E) (base : Nat) (y : MethodName) (cc : ByteArray) (nL : Nat) (ret : Option FieldType) (d mc ms : Nat) (as : List Value) (cw : Nat → Option va_E) (Post : Option Value → (Nat → Option va_E) → Prop) : Prop :=
  vx_Met l y (ab_ws y cc nL ret) (ab_rm d mc ms) (va_Pc as (fun U => aw_HM E base cw U U.heap ∧ ab_SF base E U U.heap)) (aw_qc E base Post) aw_no mc ms (ab_A base)
theorem aw_of {l : Launch} {E : ab_E} {base : Nat} {y : MethodName} {cc : ByteArray} {nL : Nat} {ret : Option FieldType} {d mc ms : Nat} {as : List Value} {cw : Nat → Option va_E} {Post : Option Value → (Nat → Option va_E) → Prop} (own : String) (L0 : List (Nat × Value)) (hl : l.stackTraces = false) (hy : plainName y.cls = true) (hown : y.cls = own) (hlen : (lg_sl as).length ≤ nL) (hL : lv_args 0 as = L0)
    (body : ∀ (p : Program) (e : Env) (s : State) (m : MethodId) (args : Array Value) (below : List Frame) (meth : Method) (c : Code), ab_C p l s m args meth c E base nL own cc ret → meth.name = y.name →
      aw_W p l e (ab_rm d mc ms) s m args below meth c E base nL (vx_MQ below (aw_qc E base Post) aw_no args s mc ms (ab_A base)) cw 0 0 0 L0 []) : aw_M l E base y cc nL ret d mc ms as cw Post := by
  subst hown hL
  refine vx_ofW (cc := cc) (maxL := nL) (ret := ret) hy rfl ?_
  intro p e s m args below meth c s₁ B hml ht hv
  obtain ⟨rfl, hHM, hSF⟩ := hv
  rw [lg_entry_eq]
  exact body p e s m _ below meth c ⟨B.exec, B.bytes, B.returns, hml, findClass_of_methodNamed B.named, fun w hw => atoms_spec (ws := ab_ws y cc nL ret) B.pre w (List.mem_cons_of_mem _ hw), B.notSynchronized, hl, hSF, hHM.2.1⟩ (name_of_methodNamed B.named B.method).1 s.heap [] _ hHM va_S.rf (lv_entry as hlen)
section RowsW
variable {p : Program} {l : Launch} {e : Env} {R : Room} {s : State} {m : MethodId} {args : Array Value} {below : List Frame} {meth : Method} {c : Code} {E : ab_E} {base nL : Nat} {Q : State → Prop}
variable {own : String} {cc : ByteArray} {ret : Option FieldType} {cw : Nat → Option va_E} {k n pc : Nat} {L : List (Nat × Value)} {st : List Value}
theorem w_iconst {v : Int} (C : ab_C p l s m args meth c E base nL own cc ret) (d : decode cc pc = .ok (.iconst v, 1)) (K : aw_W p l e R s m args below meth c E base nL Q cw k n (pc+1) L (ii_v v :: st)) : aw_W p l e R s m args below meth c E base nL Q cw k n pc L st :=
  fun H lo ls h1 h2 h3 => lv_iconst C.1 C.2.1 d rfl (K H lo ls h1 h2 h3)
theorem w_bipush {v : Int} (C : ab_C p l s m args meth c E base nL own cc ret) (d : decode cc pc = .ok (.bipush v, 2)) (hv : (Int8.ofInt v).toInt32 = ii_n v) (K : aw_W p l e R s m args below meth c E base nL Q cw k n (pc+2) L (ii_v v :: st)) : aw_W p l e R s m args below meth c E base nL Q cw k n pc L st :=
  fun H lo ls h1 h2 h3 => lv_bipush C.1 C.2.1 d hv (K H lo ls h1 h2 h3)
theorem w_ldc {v : Int} {i : Nat} (C : ab_C p l s m args meth c E base nL own cc ret) (d : decode cc pc = .ok (.ldc i, 2)) (hk : Cond.constant own i (ii_n v) ∈ ab_all) (K : aw_W p l e R s m args below meth c E base nL Q cw k n (pc+2) L (ii_v v :: st)) : aw_W p l e R s m args below meth c E base nL Q cw k n pc L st :=
  fun H lo ls h1 h2 h3 => lv_ldc C.1 C.2.1 C.2.2.2.2.1 (C.2.2.2.2.2.1 _ hk) d (K H lo ls h1 h2 h3)
theorem w_iload_n {i : Fin 4} {v : Int32} (C : ab_C p l s m args meth c E base nL own cc ret) (d : decode cc pc = .ok (.iload_n i, 1)) (hl : ab_lk L i = some (.int v)) (K : aw_W p l e R s m args below meth c E base nL Q cw k n (pc+1) L (.int v :: st)) : aw_W p l e R s m args below meth c E base nL Q cw k n pc L st :=
  fun H lo ls h1 h2 h3 => lv_iload_n C.1 C.2.1 d rfl (h3.2.2 _ (ab_lk_mem hl)) (K H lo ls h1 h2 h3)
theorem w_iload {i : Nat} {v : Int32} (C : ab_C p l s m args meth c E base nL own cc ret) (d : decode cc pc = .ok (.iload i, 2)) (hl : ab_lk L i = some (.int v)) (K : aw_W p l e R s m args below meth c E base nL Q cw k n (pc+2) L (.int v :: st)) : aw_W p l e R s m args below meth c E base nL Q cw k n pc L st :=
  fun H lo ls h1 h2 h3 => lv_iload C.1 C.2.1 d (h3.2.2 _ (ab_lk_mem hl)) (K H lo ls h1 h2 h3)
theorem w_aload_n {i : Fin 4} {v : Nat} (C : ab_C p l s m args meth c E base nL own cc ret) (d : decode cc pc = .ok (.aload_n i, 1)) (hl : ab_lk L i = some (.ref v)) (K : aw_W p l e R s m args below meth c E base nL Q cw k n (pc+1) L (.ref v :: st)) : aw_W p l e R s m args below meth c E base nL Q cw k n pc L st :=
  fun H lo ls h1 h2 h3 => lv_aload_n C.1 C.2.1 d rfl (h3.2.2 _ (ab_lk_mem hl)) (K H lo ls h1 h2 h3)
theorem w_aload {i : Nat} {v : Nat} (C : ab_C p l s m args meth c E base nL own cc ret) (d : decode cc pc = .ok (.aload i, 2)) (hl : ab_lk L i = some (.ref v)) (K : aw_W p l e R s m args below meth c E base nL Q cw k n (pc+2) L (.ref v :: st)) : aw_W p l e R s m args below meth c E base nL Q cw k n pc L st :=
  fun H lo ls h1 h2 h3 => lv_aload C.1 C.2.1 d (h3.2.2 _ (ab_lk_mem hl)) (K H lo ls h1 h2 h3)
theorem w_istore_n {i : Fin 4} {v : Int32} (C : ab_C p l s m args meth c E base nL own cc ret) (d : decode cc pc = .ok (.istore_n i, 1)) (hn : (i : Nat) < nL) {L' : List (Nat × Value)} (hL : ab_sl L i (.int v) = L') (K : aw_W p l e R s m args below meth c E base nL Q cw k n (pc+1) L' st) : aw_W p l e R s m args below meth c E base nL Q cw k n pc L (.int v :: st) :=
  fun H lo ls h1 h2 h3 => lv_istore_n C.1 C.2.1 d rfl h3 hn rfl (fun ls' h => K H lo ls' h1 h2 (hL ▸ ab_sl_has h))
theorem w_istore {i : Nat} {v : Int32} (C : ab_C p l s m args meth c E base nL own cc ret) (d : decode cc pc = .ok (.istore i, 2)) (hn : i < nL) {L' : List (Nat × Value)} (hL : ab_sl L i (.int v) = L') (K : aw_W p l e R s m args below meth c E base nL Q cw k n (pc+2) L' st) : aw_W p l e R s m args below meth c E base nL Q cw k n pc L (.int v :: st) :=
  fun H lo ls h1 h2 h3 => lv_istore C.1 C.2.1 d h3 hn rfl (fun ls' h => K H lo ls' h1 h2 (hL ▸ ab_sl_has h))
theorem w_astore_n {i : Fin 4} {v : Nat} (C : ab_C p l s m args meth c E base nL own cc ret) (d : decode cc pc = .ok (.astore_n i, 1)) (hn : (i : Nat) < nL) {L' : List (Nat × Value)} (hL : ab_sl L i (.ref v) = L') (K : aw_W p l e R s m args below meth c E base nL Q cw k n (pc+1) L' st) : aw_W p l e R s m args below meth c E base nL Q cw k n pc L (.ref v :: st) :=
  fun H lo ls h1 h2 h3 => lv_astore_n C.1 C.2.1 d rfl h3 hn rfl (fun ls' h => K H lo ls' h1 h2 (hL ▸ ab_sl_has h))
theorem w_astore {i : Nat} {v : Nat} (C : ab_C p l s m args meth c E base nL own cc ret) (d : decode cc pc = .ok (.astore i, 2)) (hn : i < nL) {L' : List (Nat × Value)} (hL : ab_sl L i (.ref v) = L') (K : aw_W p l e R s m args below meth c E base nL Q cw k n (pc+2) L' st) : aw_W p l e R s m args below meth c E base nL Q cw k n pc L (.ref v :: st) :=
  fun H lo ls h1 h2 h3 => lv_astore C.1 C.2.1 d h3 hn rfl (fun ls' h => K H lo ls' h1 h2 (hL ▸ ab_sl_has h))
theorem w_iadd {a b : Int} (C : ab_C p l s m args meth c E base nL own cc ret) (d : decode cc pc = .ok (.iadd, 1)) (K : aw_W p l e R s m args below meth c E base nL Q cw k n (pc+1) L (ii_v (a + b) :: st)) : aw_W p l e R s m args below meth c E base nL Q cw k n pc L (ii_v b :: ii_v a :: st) :=
  fun H lo ls h1 h2 h3 => lv_iadd C.1 C.2.1 d (by rw [ii_add]; exact K H lo ls h1 h2 h3)
theorem w_isub {a b : Int} (C : ab_C p l s m args meth c E base nL own cc ret) (d : decode cc pc = .ok (.isub, 1)) (K : aw_W p l e R s m args below meth c E base nL Q cw k n (pc+1) L (ii_v (a - b) :: st)) : aw_W p l e R s m args below meth c E base nL Q cw k n pc L (ii_v b :: ii_v a :: st) :=
  fun H lo ls h1 h2 h3 => lv_isub C.1 C.2.1 d (by rw [ii_sub]; exact K H lo ls h1 h2 h3)
theorem w_ishr {v w : Int32} {b : Int} (C : ab_C p l s m args meth c E base nL own cc ret) (d : decode cc pc = .ok (.ishr, 1)) (hv : v >>> (w &&& 31) = ii_n b) (K : aw_W p l e R s m args below meth c E base nL Q cw k n (pc+1) L (ii_v b :: st)) : aw_W p l e R s m args below meth c E base nL Q cw k n pc L (.int w :: .int v :: st) :=
  fun H lo ls h1 h2 h3 => lv_ishr C.1 C.2.1 d (by rw [hv]; exact K H lo ls h1 h2 h3)
theorem w_pop {v : Value} (C : ab_C p l s m args meth c E base nL own cc ret) (d : decode cc pc = .ok (.pop, 1)) (hv : v.category = 1) (K : aw_W p l e R s m args below meth c E base nL Q cw k n (pc+1) L st) : aw_W p l e R s m args below meth c E base nL Q cw k n pc L (v :: st) :=
  fun H lo ls h1 h2 h3 => lv_pop C.1 C.2.1 d hv (K H lo ls h1 h2 h3)
theorem w_dup {v : Value} (C : ab_C p l s m args meth c E base nL own cc ret) (d : decode cc pc = .ok (.dup, 1)) (hv : v.category = 1) (K : aw_W p l e R s m args below meth c E base nL Q cw k n (pc+1) L (v :: v :: st)) : aw_W p l e R s m args below meth c E base nL Q cw k n pc L (v :: st) :=
  fun H lo ls h1 h2 h3 => lv_dup C.1 C.2.1 d hv (K H lo ls h1 h2 h3)
theorem w_goto {o : Int} {tgt : Nat} (C : ab_C p l s m args meth c E base nL own cc ret) (d : decode cc pc = .ok (.goto o, 3)) (ht : (pc : Int) + o = (tgt : Int)) (K : aw_W p l e R s m args below meth c E base nL Q cw k n tgt L st) : aw_W p l e R s m args below meth c E base nL Q cw k n pc L st :=
  fun H lo ls h1 h2 h3 => lv_goto C.1 C.2.1 d ht (K H lo ls h1 h2 h3)
theorem w_icmp_ne {a b : Int} {o : Int} {tgt : Nat} (C : ab_C p l s m args meth c E base nL own cc ret) (d : decode cc pc = .ok (.if_icmp .ne o, 3)) (ht : (pc : Int) + o = (tgt : Int)) (ha : ii_B a) (hb : ii_B b) (Kt : ¬ a = b → aw_W p l e R s m args below meth c E base nL Q cw k n tgt L st) (Kf : a = b → aw_W p l e R s m args below meth c E base nL Q cw k n (pc+3) L st) : aw_W p l e R s m args below meth c E base nL Q cw k n pc L (ii_v b :: ii_v a :: st) :=
  fun H lo ls h1 h2 h3 => lv_icmp_ne C.1 C.2.1 d ht (fun q => Kt (fun h => q ((ii_eq ha hb).mpr h)) H lo ls h1 h2 h3) (fun q => Kf ((ii_eq ha hb).mp q) H lo ls h1 h2 h3)
theorem w_icmp_ge {a b : Int} {o : Int} {tgt : Nat} (C : ab_C p l s m args meth c E base nL own cc ret) (d : decode cc pc = .ok (.if_icmp .ge o, 3)) (ht : (pc : Int) + o = (tgt : Int)) (ha : ii_B a) (hb : ii_B b) (Kt : b ≤ a → aw_W p l e R s m args below meth c E base nL Q cw k n tgt L st) (Kf : ¬ b ≤ a → aw_W p l e R s m args below meth c E base nL Q cw k n (pc+3) L st) : aw_W p l e R s m args below meth c E base nL Q cw k n pc L (ii_v b :: ii_v a :: st) :=
  fun H lo ls h1 h2 h3 => lv_icmp_ge C.1 C.2.1 d ht (fun q => Kt ((ii_le hb ha).mp q) H lo ls h1 h2 h3) (fun q => Kf (fun h => q ((ii_le hb ha).mpr h)) H lo ls h1 h2 h3)
theorem w_icmp_gt {a b : Int} {o : Int} {tgt : Nat} (C : ab_C p l s m args meth c E base nL own cc ret) (d : decode cc pc = .ok (.if_icmp .gt o, 3)) (ht : (pc : Int) + o = (tgt : Int)) (ha : ii_B a) (hb : ii_B b) (Kt : b < a → aw_W p l e R s m args below meth c E base nL Q cw k n tgt L st) (Kf : ¬ b < a → aw_W p l e R s m args below meth c E base nL Q cw k n (pc+3) L st) : aw_W p l e R s m args below meth c E base nL Q cw k n pc L (ii_v b :: ii_v a :: st) :=
  fun H lo ls h1 h2 h3 => lv_icmp_gt C.1 C.2.1 d ht (fun q => Kt ((ii_lt hb ha).mp q) H lo ls h1 h2 h3) (fun q => Kf (fun h => q ((ii_lt hb ha).mpr h)) H lo ls h1 h2 h3)
theorem w_if_gt {a : Int} {o : Int} {tgt : Nat} (C : ab_C p l s m args meth c E base nL own cc ret) (d : decode cc pc = .ok (.ifCond .gt o, 3)) (ht : (pc : Int) + o = (tgt : Int)) (ha : ii_B a) (Kt : 0 < a → aw_W p l e R s m args below meth c E base nL Q cw k n tgt L st) (Kf : ¬ 0 < a → aw_W p l e R s m args below meth c E base nL Q cw k n (pc+3) L st) : aw_W p l e R s m args below meth c E base nL Q cw k n pc L (ii_v a :: st) :=
  fun H lo ls h1 h2 h3 => lv_if_gt C.1 C.2.1 d ht (fun q => Kt ((ii_lt ii_B0 ha).mp q) H lo ls h1 h2 h3) (fun q => Kf (fun h => q ((ii_lt ii_B0 ha).mpr h)) H lo ls h1 h2 h3)
theorem w_top {v w : Value} (h : v = w) (K : aw_W p l e R s m args below meth c E base nL Q cw k n pc L (w :: st)) : aw_W p l e R s m args below meth c E base nL Q cw k n pc L (v :: st) := h ▸ K
theorem w_pick (ks : List Nat) {L2 : List (Nat × Value)} (h : lv_pick L ks = L2) (K : aw_W p l e R s m args below meth c E base nL Q cw k n pc L2 st) : aw_W p l e R s m args below meth c E base nL Q cw k n pc L st :=
  fun H lo ls h1 h2 h3 => K H lo ls h1 h2 (lv_sub h3 ks h)
theorem w_vd (K : aw_W p l e R s m args below meth c E base nL Q cw k n pc L st) : aw_W p l e R s m args below meth c E base nL Q cw k n pc L ((none : Option Value).toList ++ st) := K
theorem w_vs {v : Value} (K : aw_W p l e R s m args below meth c E base nL Q cw k n pc L (v :: st)) : aw_W p l e R s m args below meth c E base nL Q cw k n pc L ((some v).toList ++ st) := K
theorem w_dup_x1 {va vb : Value} (C : ab_C p l s m args meth c E base nL own cc ret) (d : decode cc pc = .ok (.dup_x1, 1)) (hva : va.category = 1) (hvb : vb.category = 1) (K : aw_W p l e R s m args below meth c E base nL Q cw k n (pc+1) L (va :: vb :: va :: st)) : aw_W p l e R s m args below meth c E base nL Q cw k n pc L (va :: vb :: st) :=
  fun H lo ls h1 h2 h3 => lv_dup_x1 C.1 C.2.1 d hva hvb (K H lo ls h1 h2 h3)
theorem w_acmp_eq {x y : Nat} {o : Int} {tgt : Nat} (C : ab_C p l s m args meth c E base nL own cc ret) (d : decode cc pc = .ok (.if_acmp .eq o, 3)) (ht : (pc : Int) + o = (tgt : Int)) (Kt : x = y → aw_W p l e R s m args below meth c E base nL Q cw k n tgt L st) (Kf : x ≠ y → aw_W p l e R s m args below meth c E base nL Q cw k n (pc+3) L st) : aw_W p l e R s m args below meth c E base nL Q cw k n pc L (.ref y :: .ref x :: st) :=
  fun H lo ls h1 h2 h3 => lv_acmp_eq (rx := some x) (ry := some y) C.1 C.2.1 d ht (fun q => Kt (by first | exact Option.some.inj q | (cases q; rfl)) H lo ls h1 h2 h3) (fun q => Kf (fun z => q (by rw [z])) H lo ls h1 h2 h3)
theorem w_acmp_ne {x y : Nat} {o : Int} {tgt : Nat} (C : ab_C p l s m args meth c E base nL own cc ret) (d : decode cc pc = .ok (.if_acmp .ne o, 3)) (ht : (pc : Int) + o = (tgt : Int)) (Kt : x ≠ y → aw_W p l e R s m args below meth c E base nL Q cw k n tgt L st) (Kf : x = y → aw_W p l e R s m args below meth c E base nL Q cw k n (pc+3) L st) : aw_W p l e R s m args below meth c E base nL Q cw k n pc L (.ref y :: .ref x :: st) :=
  fun H lo ls h1 h2 h3 => lv_acmp_ne (rx := some x) (ry := some y) C.1 C.2.1 d ht (fun q => Kt (fun z => q (by rw [z])) H lo ls h1 h2 h3) (fun q => Kf (by first | exact Option.some.inj q | (cases q; rfl)) H lo ls h1 h2 h3)
/-- Object's constructor -/
theorem w_oinit {a index d0 mc0 ms0 : Nat} (C : ab_C p l s m args meth c E base nL own cc ret) (hl : Cond.methodLink own index Lib.objectInit ∈ ab_all) (d : decode cc pc = .ok (.invokespecial index, 3)) (hd : 1 ≤ d0) (hcat : (st.map fun v => v.category).sum ≤ 8) (K : aw_W p l e (ab_rm d0 mc0 ms0) s m args below meth c E base nL Q cw k n (pc + 3) L st) : aw_W p l e (ab_rm d0 mc0 ms0) s m args below meth c E base nL Q cw k n pc L (.ref a :: st) :=
  fun H lo ls h1 h2 h3 => W.objInit C.1 C.2.1 C.2.2.2.2.1 (C.2.2.2.2.2.1 _ hl) (C.2.2.2.2.2.1 _ (List.mem_filter.mpr ⟨List.mem_of_getElem? (i := 123) (by decide +kernel), rfl⟩)) (C.2.2.2.2.2.1 _ (List.mem_filter.mpr ⟨List.mem_of_getElem? (i := 124) (by decide +kernel), rfl⟩)) rfl (h3.1.trans C.2.2.2.1.symm) rfl d hd (by show 2 * 0 + _ + 12 ≤ 60 * d0 + 100; omega) (K H lo ls h1 h2 h3)
theorem aw_cell {C' : String} {T : u_T} {N ci a : Nat} {fs : List Value} {H : Heap} (hc : vwCl[ci]? = some (C', T, N)) (ho : cw a = some (.inr (ci, fs))) (h1 : aw_HM E base cw s H) : base ≤ a ∧ ∃ cell : Cell, H[a]? = some cell ∧ cell.cls = E.1.1 ci ∧ cell.vm = .none ∧ ∀ k, k < N → cell.slots[E.1.2 ci k]? = some (vp_V fs k) := by
  obtain ⟨⟨r, hr1, cell, q⟩, hb⟩ := h1.2.2 a _ ho
  have hr : r = (C', T, N) := Option.some.inj (hr1.symm.trans hc)
  subst hr
  exact ⟨hb, cell, q⟩
theorem w_get {ref C' : String} {T : u_T} {N ci i a index : Nat} {fs : List Value} {v : Value} (C : ab_C p l s m args meth c E base nL own cc ret) (hw : ∀ w ∈ u_ws C' T N, w ∈ ab_all) (hc : vwCl[ci]? = some (C', T, N)) (hi : i < N) (hT : (T i).1 = ref ∨ Cond.sameField ref (T i).1 (T i).2.1 (T i).2.2.1 ∈ ab_all)
    (hl : Cond.fieldLink own index ref (T i).2.1 (T i).2.2.1 ∈ ab_all) (ho : cw a = some (.inr (ci, fs))) (hv : fs[i]? = some v) (d : decode cc pc = .ok (.getfield index, 3)) (K : aw_W p l e R s m args below meth c E base nL Q cw k n (pc+3) L (v :: st)) : aw_W p l e R s m args below meth c E base nL Q cw k n pc L (.ref a :: st) := by
  intro H lo ls h1 h2 h3
  obtain ⟨-, cell, q1, q2, q3, q4⟩ := aw_cell hc ho h1
  obtain ⟨hS, hfc, kC, hkC, hkind⟩ := h1.1.1 ci _ hc
  obtain ⟨cf, kf, fi, f, hf, hsl⟩ := hS i hi
  have hsame : s.fieldFound? ref (T i).2.1 (T i).2.2.1 = some (cf, kf, fi, f) := by
    rcases hT with q | q
    · rw [← q]; exact hf
    · exact u_same (C.2.2.2.2.2.1 _ q) _ hf
  refine W.getf C.1 C.2.1 C.2.2.2.2.1 (C.2.2.2.2.2.1 _ hl) hsame (u_facts hfc hkC (u_lays C.2.2.2.2.2.1 hw hi) hf).1 q1 (by rw [q3]; exact fun h => by cases h) (v := v) ?_ rfl rfl d (K H lo ls h1 h2 h3)
  rw [hsl, q4 i hi]
  simp [vp_V, hv]
theorem w_put {ref C' : String} {T : u_T} {N ci i a index : Nat} {fs : List Value} {v : Value} {ty : FieldType} (C : ab_C p l s m args meth c E base nL own cc ret) (hw : ∀ w ∈ u_ws C' T N, w ∈ ab_all) (hc : vwCl[ci]? = some (C', T, N)) (hi : i < N) (hT : (T i).1 = ref ∨ Cond.sameField ref (T i).1 (T i).2.1 (T i).2.2.1 ∈ ab_all)
    (t0 : Nat → FieldType) (hty : ∀ j, j < N → parseFieldDescriptor (T j).2.2.1 = some (t0 j)) (hnm : ∀ a, a < N → ∀ b, b < N → a ≠ b → (T a).2.1 ≠ (T b).2.1) (hfin : (T i).2.2.2 = false) (hd : t0 i = ty)
    (hl : Cond.fieldLink own index ref (T i).2.1 (T i).2.2.1 ∈ ab_all) (ho : cw a = some (.inr (ci, fs))) (hlen : i < fs.length) (hn : narrow ty v = v) (hfit : fits ty v = true) (d : decode cc pc = .ok (.putfield index, 3)) (K : aw_W p l e R s m args below meth c E base nL Q (aw_up cw a (.inr (ci, fs.set i v))) k n (pc+3) L st) : aw_W p l e R s m args below meth c E base nL Q cw k n pc L (v :: .ref a :: st) := by
  intro H lo ls h1 h2 h3
  have hts := C.2.2.2.2.2.1
  have hap := va_apart (own := own) hts hw t0 hty hnm h1.1 hc
  obtain ⟨hb, cell, q1, q2, q3, q4⟩ := aw_cell hc ho h1
  obtain ⟨hS, hfc, kC, hkC, hkind⟩ := h1.1.1 ci _ hc
  obtain ⟨cf, kf, fi, f, hf, hsl⟩ := hS i hi
  have hsame : s.fieldFound? ref (T i).2.1 (T i).2.2.1 = some (cf, kf, fi, f) := by
    rcases hT with q | q
    · rw [← q]; exact hf
    · exact u_same (hts _ q) _ hf
  have hlay := hts _ (hw _ (u_in_lay hi))
  unfold u_lay at hlay
  rw [if_neg (by rw [hfin]; decide)] at hlay
  have hst := (u_facts hfc hkC (u_lays hts hw hi) hf).1
  have h6 := u_store hfc hkC hkind hlay hf ((hty i hi).trans (congrArg some hd)) hn hfit
  refine W.putK C.1 C.2.1 (f := f) ⟨C.2.2.2.2.1, hts _ hl, ⟨_, _, _, hsame⟩, hst⟩ (by rw [q2]; exact h6) q1 q3 (by rw [hsl]; exact k2_hasslot (q4 i hi)) rfl rfl d fun H1 e1 e2 e3 => K H1 _ ls ?_ (h2.put e2 e3 hb) h3
  rw [hsl] at e1
  exact aw_HM_set h1 hb ⟨_, hc, t_OB.to (V := updV (vp_V fs) i v) ⟨_, e1, q2, q3, t_set q4 hap hi v⟩ (fun j _ => vp_updV_set hlen v j)⟩ e2 e3
theorem w_putF {C' : String} {T : u_T} {N ci i a index : Nat} {fs : List Value} {v : Value} {ty : FieldType} (C : ab_C p l s m args meth c E base nL own cc ret) (hw : ∀ w ∈ u_ws C' T N, w ∈ ab_all) (hc : vwCl[ci]? = some (C', T, N)) (hi : i < N) (hT : (T i).1 = own)
    (t0 : Nat → FieldType) (hty : ∀ j, j < N → parseFieldDescriptor (T j).2.2.1 = some (t0 j)) (hnm : ∀ a, a < N → ∀ b, b < N → a ≠ b → (T a).2.1 ≠ (T b).2.1) (hfin : (T i).2.2.2 = true) (hin : meth.name = "<init>") (hd : t0 i = ty)
    (hl : Cond.fieldLink own index (T i).1 (T i).2.1 (T i).2.2.1 ∈ ab_all) (ho : cw a = some (.inr (ci, fs))) (hlen : i < fs.length) (hn : narrow ty v = v) (hfit : fits ty v = true) (d : decode cc pc = .ok (.putfield index, 3)) (K : aw_W p l e R s m args below meth c E base nL Q (aw_up cw a (.inr (ci, fs.set i v))) k n (pc+3) L st) : aw_W p l e R s m args below meth c E base nL Q cw k n pc L (v :: .ref a :: st) := by
  intro H lo ls h1 h2 h3
  have hts := C.2.2.2.2.2.1
  have hap := va_apart (own := own) hts hw t0 hty hnm h1.1 hc
  obtain ⟨hb, cell, q1, q2, q3, q4⟩ := aw_cell hc ho h1
  obtain ⟨hS, hfc, kC, hkC, hkind⟩ := h1.1.1 ci _ hc
  obtain ⟨cf, kf, fi, f, hf, hsl⟩ := hS i hi
  have hlay := hts _ (hw _ (u_in_lay hi))
  unfold u_lay at hlay
  rw [if_pos hfin] at hlay
  have hst := (u_facts hfc hkC (u_lays hts hw hi) hf).1
  have hcf : m.cls = cf := by
    obtain ⟨_, _, c', _, _, _, -, -, hf', -, -, -, hown2, -⟩ := Cond.laysFinal_spec hlay
    have e1 : c' = cf := by have := hf.symm.trans hf'; simp at this; exact this.1.symm
    rw [hT] at hown2
    rw [← e1]
    exact Option.some.inj (C.2.2.2.2.1.symm.trans hown2)
  have h6 := u_fits hfc hkC hkind (Or.inr hlay) hf ((hty i hi).trans (congrArg some hd)) hn hfit
  refine W.putFinK C.1 C.2.1 C.2.2.2.2.1 (hts _ hl) hf hst hcf hin (by rw [q2]; exact h6) q1 q3 (by rw [hsl]; exact k2_hasslot (q4 i hi)) rfl rfl d fun H1 e1 e2 e3 => K H1 _ ls ?_ (h2.put e2 e3 hb) h3
  rw [hsl] at e1
  exact aw_HM_set h1 hb ⟨_, hc, t_OB.to (V := updV (vp_V fs) i v) ⟨_, e1, q2, q3, t_set q4 hap hi v⟩ (fun j _ => vp_updV_set hlen v j)⟩ e2 e3
theorem aw_S {H H1 : Heap} {lo : List Loc} (h2 : va_S (ab_A base) s.heap H lo) (z1 : H1.size = H.size + 1) (o1 : ∀ q, q < H.size → H1[q]? = H[q]?) : va_S (ab_A base) s.heap H1 lo :=
  ⟨Nat.le_trans h2.1 (by omega), fun x h3 h4 => (o1 x (Nat.lt_of_lt_of_le h3 h2.1)).trans (h2.2.1 x h3 h4), h2.2.2⟩
theorem w_new {C' : String} {T : u_T} {N ci index d0 mc0 ms0 : Nat} {fs : List Value} (C : ab_C p l s m args meth c E base nL own cc ret) (hw : ∀ w ∈ u_ws C' T N, w ∈ ab_all) (hc : vwCl[ci]? = some (C', T, N)) (t0 : Nat → FieldType) (hty : ∀ j, j < N → parseFieldDescriptor (T j).2.2.1 = some (t0 j)) (hl : Cond.classLink own index C' ∈ ab_all) (hit : Cond.instantiable C' N ∈ ab_all) (hin : Cond.initialized C' ∈ ab_all) (hfs : ∀ j, j < N → defaultValue (t0 j) = vp_V fs j) (hr : k + 1 ≤ mc0 ∧ n + N ≤ ms0) (d : decode cc pc = .ok (.new index, 3))
    (K : ∀ q : Nat, aw_top cw q → aw_W p l e (ab_rm d0 mc0 ms0) s m args below meth c E base nL Q (aw_up cw q (.inr (ci, fs))) (k + 1) (n + N) (pc + 3) L (.ref q :: st)) : aw_W p l e (ab_rm d0 mc0 ms0) s m args below meth c E base nL Q cw k n pc L st := by
  intro H lo ls h1 h2 h3
  have hts := C.2.2.2.2.2.1
  have hKn := h1.1.1 ci _ hc
  refine W.newcK C.1 C.2.1 C.2.2.2.2.1 (hts _ hl) (hts _ hit) (hts _ hin) rfl d hr.1 hr.2 hKn.2.1 rfl fun H1 kC hkC e1 z1 o1 => ?_
  exact K H.size (aw_HM_fresh h1) H1 lo ls (aw_HM_new h1 ⟨_, hc, (u_born t0 hts hw hKn hkC e1 hty).to hfs⟩ z1 o1) (aw_S h2 z1 o1) h3
theorem w_newa {atype : ArrayType} {t N d0 mc0 ms0 : Nat} {x : Int} {a0 : vp_A} (C : ab_C p l s m args meth c E base nL own cc ret) (harr : Cond.arrayClass (newarray.typeOf atype) ∈ ab_all) (ht : ∀ (U : State) (cA : ClassId), va_K E.1 vwCl (ab_tys E) U → U.vm.findClass ("[" ++ (newarray.typeOf atype).toString) = some cA → cA = E.2.1 t) (ha : ∀ cA : ClassId, vp_cell cA a0 = arrV cA N (fun _ => defaultValue (newarray.typeOf atype))) (hx : x = (N : Int)) (hN : N < 1000) (hb : N * componentBytes (newarray.typeOf atype) ≤ 536870912) (hr : k + 1 ≤ mc0 ∧ n + N ≤ ms0) (d : decode cc pc = .ok (.newarray atype, 2))
    (K : ∀ q : Nat, aw_top cw q → aw_W p l e (ab_rm d0 mc0 ms0) s m args below meth c E base nL Q (aw_up cw q (.inl (E.2.1 t, a0))) (k + 1) (n + N) (pc + 2) L (.ref q :: st)) : aw_W p l e (ab_rm d0 mc0 ms0) s m args below meth c E base nL Q cw k n pc L (ii_v x :: st) := by
  intro H lo ls h1 h2 h3
  subst hx
  have hB0 : ii_B (N : Int) := ⟨by omega, by omega⟩
  refine va_newaK (N := N) C.1 C.2.1 (C.2.2.2.2.2.1 _ harr) rfl d rfl (fun q => absurd ((ii_lt hB0 ii_B0).mp q) (by omega)) (ii_clampN (by omega)) hb hr.1 hr.2 rfl fun H1 cA e1 z1 o1 hAr hNm => ?_
  have hcA := ht s cA h1.1 hNm
  subst hcA
  exact K H.size (aw_HM_fresh h1) H1 lo ls (aw_HM_new h1 (show H1[H.size]? = some (vp_cell _ _) by rw [ha]; exact e1) z1 o1) (aw_S h2 z1 o1) h3
theorem ty_int {U : State} {cA : ClassId} (hK : va_K E.1 vwCl (ab_tys E) U) (h : U.vm.findClass ("[" ++ (FieldType.int).toString) = some cA) : cA = E.2.1 0 := Option.some.inj (h.symm.trans (hK.2 0 _ rfl).2)
theorem ty_char {U : State} {cA : ClassId} (hK : va_K E.1 vwCl (ab_tys E) U) (h : U.vm.findClass ("[" ++ (FieldType.char).toString) = some cA) : cA = E.2.1 1 := Option.some.inj (h.symm.trans (hK.2 1 _ rfl).2)
theorem ty_obj {U : State} {cA : ClassId} (hK : va_K E.1 vwCl (ab_tys E) U) (h : U.vm.findClass ("[" ++ (FieldType.object "java/lang/Object").toString) = some cA) : cA = E.2.1 2 := by
  obtain ⟨kA, comp, -, -, -, h4⟩ := (hK.2 2 _ rfl).2
  exact Option.some.inj (h.symm.trans h4)
theorem ty_long {U : State} {cA : ClassId} (hK : va_K E.1 vwCl (ab_tys E) U) (h : U.vm.findClass ("[" ++ (FieldType.long).toString) = some cA) : cA = E.2.1 3 := Option.some.inj (h.symm.trans (hK.2 3 _ rfl).2)
theorem ty_double {U : State} {cA : ClassId} (hK : va_K E.1 vwCl (ab_tys E) U) (h : U.vm.findClass ("[" ++ (FieldType.double).toString) = some cA) : cA = E.2.1 4 := Option.some.inj (h.symm.trans (hK.2 4 _ rfl).2)
/-- an array of ints -/
abbrev aw_ia (E : ab_E) (N : Nat) : va_E := .inl (E.2.1 0, N, .inl (fun _ => ii_n 0))
abbrev aw_ca (E : ab_E) (N : Nat) : va_E := .inl (E.2.1 1, N, .inl (fun _ => ii_n 0))
theorem w_newi {N d0 mc0 ms0 : Nat} {x : Int} (C : ab_C p l s m args meth c E base nL own cc ret) (hx : x = (N : Int)) (hN : N < 1000) (hr : k + 1 ≤ mc0 ∧ n + N ≤ ms0) (d : decode cc pc = .ok (.newarray .int, 2))
    (K : ∀ q : Nat, aw_top cw q → aw_W p l e (ab_rm d0 mc0 ms0) s m args below meth c E base nL Q (aw_up cw q (aw_ia E N)) (k + 1) (n + N) (pc + 2) L (.ref q :: st)) : aw_W p l e (ab_rm d0 mc0 ms0) s m args below meth c E base nL Q cw k n pc L (ii_v x :: st) :=
  w_newa (atype := .int) (t := 0) (a0 := (N, .inl (fun _ => ii_n 0))) C ac_int (fun U cA hK h => ty_int hK h) (fun cA => rfl) hx hN (by show N * 4 ≤ _; omega) hr d K
theorem w_newc {N d0 mc0 ms0 : Nat} {x : Int} (C : ab_C p l s m args meth c E base nL own cc ret) (hx : x = (N : Int)) (hN : N < 1000) (hr : k + 1 ≤ mc0 ∧ n + N ≤ ms0) (d : decode cc pc = .ok (.newarray .char, 2))
    (K : ∀ q : Nat, aw_top cw q → aw_W p l e (ab_rm d0 mc0 ms0) s m args below meth c E base nL Q (aw_up cw q (aw_ca E N)) (k + 1) (n + N) (pc + 2) L (.ref q :: st)) : aw_W p l e (ab_rm d0 mc0 ms0) s m args below meth c E base nL Q cw k n pc L (ii_v x :: st) :=
  w_newa (atype := .char) (t := 1) (a0 := (N, .inl (fun _ => ii_n 0))) C ac_char (fun U cA hK h => ty_char hK h) (fun cA => rfl) hx hN (by show N * 2 ≤ _; omega) hr d K
/-- an array of references -/
abbrev aw_ra (E : ab_E) (N : Nat) (f : Nat → Option Nat) : va_E := .inl (E.2.1 2, N, .inr (.inr (.inr (.inr f))))
theorem w_anew {N index d0 mc0 ms0 : Nat} {x : Int} (C : ab_C p l s m args meth c E base nL own cc ret) (hl : Cond.classLink own index "java/lang/Object" ∈ ab_all) (hx : x = (N : Int)) (hN : N < 1000) (hr : k + 1 ≤ mc0 ∧ n + N ≤ ms0) (d : decode cc pc = .ok (.anewarray index, 3))
    (K : ∀ q : Nat, aw_top cw q → aw_W p l e (ab_rm d0 mc0 ms0) s m args below meth c E base nL Q (aw_up cw q (aw_ra E N (fun _ => none))) (k + 1) (n + N) (pc + 3) L (.ref q :: st)) : aw_W p l e (ab_rm d0 mc0 ms0) s m args below meth c E base nL Q cw k n pc L (ii_v x :: st) := by
  intro H lo ls h1 h2 h3
  subst hx
  have hB0 : ii_B (N : Int) := ⟨by omega, by omega⟩
  have hcl := ii_clampN (k := N) (by omega)
  refine W.anew C.1 C.2.1 C.2.2.2.2.1 (C.2.2.2.2.2.1 _ hl) (va_AO.use C.2.2.2.2.2.2.2.2.1.2.2.2.1.2.2) rfl d rfl (fun q => absurd ((ii_lt hB0 ii_B0).mp q) (by omega)) (by rw [hcl]; omega) hr.1 (by rw [hcl]; exact hr.2) fun cA kA comp f1 f2 f3 f4 => ?_
  rw [hcl]
  have hcA := ty_obj h1.1 f1
  subst hcA
  generalize hH1 : H.push ({ cls := E.2.1 2, slots := Array.replicate N .null, vm := .none } : Cell) = H1
  have z1 : H1.size = H.size + 1 := by rw [← hH1, Array.size_push]
  have e1 : H1[H.size]? = some (arrV (E.2.1 2) N (fun _ => .null)) := by rw [← hH1, Array.getElem?_push_size, ← arrV_new]
  have o1 : ∀ q : Nat, q < H.size → H1[q]? = H[q]? := fun q hq => by rw [← hH1, Array.getElem?_push, if_neg (Nat.ne_of_lt hq)]
  exact K H.size (aw_HM_fresh h1) H1 lo ls (aw_HM_new h1 (show H1[H.size]? = some (vp_cell _ _) from e1) z1 o1) (aw_S h2 z1 o1) h3
theorem w_alen {a N : Nat} {f : Nat → Option Nat} (C : ab_C p l s m args meth c E base nL own cc ret) (ho : cw a = some (aw_ra E N f)) (d : decode cc pc = .ok (.arraylength, 1)) (K : aw_W p l e R s m args below meth c E base nL Q cw k n (pc+1) L (ii_v N :: st)) : aw_W p l e R s m args below meth c E base nL Q cw k n pc L (.ref a :: st) := by
  intro H lo ls h1 h2 h3
  refine W.alen (n := ii_n N) C.1 C.2.1 (show H[a]? = some (arrV (E.2.1 2) N (fun j => va_rf (f j))) from (h1.2.2 a _ ho).1) ((h1.1.2 2 _ rfl).1 N (fun j => va_rf (f j))) ?_ rfl rfl d (K H lo ls h1 h2 h3)
  rw [arrV_size]
  exact ii_nI N
/-- the empty array that all lists share -/
theorem w_elen (C : ab_C p l s m args meth c E base nL own cc ret) (d : decode cc pc = .ok (.arraylength, 1)) (K : aw_W p l e R s m args below meth c E base nL Q cw k n (pc+1) L (ii_v 0 :: st)) : aw_W p l e R s m args below meth c E base nL Q cw k n pc L (.ref E.2.2 :: st) := by
  intro H lo ls h1 h2 h3
  obtain ⟨cell, g1, g2, g3, g4, g5, g6, g7⟩ := C.2.2.2.2.2.2.2.2.1.2.2.2.1.1
  exact W.alen (n := ii_n 0) C.1 C.2.1 (by rw [h2.2.1 _ (Array.getElem?_eq_some_iff.mp g1).1 g7]; exact g1) g2 g5 rfl rfl d (K H lo ls h1 h2 h3)
theorem aw_E {a : Nat} {e0 : va_E} (C : ab_C p l s m args meth c E base nL own cc ret) {H : Heap} (h1 : aw_HM E base cw s H) (ho : cw a = some e0) : a ≠ E.2.2 := by
  obtain ⟨cell, g1, g2, g3, g4, g5, g6, g7⟩ := C.2.2.2.2.2.2.2.2.1.2.2.2.1.1
  exact fun z => g7 (show base ≤ E.2.2 by rw [← z]; exact (h1.2.2 a _ ho).2)
theorem w_eget {index : Nat} (C : ab_C p l s m args meth c E base nL own cc ret) (hl : Cond.fieldLink own index RJx4a65c "DEFAULTCAPACITY_EMPTY_ELEMENTDATA" "[Ljava/lang/Object;" ∈ ab_all) (d : decode cc pc = .ok (.getstatic index, 3)) (K : aw_W p l e R s m args below meth c E base nL Q cw k n (pc+3) L (.ref E.2.2 :: st)) : aw_W p l e R s m args below meth c E base nL Q cw k n pc L st :=
  fun H lo ls h1 h2 h3 => va_gets C.1 C.2.1 C.2.2.2.2.2.2.2.2.1.2.2.1 h2 C.2.2.2.2.1 (C.2.2.2.2.2.1 _ hl) (fun _ q => q) d (K H lo ls h1 h2 h3)
/-- a reference is put into an array of references -/
theorem w_aast {a N v j ci : Nat} {x : Int} {f : Nat → Option Nat} {fs : List Value} {r : vw_C} (C : ab_C p l s m args meth c E base nL own cc ret) (ho : cw a = some (aw_ra E N f)) (hv : cw v = some (.inr (ci, fs))) (hc : vwCl[ci]? = some r) (hca : Cond.castable r.1 "java/lang/Object" ∈ ab_nest) (hx : x = (j : Int)) (hj : j < N) (hN : N < 1000) (d : decode cc pc = .ok (.aastore, 1))
    (K : aw_W p l e R s m args below meth c E base nL Q (aw_up cw a (aw_ra E N (va_up f j (some v)))) k n (pc+1) L st) : aw_W p l e R s m args below meth c E base nL Q cw k n pc L (.ref v :: ii_v x :: .ref a :: st) := by
  intro H lo ls h1 h2 h3
  subst hx
  obtain ⟨r', T, M⟩ := r
  obtain ⟨-, cellV, g1, g2, g3, -⟩ := aw_cell hc hv h1
  have hcls := (h1.1.1 ci _ hc).2
  obtain ⟨kA, comp, k1, k2, k3, -⟩ := (h1.1.2 2 _ rfl).2
  obtain ⟨kE, hkE, -⟩ := Vm.findClass_spec k3
  obtain ⟨kC, hkC, -⟩ := hcls.2
  have hB0 : ii_B (j : Int) := ⟨by omega, by omega⟩
  have hcl := ii_clampN (k := j) (by omega)
  have hcell : H[a]? = some (arrV (E.2.1 2) N (fun j => va_rf (f j))) := (h1.2.2 a _ ho).1
  refine W.aast C.1 C.2.1 hcell (fun q h => by cases h) (fun h => by cases h) k1 k2 rfl hkE ⟨fun q => absurd ((ii_lt hB0 ii_B0).mp q) (by omega), by rw [hcl, arrV_size]; exact hj⟩ g1 (fun q h => by rw [g3] at h; cases h) (by rw [g2]; exact hkC) (by rw [g2]; exact vb_asgC (C.2.2.2.2.2.2.2.2.1.2.2.2.2.2 _ hca) _ _ k3 hcls.1) rfl rfl d fun H1 e1 z oq => ?_
  rw [hcl] at e1
  refine K H1 _ ls (aw_HM_set h1 (h1.2.2 a _ ho).2 ?_ z oq) (h2.put z oq (h1.2.2 a _ ho).2) h3
  show H1[a]? = some (arrV (E.2.1 2) N (fun i => va_rf (va_up f j (some v) i)))
  rw [e1, arrV_store]
  congr 2
  funext q
  by_cases hq : q = j
  · subst hq
    simp [updV, va_up, va_rf]
  · simp [updV, va_up, hq]
end RowsW
section CallsW
variable {p : Program} {l : Launch} {e : Env} {R : Room} {s : State} {m : MethodId} {args : Array Value} {below : List Frame} {meth : Method} {c : Code} {E : ab_E} {base nL : Nat} {Q : State → Prop}
variable {own : String} {cc : ByteArray} {ret : Option FieldType} {cw : Nat → Option va_E} {k n pc : Nat} {L : List (Nat × Value)} {st : List Value}
theorem aw_run {Post : Option Value → (Nat → Option va_E) → Prop} {a : Array Value} {mc ms : Nat} {st0 : List Value} (C : ab_C p l s m args meth c E base nL own cc ret)
    (hr : ∀ (H : Heap) (locs : List Loc) (ls : Array Slot), aw_HM E base cw s H → va_S (ab_A base) s.heap H locs → lv_has ls nL L → vx_Run p l e R s m args below meth c H locs k n mc ms (F0 m pc ls st0) st (aw_qc E base Post a) aw_no (ab_A base))
    (K : ∀ (v : Option Value) (cw1 : Nat → Option va_E), Post v cw1 → aw_W p l e R s m args below meth c E base nL Q cw1 (k + mc) (n + ms) (pc + 3) L (v.toList ++ st)) : aw_W p l e R s m args below meth c E base nL Q cw k n pc L st0 := by
  intro H locs ls h1 h2 h3 T hT X
  rcases hr H locs ls h1 h2 h3 T hT X with ⟨v, st₀, t, T', L9, h0, X', hL, e1, e2, ⟨⟨v2, cw1, hv, hp, hm⟩, hF⟩, hst⟩ | ⟨q, st₀, t, T', L9, E9, ce, h0, X', hL, e1, e2, hF, hce, hcv, hcl, hst⟩
  · cases hv
    obtain ⟨k1, k2, k3⟩ := vx_keep h0 e1 h2 (fun _ _ h => h) (fun _ h => h) hL hF
    have hA : t.vm.Alike s.vm := by rw [← e2]; exact X'.warmed.alike.symm
    have hm2 : aw_HM E base cw1 s T'.heap := by rw [e1]; exact aw_HM_moved hA hm
    obtain ⟨t2, a1, b1⟩ := K v cw1 hp T'.heap (locs ++ L9) ls hm2 k3 h3 T' rfl X'
    exact ⟨t2, hst t2 a1, b1⟩
  · exact hF.elim
theorem aw_blind {as : List Value} : FrameBlind (va_Pc as (fun U => aw_HM E base cw U U.heap ∧ ab_SF base E U U.heap)) :=
  fun a U g mk h => ⟨h.1, aw_HM_moved (u := U) (U := U.calling g mk a) (Vm.Alike.refl U.vm) h.2.1, ab_SF_same (u := U) (U := U.calling g mk a) rfl h.2.2⟩
theorem aw_pre {H : Heap} {locs : List Loc} {as : List Value} (C : ab_C p l s m args meth c E base nL own cc ret) (h1 : aw_HM E base cw s H) (h2 : va_S (ab_A base) s.heap H locs) : ∀ U : State, U.heap = H → s.WarmedH U.vm → va_Pc as (fun U => aw_HM E base cw U U.heap ∧ ab_SF base E U U.heap) as.toArray U := by
  intro U hU hW
  refine ⟨rfl, ?_, ?_⟩
  · rw [hU]; exact aw_HM_moved hW.alike h1
  · rw [hU]; exact ab_SF_go hW (fun a ha hA => h2.2.1 a ha hA) C.2.2.2.2.2.2.2.2.1
theorem aw_recv {H : Heap} {C' : String} {T : u_T} {N ci a : Nat} {fs : List Value} (hc : vwCl[ci]? = some (C', T, N)) (ho : cw a = some (.inr (ci, fs))) (h1 : aw_HM E base cw s H) : ∃ cellB : Cell, H[a]? = some cellB ∧ cellB.vm.isStatics = false ∧ s.vm.findClass C' = some cellB.cls := by
  obtain ⟨-, cell, q1, q2, q3, -⟩ := aw_cell hc ho h1
  exact ⟨cell, q1, by rw [q3]; rfl, by rw [q2]; exact (h1.1.1 ci _ hc).2.1⟩
variable {y : MethodName} {bytes : ByteArray} {maxL : Nat} {ret1 : Option FieldType} {d0 mc0 ms0 d1 mc1 ms1 index : Nat} {As : List Value} {Post : Option Value → (Nat → Option va_E) → Prop} {st0 : List Value}
theorem w_callI {b : Nat} (C : ab_C p l s m args meth c E base nL own cc ret) (hM : aw_M l E base y bytes maxL none d1 mc1 ms1 (.ref b :: As) cw Post) (hco : Cond.code y bytes maxL none ∈ ab_all) (hin : Cond.initialized y.cls ∈ ab_all) (hli : Cond.methodLink own index y ∈ ab_all) (him : Cond.instanceMethod y ∈ ab_all) (hy : y.name = "<init>") (hd : y.cls ≠ "java/lang/invoke/MethodHandle" ∧ y.cls ≠ "java/lang/invoke/VarHandle" ∧ (parseMethodDescriptor y.desc).map (fun d => d.parameters.length) = some As.length) (hr : ab_fit d0 mc0 ms0 d1 mc1 ms1 maxL k n) (hs : st0 = As.reverse ++ .ref b :: st) (hcat : (st.map fun v => v.category).sum ≤ 8) (d : decode cc pc = .ok (.invokespecial index, 3))
    (K : ∀ (v : Option Value) (cw1 : Nat → Option va_E), Post v cw1 → aw_W p l e (ab_rm d0 mc0 ms0) s m args below meth c E base nL Q cw1 (k + mc1) (n + ms1) (pc + 3) L (v.toList ++ st)) : aw_W p l e (ab_rm d0 mc0 ms0) s m args below meth c E base nL Q cw k n pc L st0 :=
  aw_run C (fun H locs ls h1 h2 h3 => vx_runI (As := As) (b := b) ⟨C.1, C.2.1, C.2.2.2.1, C.2.2.2.2.1, C.2.2.2.2.2.1⟩ hM ⟨ab_callB (As := As) C hco hin hli hd hr, hy, C.2.2.2.2.2.1 _ him⟩ ⟨aw_blind, aw_pre C h1 h2⟩ rfl rfl h3.1 hs (ab_room8 hcat) d ⟨hr.2.2.1, hr.2.2.2⟩) K
theorem w_callIN {b : Nat} {host : String} (C : ab_C p l s m args meth c E base nL own cc ret) (hM : aw_M l E base y bytes maxL none d1 mc1 ms1 (.ref b :: As) cw Post) (hco : Cond.code y bytes maxL none ∈ ab_all) (hin : Cond.initialized y.cls ∈ ab_all) (hli : Cond.methodLinkNest own index y host ∈ ab_nest) (him : Cond.instanceMethod y ∈ ab_all) (hy : y.name = "<init>") (hd : y.cls ≠ "java/lang/invoke/MethodHandle" ∧ y.cls ≠ "java/lang/invoke/VarHandle" ∧ (parseMethodDescriptor y.desc).map (fun d => d.parameters.length) = some As.length) (hr : ab_fit d0 mc0 ms0 d1 mc1 ms1 maxL k n) (hs : st0 = As.reverse ++ .ref b :: st) (hcat : (st.map fun v => v.category).sum ≤ 8) (d : decode cc pc = .ok (.invokespecial index, 3))
    (K : ∀ (v : Option Value) (cw1 : Nat → Option va_E), Post v cw1 → aw_W p l e (ab_rm d0 mc0 ms0) s m args below meth c E base nL Q cw1 (k + mc1) (n + ms1) (pc + 3) L (v.toList ++ st)) : aw_W p l e (ab_rm d0 mc0 ms0) s m args below meth c E base nL Q cw k n pc L st0 :=
  aw_run C (fun H locs ls h1 h2 h3 => vx_runIN (As := As) (b := b) ⟨C.1, C.2.1, C.2.2.2.1, C.2.2.2.2.1, C.2.2.2.2.2.1⟩ hM ⟨ab_callN (As := As) C hco hin hli hd hr, hy, C.2.2.2.2.2.1 _ him⟩ ⟨aw_blind, aw_pre C h1 h2⟩ rfl rfl h3.1 hs (ab_room8 hcat) d ⟨hr.2.2.1, hr.2.2.2⟩) K
theorem w_callV {b ci N : Nat} {T : u_T} {fs : List Value} (C : ab_C p l s m args meth c E base nL own cc ret) (hM : aw_M l E base y bytes maxL ret1 d1 mc1 ms1 (.ref b :: As) cw Post) (hco : Cond.code y bytes maxL ret1 ∈ ab_all) (hin : Cond.initialized y.cls ∈ ab_all) (hli : Cond.methodLink own index y ∈ ab_all) (him : Cond.instanceMethod y ∈ ab_all) (hse : Cond.selects y.cls y y ∈ ab_all) (hc : vwCl[ci]? = some (y.cls, T, N)) (ho : cw b = some (.inr (ci, fs))) (hd : y.cls ≠ "java/lang/invoke/MethodHandle" ∧ y.cls ≠ "java/lang/invoke/VarHandle" ∧ (parseMethodDescriptor y.desc).map (fun d => d.parameters.length) = some As.length) (hr : ab_fit d0 mc0 ms0 d1 mc1 ms1 maxL k n) (hs : st0 = As.reverse ++ .ref b :: st) (hcat : (st.map fun v => v.category).sum ≤ 8) (d : decode cc pc = .ok (.invokevirtual index, 3))
    (K : ∀ (v : Option Value) (cw1 : Nat → Option va_E), Post v cw1 → aw_W p l e (ab_rm d0 mc0 ms0) s m args below meth c E base nL Q cw1 (k + mc1) (n + ms1) (pc + 3) L (v.toList ++ st)) : aw_W p l e (ab_rm d0 mc0 ms0) s m args below meth c E base nL Q cw k n pc L st0 :=
  aw_run C (fun H locs ls h1 h2 h3 => vx_runV (As := As) (C := y.cls) ⟨C.1, C.2.1, C.2.2.2.1, C.2.2.2.2.1, C.2.2.2.2.2.1⟩ hM ⟨ab_callB (As := As) C hco hin hli hd hr, C.2.2.2.2.2.1 _ him, C.2.2.2.2.2.1 _ hse⟩ ⟨aw_blind, aw_recv hc ho h1, aw_pre C h1 h2⟩ rfl rfl h3.1 hs (ab_room8 hcat) d ⟨hr.2.2.1, hr.2.2.2⟩) K
theorem w_callS (C : ab_C p l s m args meth c E base nL own cc ret) (hM : aw_M l E base y bytes maxL ret1 d1 mc1 ms1 As cw Post) (hco : Cond.code y bytes maxL ret1 ∈ ab_all) (hin : Cond.initialized y.cls ∈ ab_all) (hli : Cond.methodLink own index y ∈ ab_all) (hst : Cond.static y ∈ ab_all) (hd : y.cls ≠ "java/lang/invoke/MethodHandle" ∧ y.cls ≠ "java/lang/invoke/VarHandle" ∧ (parseMethodDescriptor y.desc).map (fun d => d.parameters.length) = some As.length) (hr : ab_fit d0 mc0 ms0 d1 mc1 ms1 maxL k n) (hs : st0 = As.reverse ++ st) (hcat : (st.map fun v => v.category).sum ≤ 8) (d : decode cc pc = .ok (.invokestatic index, 3))
    (K : ∀ (v : Option Value) (cw1 : Nat → Option va_E), Post v cw1 → aw_W p l e (ab_rm d0 mc0 ms0) s m args below meth c E base nL Q cw1 (k + mc1) (n + ms1) (pc + 3) L (v.toList ++ st)) : aw_W p l e (ab_rm d0 mc0 ms0) s m args below meth c E base nL Q cw k n pc L st0 :=
  aw_run C (fun H locs ls h1 h2 h3 => vx_runS (As := As) ⟨C.1, C.2.1, C.2.2.2.1, C.2.2.2.2.1, C.2.2.2.2.2.1⟩ hM ⟨ab_callB (As := As) C hco hin hli hd hr, C.2.2.2.2.2.1 _ hst⟩ ⟨aw_blind, aw_pre C h1 h2⟩ rfl rfl h3.1 hs (ab_room8 hcat) d ⟨hr.2.2.1, hr.2.2.2⟩) K
theorem w_max {a b : Int} (C : ab_C p l s m args meth c E base nL own cc ret) (hl : Cond.methodLink own index Lib.Math.max.name ∈ ab_all) (d : decode cc pc = .ok (.invokestatic index, 3)) (hd : 1 ≤ d0) (hcat : (st.map fun v => v.category).sum ≤ 8) (hk : k ≤ mc0 ∧ n ≤ ms0) (ha : ii_B a) (hb : ii_B b) (K : aw_W p l e (ab_rm d0 mc0 ms0) s m args below meth c E base nL Q cw k n (pc + 3) L (ii_v (max a b) :: st)) : aw_W p l e (ab_rm d0 mc0 ms0) s m args below meth c E base nL Q cw k n pc L (ii_v b :: ii_v a :: st) :=
  fun H lo ls h1 h2 h3 => va_mmax C.1 C.2.1 (C.2.2.2.1.trans h3.1.symm) C.2.2.2.2.1 (C.2.2.2.2.2.1 _ hl) (C.2.2.2.2.2.1 _ sc_J9_max_7cf53) (C.2.2.2.2.2.1 _ in_J9) (C.2.2.2.2.2.1 _ co_J9_max_7cf53) hd (by show _ ≤ 60 * d0 + 100; omega) hk.1 hk.2 d (by rw [ii_maxN ha hb]; exact K H lo ls h1 h2 h3)
theorem w_min {a b : Int} (C : ab_C p l s m args meth c E base nL own cc ret) (hl : Cond.methodLink own index Lib.Math.min.name ∈ ab_all) (d : decode cc pc = .ok (.invokestatic index, 3)) (hd : 1 ≤ d0) (hcat : (st.map fun v => v.category).sum ≤ 8) (hk : k ≤ mc0 ∧ n ≤ ms0) (ha : ii_B a) (hb : ii_B b) (K : aw_W p l e (ab_rm d0 mc0 ms0) s m args below meth c E base nL Q cw k n (pc + 3) L (ii_v (min a b) :: st)) : aw_W p l e (ab_rm d0 mc0 ms0) s m args below meth c E base nL Q cw k n pc L (ii_v b :: ii_v a :: st) :=
  fun H lo ls h1 h2 h3 => va_mmin C.1 C.2.1 (C.2.2.2.1.trans h3.1.symm) C.2.2.2.2.1 (C.2.2.2.2.2.1 _ hl) (C.2.2.2.2.2.1 _ sc_J9_min_7cf53) (C.2.2.2.2.2.1 _ in_J9) (C.2.2.2.2.2.1 _ co_J9_min_7cf53) hd (by show _ ≤ 60 * d0 + 100; omega) hk.1 hk.2 d (by rw [ii_minN ha hb]; exact K H lo ls h1 h2 h3)
end CallsW
section EndsW
variable {p : Program} {l : Launch} {e : Env} {R : Room} {s : State} {m : MethodId} {args : Array Value} {below : List Frame} {meth : Method} {c : Code} {E : ab_E} {base nL : Nat}
variable {own : String} {cc : ByteArray} {ret : Option FieldType} {cw : Nat → Option va_E} {k n pc mc ms : Nat} {L : List (Nat × Value)} {Post : Option Value → (Nat → Option va_E) → Prop}
abbrev aw_Q (below : List Frame) (E : ab_E) (base : Nat) (Post : Option Value → (Nat → Option va_E) → Prop) (args : Array Value) (s : State) (mc ms : Nat) : State → Prop := vx_MQ below (aw_qc E base Post) aw_no args s mc ms (ab_A base)
theorem aw_end {H : Heap} {locs : List Loc} {v : Option Value} (hP : Post v cw) (h1 : aw_HM E base cw s H) (h2 : va_S (ab_A base) s.heap H locs) : ∀ t : State, t.heap = H → s.WarmedH t.vm → aw_qc E base Post args s (.returned v) t :=
  fun t ht hW => ⟨⟨v, cw, rfl, hP, by rw [ht]; exact aw_HM_moved hW.alike h1⟩, h2.F ht⟩
theorem w_vret (C : ab_C p l s m args meth c E base nL own cc none) (hP : Post none cw) (hk : k ≤ mc) (hn : n ≤ ms) (d : decode cc pc = .ok (.return_, 1)) : aw_W p l e R s m args below meth c E base nL (aw_Q below E base Post args s mc ms) cw k n pc L [] :=
  fun H lo ls h1 h2 h3 => vx_ret (W.widen hk hn (W.vret C.1 C.2.1 C.2.2.1 (aw_end hP h1 h2) h2.2.2 d C.2.2.2.2.2.2.1))
theorem w_iret {v : Int} (C : ab_C p l s m args meth c E base nL own cc (some .int)) (hP : Post (some (ii_v v)) cw) (hk : k ≤ mc) (hn : n ≤ ms) (d : decode cc pc = .ok (.ireturn, 1)) : aw_W p l e R s m args below meth c E base nL (aw_Q below E base Post args s mc ms) cw k n pc L [ii_v v] :=
  fun H lo ls h1 h2 h3 => vx_ret (W.widen hk hn (W.iret C.1 C.2.1 C.2.2.1 (aw_end hP h1 h2) h2.2.2 d C.2.2.2.2.2.2.1))
theorem w_zret {v : Int} {ty : FieldType} (C : ab_C p l s m args meth c E base nL own cc (some ty)) (hv : narrow ty (ii_v v) = ii_v v) (hP : Post (some (ii_v v)) cw) (hk : k ≤ mc) (hn : n ≤ ms) (d : decode cc pc = .ok (.ireturn, 1)) : aw_W p l e R s m args below meth c E base nL (aw_Q below E base Post args s mc ms) cw k n pc L [ii_v v] :=
  fun H lo ls h1 h2 h3 => vx_ret (W.widen hk hn (W.zret C.1 C.2.1 C.2.2.1 hv (aw_end hP h1 h2) h2.2.2 d C.2.2.2.2.2.2.1))
theorem w_aret {v : Nat} {rt : FieldType} (C : ab_C p l s m args meth c E base nL own cc (some rt)) (hrt : (∃ n, rt = .object n) ∨ ∃ t, rt = .array t) (hP : Post (some (.ref v)) cw) (hk : k ≤ mc) (hn : n ≤ ms) (d : decode cc pc = .ok (.areturn, 1)) : aw_W p l e R s m args below meth c E base nL (aw_Q below E base Post args s mc ms) cw k n pc L [.ref v] :=
  fun H lo ls h1 h2 h3 => vx_ret (W.widen hk hn (W.aret C.1 C.2.1 C.2.2.1 hrt (Or.inr ⟨v, rfl⟩) (aw_end hP h1 h2) h2.2.2 d C.2.2.2.2.2.2.1))
end EndsW
