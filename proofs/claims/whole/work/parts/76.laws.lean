/-! Rules for the law and its wrappers: long numbers, handlers. -/
section LR
variable {p : Program} {l : Launch} {e : Env} {R : Room} {s : State} {m : MethodId} {args : Array Value} {below : List Frame} {meth : Method} {c : Code} {E : ab_E} {base nL : Nat} {Q : State → Prop}
variable {own : String} {cc : ByteArray} {ret : Option FieldType} {x : ab_X} {ad : Nat → Nat} {f : Nat → Nat → Int} {nb nr : Nat} {vL : Int64} {vD : UInt64} {z : ab_H} {k n pc : Nat} {L : List (Nat × Value)} {st : List Value}
theorem a_i2l {u : Int} (C : ab_C p l s m args meth c E base nL own cc ret) (d : decode cc pc = .ok (.i2l, 1)) (K : ab_W p l e R s m args below meth c E base nL Q x ad z k n (pc + 1) L (.long (ii_n u).toInt64 :: st)) : ab_W p l e R s m args below meth c E base nL Q x ad z k n pc L (ii_v u :: st) :=
  fun H lo ls h1 h2 h3 => lv_i2l C.1 C.2.1 d rfl (K H lo ls h1 h2 h3)
theorem a_lconst {i : Fin 2} (C : ab_C p l s m args meth c E base nL own cc ret) (d : decode cc pc = .ok (.lconst i, 1)) (K : ab_W p l e R s m args below meth c E base nL Q x ad z k n (pc + 1) L (.long (Int64.ofNat (i : Nat)) :: st)) : ab_W p l e R s m args below meth c E base nL Q x ad z k n pc L st :=
  fun H lo ls h1 h2 h3 => lv_lconst C.1 C.2.1 d rfl (K H lo ls h1 h2 h3)
theorem a_f2d {u : UInt32} (C : ab_C p l s m args meth c E base nL own cc ret) (hn : vf_n64 (FP.f2d u)) (d : decode cc pc = .ok (.f2d, 1)) (K : ab_W p l e R s m args below meth c E base nL Q x ad z k n (pc + 1) L (.double (FP.f2d u) :: st)) : ab_W p l e R s m args below meth c E base nL Q x ad z k n pc L (.float u :: st) :=
  fun H lo ls h1 h2 h3 => lv_f2d C.1 C.2.1 d hn (K H lo ls h1 h2 h3)
theorem a_dcmp {u v : UInt64} {op : CmpOp} (C : ab_C p l s m args meth c E base nL own cc ret) (d : decode cc pc = .ok (.dcmp op, 1)) (K : ab_W p l e R s m args below meth c E base nL Q x ad z k n (pc + 1) L (.int (Op.cmpValue (FP.dcmp u v) op) :: st)) : ab_W p l e R s m args below meth c E base nL Q x ad z k n pc L (.double v :: .double u :: st) :=
  fun H lo ls h1 h2 h3 => lv_dcmp C.1 C.2.1 d (K H lo ls h1 h2 h3)
theorem lv_lcmpE {H : Heap} {locs : List Loc} {cells slots : Nat} {ls : Array Slot} {rest : List Value} {u : Int64} (hexec : p.tables.exec = Jvm.exec) (hb : c.code = cc) (hdg : decode cc pc = .ok (.lcmp, 1))
    (k : W p l e R s m args below meth c H locs cells slots Q (F0 m (pc + 1) ls (.int 0 :: rest))) : W p l e R s m args below meth c H locs cells slots Q (F0 m pc ls (.long u :: .long u :: rest)) := by
  intro T hT X
  obtain ⟨t, a, b⟩ := k T hT X
  refine ⟨t, ?_, b⟩
  jvm_step X.here [X.here.top, hexec, hb, hdg]
  exact a
theorem a_lcmpE {u : Int64} (C : ab_C p l s m args meth c E base nL own cc ret) (d : decode cc pc = .ok (.lcmp, 1)) (K : ab_W p l e R s m args below meth c E base nL Q x ad z k n (pc + 1) L (ii_v 0 :: st)) : ab_W p l e R s m args below meth c E base nL Q x ad z k n pc L (.long u :: .long u :: st) :=
  fun H lo ls h1 h2 h3 => lv_lcmpE C.1 C.2.1 d (K H lo ls h1 h2 h3)
theorem ab_cel90 {g : ab_G} : ab_ce E ab_x4 ad g (f, nb, nr, vL, vD) 90 = some (.inl (E.2.1 3, 1, .inr (.inl (fun _ => vL)))) := rfl
theorem ab_cel91 {g : ab_G} : ab_ce E ab_x4 ad g (f, nb, nr, vL, vD) 91 = some (.inl (E.2.1 4, 1, .inr (.inr (.inr (.inl (fun _ => vD)))))) := rfl
theorem ab_at90 {H : Heap} (h1 : ab_HM E base ab_x4 ad (f, nb, nr, vL, vD) s H) : H[ad 90]? = some (arrV (E.2.1 3) 1 (fun _ => .long vL)) ∧ base ≤ ad 90 := by
  obtain ⟨hK, hbs, g, hg, hcel, -⟩ := h1
  exact hcel 90 _ ab_cel90
theorem ab_at91 {H : Heap} (h1 : ab_HM E base ab_x4 ad (f, nb, nr, vL, vD) s H) : H[ad 91]? = some (arrV (E.2.1 4) 1 (fun _ => .double vD)) ∧ base ≤ ad 91 := by
  obtain ⟨hK, hbs, g, hg, hcel, -⟩ := h1
  exact hcel 91 _ ab_cel91
theorem ce_out {g : ab_G} {vL2 : Int64} {vD2 : UInt64} {o : Nat} (h90 : vL2 = vL ∨ o ≠ 90) (h91 : vD2 = vD ∨ o ≠ 91) : ab_ce E ab_x4 ad g (f, nb, nr, vL2, vD2) o = ab_ce E ab_x4 ad g (f, nb, nr, vL, vD) o := by
  show ab_cel E ab_x4 ad g nb nr (vL2, vD2) (f o) o = ab_cel E ab_x4 ad g nb nr (vL, vD) (f o) o
  unfold ab_cel
  rcases h90 with rfl | h90
  · rcases h91 with rfl | h91
    · rfl
    · rw [if_neg (show ¬ (o = 91 ∧ 4 ≤ ab_x4.1) from fun q => h91 q.1), if_neg (show ¬ (o = 91 ∧ 4 ≤ ab_x4.1) from fun q => h91 q.1)]
  · rcases h91 with rfl | h91
    · rw [if_neg (show ¬ (o = 90 ∧ 3 ≤ ab_x4.1) from fun q => h90 q.1), if_neg (show ¬ (o = 90 ∧ 3 ≤ ab_x4.1) from fun q => h90 q.1)]
    · rw [if_neg (show ¬ (o = 90 ∧ 3 ≤ ab_x4.1) from fun q => h90 q.1), if_neg (show ¬ (o = 90 ∧ 3 ≤ ab_x4.1) from fun q => h90 q.1), if_neg (show ¬ (o = 91 ∧ 4 ≤ ab_x4.1) from fun q => h91 q.1), if_neg (show ¬ (o = 91 ∧ 4 ≤ ab_x4.1) from fun q => h91 q.1)]
theorem arr_1 (cA : ClassId) {g g2 : Nat → Value} (h : g 0 = g2 0) : arrV cA 1 g = arrV cA 1 g2 := by
  have e1 : (fun j : Fin 1 => g j.val) = fun j : Fin 1 => g2 j.val := funext fun j => by rw [show j.val = 0 by omega]; exact h
  unfold arrV
  rw [e1]
theorem a_last {u : Int64} (C : ab_C p l s m args meth c E base nL own cc ret) (d : decode cc pc = .ok (.lastore, 1)) (K : ab_W p l e R s m args below meth c E base nL Q ab_x4 ad (f, nb, nr, u, vD) k n (pc + 1) L st) : ab_W p l e R s m args below meth c E base nL Q ab_x4 ad (f, nb, nr, vL, vD) k n pc L (.long u :: ii_v 0 :: .ref (ad 90) :: st) := by
  intro H lo ls h1 h2 h3
  refine W.last C.1 C.2.1 (ab_at90 h1).1 ((h1.1.2 3 _ rfl).1 1 (fun _ => .long vL)) (fun q => by cases q) (by rw [arrV_size]; exact ii_inN (show 0 < 1 by decide) (by decide)) rfl rfl d fun H1 e1 e2 e3 => ?_
  refine K H1 _ ls (ab_HM_set (o := 90) (e := .inl (E.2.1 3, 1, .inr (.inl (fun _ => vL)))) (e1 := .inl (E.2.1 3, 1, .inr (.inl (fun _ => u)))) h1 (f, nb, nr, u, vD) rfl rfl (fun o2 g h => ce_out (Or.inr h) (Or.inl rfl)) (fun g => ab_cel90) (fun g => ab_cel90) ?_ e2 e3) (h2.put e2 e3 (ab_at90 h1).2) h3
  show H1[ad 90]? = some (arrV (E.2.1 3) 1 (fun _ => .long u))
  rw [e1, arrV_store, show (ii_n 0).toNatClampNeg = 0 from rfl]
  exact congrArg some (arr_1 _ (by unfold updV; exact if_pos rfl))
theorem a_dast {u : UInt64} (C : ab_C p l s m args meth c E base nL own cc ret) (d : decode cc pc = .ok (.dastore, 1)) (K : ab_W p l e R s m args below meth c E base nL Q ab_x4 ad (f, nb, nr, vL, u) k n (pc + 1) L st) : ab_W p l e R s m args below meth c E base nL Q ab_x4 ad (f, nb, nr, vL, vD) k n pc L (.double u :: ii_v 0 :: .ref (ad 91) :: st) := by
  intro H lo ls h1 h2 h3
  refine W.dast C.1 C.2.1 (ab_at91 h1).1 ((h1.1.2 4 _ rfl).1 1 (fun _ => .double vD)) (fun q => by cases q) (by rw [arrV_size]; exact ii_inN (show 0 < 1 by decide) (by decide)) rfl rfl d fun H1 e1 e2 e3 => ?_
  refine K H1 _ ls (ab_HM_set (o := 91) (e := .inl (E.2.1 4, 1, .inr (.inr (.inr (.inl (fun _ => vD)))))) (e1 := .inl (E.2.1 4, 1, .inr (.inr (.inr (.inl (fun _ => u)))))) h1 (f, nb, nr, vL, u) rfl rfl (fun o2 g h => ce_out (Or.inl rfl) (Or.inr h)) (fun g => ab_cel91) (fun g => ab_cel91) ?_ e2 e3) (h2.put e2 e3 (ab_at91 h1).2) h3
  show H1[ad 91]? = some (arrV (E.2.1 4) 1 (fun _ => .double u))
  rw [e1, arrV_store, show (ii_n 0).toNatClampNeg = 0 from rfl]
  exact congrArg some (arr_1 _ (by unfold updV; exact if_pos rfl))
theorem a_lald (C : ab_C p l s m args meth c E base nL own cc ret) (d : decode cc pc = .ok (.laload, 1)) (K : ab_W p l e R s m args below meth c E base nL Q ab_x4 ad (f, nb, nr, vL, vD) k n (pc + 1) L (.long vL :: st)) : ab_W p l e R s m args below meth c E base nL Q ab_x4 ad (f, nb, nr, vL, vD) k n pc L (ii_v 0 :: .ref (ad 90) :: st) := by
  intro H lo ls h1 h2 h3
  exact W.lald (v := .long vL) C.1 C.2.1 (ab_at90 h1).1 ((h1.1.2 3 _ rfl).1 1 (fun _ => .long vL)) (fun q => by cases q) (by rw [arrV_size]; exact ii_inN (show 0 < 1 by decide) (by decide)) (by rw [show (ii_n 0).toNatClampNeg = 0 from rfl]; exact arrV_read _ _ (by decide)) rfl rfl d (K H lo ls h1 h2 h3)
theorem a_dald (C : ab_C p l s m args meth c E base nL own cc ret) (d : decode cc pc = .ok (.daload, 1)) (K : ab_W p l e R s m args below meth c E base nL Q ab_x4 ad (f, nb, nr, vL, vD) k n (pc + 1) L (.double vD :: st)) : ab_W p l e R s m args below meth c E base nL Q ab_x4 ad (f, nb, nr, vL, vD) k n pc L (ii_v 0 :: .ref (ad 91) :: st) := by
  intro H lo ls h1 h2 h3
  exact W.dald (v := .double vD) C.1 C.2.1 (ab_at91 h1).1 ((h1.1.2 4 _ rfl).1 1 (fun _ => .double vD)) (fun q => by cases q) (by rw [arrV_size]; exact ii_inN (show 0 < 1 by decide) (by decide)) (by rw [show (ii_n 0).toNatClampNeg = 0 from rfl]; exact arrV_read _ _ (by decide)) rfl rfl d (K H lo ls h1 h2 h3)
/-- the throw is caught -/
theorem a_catch {X name : String} {hp : Nat} (C : ab_C p l s m args meth c E base nL own cc ret) (pre : List ExceptionTableEntry) (xe : ExceptionTableEntry) (suf : List ExceptionTableEntry) (hsplit : c.exceptionTable.toList = pre ++ xe :: suf)
    (hpass : ∀ q ∈ pre, covers q pc = false ∨ (q.catchType ≠ 0 ∧ ∃ nm : String, (Cond.classLink own q.catchType nm).before args s = true ∧ va_Nc X nm s)) (hx : covers xe pc = true) (h0 : xe.catchType ≠ 0) (hlink : (.classLink own xe.catchType name : Cond) ∈ ab_all) (hcast : (.castable X name : Cond) ∈ ab_nest) (hh : xe.handlerPc = hp)
    (K : ∀ q : Nat, ab_W p l e R s m args below meth c E base nL Q x ad z k n hp L [.ref q]) : ab_WX p l e R s m args below meth c E base nL Q x ad z k n pc L st X := by
  intro H lo ls q ce h1 h2 h3 h4 h5 h6
  refine vx_catch C.2.2.2.2.1 pre xe suf hsplit hpass hx h0 (C.2.2.2.2.2.1 _ hlink) (ab_useN C hcast) h4 h5 h6 ?_
  rw [hh]
  exact K q H lo ls h1 h2 h3
end LR
/-- throws that are not each other's -/
def ab_ncs : List (String × String) := [("java/lang/IllegalStateException", "java/lang/IllegalArgumentException"), ("java/lang/UnsupportedOperationException", "java/lang/IllegalArgumentException"), ("java/lang/IllegalStateException", "java/lang/UnsupportedOperationException"), ("java/util/NoSuchElementException", "java/lang/IllegalArgumentException"), ("java/util/NoSuchElementException", "java/lang/UnsupportedOperationException"), ("java/lang/IllegalStateException", "java/lang/IndexOutOfBoundsException"), ("java/util/NoSuchElementException", "java/lang/IndexOutOfBoundsException")]
def ab_NC (U : State) : Prop := ∀ q ∈ ab_ncs, va_Nc q.1 q.2 U
theorem ab_NC_moved {u U : State} (hvm : u.vm.Alike U.vm) (h : ab_NC u) : ab_NC U := fun q hq => va_Nc.moved hvm (h q hq)
/-- a method with handlers -/
def ab_pcH (E : ab_E) (base : Nat) (x : ab_X) (ad : Nat → Nat) (z : ab_H) : State → Prop := fun U => ab_pc E base x ad z U ∧ ab_NC U
abbrev ab_wsH (y : MethodName) (cc : ByteArray) (nL : Nat) (ret : Option FieldType) (hh : List (Nat × Nat × Nat × Nat)) : List Cond := .codeWith y cc nL ret hh :: ab_all
def ab_MH (l : Launch) (E : ab_E) (base : Nat) (y : MethodName) (cc : ByteArray) (nL : Nat) (ret : Option FieldType) (hh : List (Nat × Nat × Nat × Nat)) (d mc ms : Nat) (as : List Value) (x : ab_X) (ad : Nat → Nat) (z : ab_H) (Post : ab_P) : Prop :=
  vx_Met l y (ab_wsH y cc nL ret hh) (ab_rm d mc ms) (va_Pc as (ab_pcH E base x ad z)) (ab_qc E base Post) (ab_xc E base Post) mc ms (ab_A base)
theorem ab_ofH {l : Launch} {E : ab_E} {base : Nat} {y : MethodName} {cc : ByteArray} {nL : Nat} {ret : Option FieldType} {hh : List (Nat × Nat × Nat × Nat)} {d mc ms : Nat} {as : List Value} {x : ab_X} {ad : Nat → Nat} {z : ab_H} {Post : ab_P} (own : String) (L0 : List (Nat × Value)) (hl : l.stackTraces = false) (hy : plainName y.cls = true) (hown : y.cls = own) (hlen : (lg_sl as).length ≤ nL) (hL : lv_args 0 as = L0)
    (body : ∀ (p : Program) (e : Env) (s : State) (m : MethodId) (args : Array Value) (below : List Frame) (meth : Method) (c : Code), ab_C p l s m args meth c E base nL own cc ret → c.exceptionTable.toList = tableOf hh → ab_NC s → 
      ab_W p l e (ab_rm d mc ms) s m args below meth c E base nL (vx_MQ below (ab_qc E base Post) (ab_xc E base Post) args s mc ms (ab_A base)) x ad z 0 0 0 L0 []) : ab_MH l E base y cc nL ret hh d mc ms as x ad z Post := by
  subst hown hL
  refine vx_ofWH (cc := cc) (maxL := nL) (ret := ret) (hh := hh) hy rfl ?_
  intro p e s m args below meth c s₁ B hml hv
  obtain ⟨rfl, ⟨hHM, hSF⟩, hNC⟩ := hv
  have ht := vx_table (x := y) B (atoms_spec (ws := ab_wsH y cc nL ret hh) B.pre _ List.mem_cons_self)
  rw [lg_entry_eq]
  exact body p e s m _ below meth c ⟨B.exec, B.bytes, B.returns, hml, findClass_of_methodNamed B.named, fun w hw => atoms_spec (ws := ab_wsH y cc nL ret hh) B.pre w (List.mem_cons_of_mem _ hw), B.notSynchronized, hl, hSF, hHM.2.1⟩ ht hNC s.heap [] _ hHM va_S.rf (lv_entry as hlen)
theorem ab_goodInH {y : MethodName} {cc : ByteArray} {nL : Nat} {ret : Option FieldType} {hh : List (Nat × Nat × Nat × Nat)} (h : Cond.codeWith y cc nL ret hh ∈ ab_all) : GoodIn ab_all (ab_wsH y cc nL ret hh) := by
  intro w hw
  rcases List.mem_cons.mp hw with rfl | hw
  · exact ⟨h, ab_all_good h⟩
  · exact ⟨hw, ab_all_good hw⟩
section CH
variable {p : Program} {l : Launch} {e : Env} {s : State} {m : MethodId} {args : Array Value} {below : List Frame} {meth : Method} {c : Code} {E : ab_E} {base nL : Nat} {Q : State → Prop}
variable {own : String} {cc : ByteArray} {ret : Option FieldType} {x : ab_X} {ad : Nat → Nat} {z : ab_H} {k n pc : Nat} {L : List (Nat × Value)} {st : List Value}
variable {y : MethodName} {bytes : ByteArray} {maxL : Nat} {ret1 : Option FieldType} {d0 mc0 ms0 d1 mc1 ms1 index : Nat} {As : List Value} {Post : ab_P} {st0 : List Value} {hh : List (Nat × Nat × Nat × Nat)}
theorem ab_preH {H : Heap} {locs : List Loc} {as : List Value} (C : ab_C p l s m args meth c E base nL own cc ret) (hN : ab_NC s) (h1 : ab_HM E base x ad z s H) (h2 : va_S (ab_A base) s.heap H locs) : ∀ U : State, U.heap = H → s.WarmedH U.vm → va_Pc as (ab_pcH E base x ad z) as.toArray U := by
  intro U hU hW
  have h3 := ab_pre (as := as) C h1 h2 U hU hW
  exact ⟨h3.1, h3.2, ab_NC_moved hW.alike hN⟩
theorem ab_blindH {as : List Value} : FrameBlind (va_Pc as (ab_pcH E base x ad z)) :=
  fun a U g mk h => ⟨h.1, ⟨ab_HM_moved (u := U) (U := U.calling g mk a) (Vm.Alike.refl U.vm) h.2.1.1, ab_SF_same (u := U) (U := U.calling g mk a) rfl h.2.1.2⟩, ab_NC_moved (u := U) (U := U.calling g mk a) (Vm.Alike.refl U.vm) h.2.2⟩
theorem a_callSH (C : ab_C p l s m args meth c E base nL own cc ret) (hN : ab_NC s) (hM : ab_MH l E base y bytes maxL ret1 hh d1 mc1 ms1 As x ad z Post) (hco : Cond.codeWith y bytes maxL ret1 hh ∈ ab_all) (hin : Cond.initialized y.cls ∈ ab_all) (hli : Cond.methodLink own index y ∈ ab_all) (hst : Cond.static y ∈ ab_all) (hd : y.cls ≠ "java/lang/invoke/MethodHandle" ∧ y.cls ≠ "java/lang/invoke/VarHandle" ∧ (parseMethodDescriptor y.desc).map (fun d => d.parameters.length) = some As.length) (hr : ab_fit d0 mc0 ms0 d1 mc1 ms1 maxL k n) (hs : st0 = As.reverse ++ st) (hcat : (st.map fun v => v.category).sum ≤ 8) (d : decode cc pc = .ok (.invokestatic index, 3)) (K : ab_K p l e (ab_rm d0 mc0 ms0) s m args below meth c E base nL Q (k + mc1) (n + ms1) (pc + 3) L st Post) (KX : ab_KX p l e (ab_rm d0 mc0 ms0) s m args below meth c E base nL Q (k + mc1) (n + ms1) pc L st Post) : ab_W p l e (ab_rm d0 mc0 ms0) s m args below meth c E base nL Q x ad z k n pc L st0 :=
  ab_run C (fun H locs ls h1 h2 h3 => vx_runSX (As := As) (hh := hh) ⟨C.1, C.2.1, C.2.2.2.1, C.2.2.2.2.1, C.2.2.2.2.2.1⟩ hM (vx_cwSW (Ts := ab_all) (ws' := ab_all) As.length C.2.2.2.2.2.1 (fun w hw => by
    unfold va_wsS at hw
    rcases List.mem_append.mp hw with hw | hw
    · simp only [List.mem_cons, List.not_mem_nil, or_false] at hw
      rcases hw with rfl | rfl | rfl
      · exact ⟨hli, ab_all_good hli⟩
      · exact ⟨hst, ab_all_good hst⟩
      · exact ⟨hin, ab_all_good hin⟩
    · exact ab_goodInH hco w hw) rfl rfl rfl hd ⟨hr.1, by show 8 + (maxL + 11) + (60 * d1 + 100) ≤ 60 * d0 + 100; have := hr.1; have := hr.2.1; omega⟩) ⟨ab_blindH, ab_preH C hN h1 h2⟩ rfl rfl h3.1 hs (ab_room8 hcat) d ⟨hr.2.2.1, hr.2.2.2⟩) K KX
end CH
