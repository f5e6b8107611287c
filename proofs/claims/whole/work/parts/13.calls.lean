/-! Entering a method, calls, ends, throws. -/
theorem ab_HM_kept {E : ab_E} {base : Nat} {x : ab_X} {ad : Nat → Nat} {z : ab_H} {U : State} {H H1 : Heap} (h : ab_HM E base x ad z U H) (hz : H.size ≤ H1.size) (hq : ∀ q : Nat, q < H.size → H1[q]? = H[q]?) : ab_HM E base x ad z U H1 := by
  obtain ⟨hK, hb, g, hg, hc, hi⟩ := h
  exact ⟨hK, Nat.le_trans hb hz, g, hg, fun o e he => ⟨(hc o e he).1.kept (hq _ (hc o e he).1.lt), (hc o e he).2⟩, hi⟩
theorem ab_blind {E : ab_E} {base : Nat} {x : ab_X} {ad : Nat → Nat} {z : ab_H} {as : List Value} : FrameBlind (va_Pc as (ab_pc E base x ad z)) :=
  fun a U g mk h => ⟨h.1, ab_HM_moved (u := U) (U := U.calling g mk a) (Vm.Alike.refl U.vm) h.2.1, ab_SF_same (u := U) (U := U.calling g mk a) rfl h.2.2⟩
theorem ab_of {l : Launch} {E : ab_E} {base : Nat} {y : MethodName} {cc : ByteArray} {nL : Nat} {ret : Option FieldType} {d mc ms : Nat} {as : List Value} {x : ab_X} {ad : Nat → Nat} {z : ab_H} {Post : ab_P} (own : String) (L0 : List (Nat × Value)) (hl : l.stackTraces = false) (hy : plainName y.cls = true) (hown : y.cls = own) (hlen : (lg_sl as).length ≤ nL) (hL : lv_args 0 as = L0)
    (body : ∀ (p : Program) (e : Env) (s : State) (m : MethodId) (args : Array Value) (below : List Frame) (meth : Method) (c : Code), ab_C p l s m args meth c E base nL own cc ret → (∀ q ∈ c.exceptionTable.toList, False) → meth.name = y.name →
      ab_W p l e (ab_rm d mc ms) s m args below meth c E base nL (vx_MQ below (ab_qc E base Post) (ab_xc E base Post) args s mc ms (ab_A base)) x ad z 0 0 0 L0 []) : ab_M l E base y cc nL ret d mc ms as x ad z Post := by
  subst hown hL
  refine vx_ofW (cc := cc) (maxL := nL) (ret := ret) hy rfl ?_
  intro p e s m args below meth c s₁ B hml ht hv
  obtain ⟨rfl, hHM, hSF⟩ := hv
  rw [lg_entry_eq]
  exact body p e s m _ below meth c ⟨B.exec, B.bytes, B.returns, hml, findClass_of_methodNamed B.named, fun w hw => atoms_spec (ws := ab_ws y cc nL ret) B.pre w (List.mem_cons_of_mem _ hw), B.notSynchronized, hl, hSF, hHM.2.1⟩ ht (name_of_methodNamed B.named B.method).1 s.heap [] _ hHM va_S.rf (lv_entry as hlen)
theorem ab_goodIn {y : MethodName} {cc : ByteArray} {nL : Nat} {ret : Option FieldType} (h : Cond.code y cc nL ret ∈ ab_all) : GoodIn ab_all (ab_ws y cc nL ret) := by
  intro w hw
  rcases List.mem_cons.mp hw with rfl | hw
  · exact ⟨h, ab_all_good h⟩
  · exact ⟨hw, ab_all_good hw⟩
section Calls
variable {p : Program} {l : Launch} {e : Env} {R : Room} {s : State} {m : MethodId} {args : Array Value} {below : List Frame} {meth : Method} {c : Code} {E : ab_E} {base nL : Nat} {Q : State → Prop}
variable {own : String} {cc : ByteArray} {ret : Option FieldType} {x : ab_X} {ad : Nat → Nat} {z : ab_H} {k n pc : Nat} {L : List (Nat × Value)} {st : List Value}
theorem ab_run {Post : ab_P} {a : Array Value} {mc ms : Nat} {st0 : List Value} (C : ab_C p l s m args meth c E base nL own cc ret)
    (hr : ∀ (H : Heap) (locs : List Loc) (ls : Array Slot), ab_HM E base x ad z s H → va_S (ab_A base) s.heap H locs → lv_has ls nL L → vx_Run p l e R s m args below meth c H locs k n mc ms (F0 m pc ls st0) st (ab_qc E base Post a) (ab_xc E base Post) (ab_A base))
    (K : ∀ (v : Option Value) (x1 : ab_X) (ad1 : Nat → Nat) (z1 : ab_H), Post (.inl v) x1 ad1 z1 → ab_W p l e R s m args below meth c E base nL Q x1 ad1 z1 (k + mc) (n + ms) (pc + 3) L (v.toList ++ st))
    (KX : ∀ (X : String) (x1 : ab_X) (ad1 : Nat → Nat) (z1 : ab_H), Post (.inr X) x1 ad1 z1 → ab_WX p l e R s m args below meth c E base nL Q x1 ad1 z1 (k + mc) (n + ms) pc L st X) : ab_W p l e R s m args below meth c E base nL Q x ad z k n pc L st0 := by
  intro H locs ls h1 h2 h3 T hT X
  rcases hr H locs ls h1 h2 h3 T hT X with ⟨v, st₀, t, T', L9, h0, X', hL, e1, e2, ⟨⟨v2, x1, ad1, z1, hv, hp, hm⟩, hF⟩, hst⟩ | ⟨q, st₀, t, T', L9, E9, ce, h0, X', hL, e1, e2, ⟨⟨x1, ad1, z1, hp, hm⟩, hF⟩, hce, hcv, hcl, hst⟩
  · cases hv
    obtain ⟨k1, k2, k3⟩ := vx_keep h0 e1 h2 (fun _ _ h => h) (fun _ h => h) hL hF
    have hA : t.vm.Alike s.vm := by rw [← e2]; exact X'.warmed.alike.symm
    have hm2 : ab_HM E base x1 ad1 z1 s T'.heap := by rw [e1]; exact ab_HM_moved hA hm
    obtain ⟨t2, a1, b1⟩ := K v x1 ad1 z1 hp T'.heap (locs ++ L9) ls hm2 k3 h3 T' rfl X'
    exact ⟨t2, hst t2 a1, b1⟩
  · obtain ⟨k1, k2, k3⟩ := vx_keep h0 e1 h2 (fun _ _ h => h) (fun _ h => h) hL hF
    have hA : t.vm.Alike s.vm := by rw [← e2]; exact X'.warmed.alike.symm
    have hm2 : ab_HM E base x1 ad1 z1 s T'.heap := by rw [e1]; exact ab_HM_moved hA hm
    obtain ⟨t2, a1, b1⟩ := KX E9 x1 ad1 z1 hp T'.heap (locs ++ L9) ls q ce hm2 k3 h3 (by rw [e1]; exact hce) hcv hcl T' rfl X'
    exact ⟨t2, hst.trans a1, b1⟩
theorem ab_pre {H : Heap} {locs : List Loc} {as : List Value} (C : ab_C p l s m args meth c E base nL own cc ret) (h1 : ab_HM E base x ad z s H) (h2 : va_S (ab_A base) s.heap H locs) : ∀ U : State, U.heap = H → s.WarmedH U.vm → va_Pc as (ab_pc E base x ad z) as.toArray U := by
  intro U hU hW
  refine ⟨rfl, ?_, ?_⟩
  · rw [hU]; exact ab_HM_moved hW.alike h1
  · rw [hU]; exact ab_SF_go hW (fun a ha hA => h2.2.1 a ha hA) C.2.2.2.2.2.2.2.2.1
theorem ab_recv {H : Heap} {o ci N : Nat} {C' : String} {T : u_T} {ds : List (Option Nat)} (hc : vwCl[ci]? = some (C', T, N)) (ho : ab_ob x.1 z.2.1 z.2.2.1 o = some (ci, ds)) (h1 : ab_HM E base x ad z s H) : ∃ cellB : Cell, H[ad o]? = some cellB ∧ cellB.vm.isStatics = false ∧ s.vm.findClass C' = some cellB.cls := by
  obtain ⟨hK, hbs, g, hg, hcel, -⟩ := h1
  obtain ⟨⟨r, hr1, cell, q1, q2, q3, q4⟩, -⟩ := hcel o _ (ab_ce_ob ho)
  exact ⟨cell, q1, by rw [q3]; rfl, by rw [q2]; exact (hK.1 ci _ hc).2.1⟩
variable {y : MethodName} {bytes : ByteArray} {maxL : Nat} {ret1 : Option FieldType} {d0 mc0 ms0 d1 mc1 ms1 index : Nat} {As : List Value} {Post : ab_P} {st0 : List Value}
/-- the room fits -/
abbrev ab_fit (d0 mc0 ms0 d1 mc1 ms1 maxL k n : Nat) : Prop := d1 + 1 ≤ d0 ∧ maxL ≤ 41 ∧ k + mc1 ≤ mc0 ∧ n + ms1 ≤ ms0
theorem ab_callB (C : ab_C p l s m args meth c E base nL own cc ret) (hco : Cond.code y bytes maxL ret1 ∈ ab_all) (hin : Cond.initialized y.cls ∈ ab_all) (hli : Cond.methodLink own index y ∈ ab_all) (hd : y.cls ≠ "java/lang/invoke/MethodHandle" ∧ y.cls ≠ "java/lang/invoke/VarHandle" ∧ (parseMethodDescriptor y.desc).map (fun d => d.parameters.length) = some As.length) (hr : ab_fit d0 mc0 ms0 d1 mc1 ms1 maxL k n) :
    CallB (ab_rm d0 mc0 ms0) s args own index y bytes maxL ret1 (ab_ws y bytes maxL ret1) (ab_rm d1 mc1 ms1) mc1 ms1 As.length :=
  callB_of (Ts := ab_all) As.length C.2.2.2.2.2.1 (ab_goodIn hco) rfl rfl rfl (C.2.2.2.2.2.1 _ hin) (C.2.2.2.2.2.1 _ hli) hd ⟨hr.1, by show 8 + (maxL + 11) + (60 * d1 + 100) ≤ 60 * d0 + 100; have := hr.1; have := hr.2.1; omega⟩
theorem ab_callN {host : String} (C : ab_C p l s m args meth c E base nL own cc ret) (hco : Cond.code y bytes maxL ret1 ∈ ab_all) (hin : Cond.initialized y.cls ∈ ab_all) (hli : Cond.methodLinkNest own index y host ∈ ab_nest) (hd : y.cls ≠ "java/lang/invoke/MethodHandle" ∧ y.cls ≠ "java/lang/invoke/VarHandle" ∧ (parseMethodDescriptor y.desc).map (fun d => d.parameters.length) = some As.length) (hr : ab_fit d0 mc0 ms0 d1 mc1 ms1 maxL k n) :
    va_CN (ab_rm d0 mc0 ms0) s args own index y host bytes maxL ret1 (ab_ws y bytes maxL ret1) (ab_rm d1 mc1 ms1) mc1 ms1 As.length :=
  va_cnB (Ts := ab_all) As.length C.2.2.2.2.2.1 (ab_goodIn hco) rfl rfl rfl (C.2.2.2.2.2.2.2.2.1.2.2.2.2.2 _ hli) (C.2.2.2.2.2.1 _ hin) hd ⟨hr.1, by show 8 + (maxL + 11) + (60 * d1 + 100) ≤ 60 * d0 + 100; have := hr.1; have := hr.2.1; omega⟩
theorem ab_room8 {pc : Nat} {ls : Array Slot} {st0 st : List Value} (h : (st.map fun v => v.category).sum ≤ 8) : 2 * (F0 m pc ls st0).monitorRoom + (st.map fun v => v.category).sum ≤ 8 := by
  show 2 * 0 + _ ≤ 8
  omega
abbrev ab_K (p : Program) (l : Launch) (e : Env) (R : Room) (s : State) (m : MethodId) (args : Array Value) (below : List Frame) (meth : Method) (c : Code) (E : ab_E) (base nL : Nat) (Q : State → Prop) (k n pc : Nat) (L : List (Nat × Value)) (st : List Value) (Post : ab_P) : Prop := ∀ (v : Option Value) (x1 : ab_X) (ad1 : Nat → Nat) (z1 : ab_H), Post (.inl v) x1 ad1 z1 → ab_W p l e R s m args below meth c E base nL Q x1 ad1 z1 k n pc L (v.toList ++ st)
abbrev ab_KX (p : Program) (l : Launch) (e : Env) (R : Room) (s : State) (m : MethodId) (args : Array Value) (below : List Frame) (meth : Method) (c : Code) (E : ab_E) (base nL : Nat) (Q : State → Prop) (k n pc : Nat) (L : List (Nat × Value)) (st : List Value) (Post : ab_P) : Prop := ∀ (X : String) (x1 : ab_X) (ad1 : Nat → Nat) (z1 : ab_H), Post (.inr X) x1 ad1 z1 → ab_WX p l e R s m args below meth c E base nL Q x1 ad1 z1 k n pc L st X
theorem a_callS (C : ab_C p l s m args meth c E base nL own cc ret) (hM : ab_M l E base y bytes maxL ret1 d1 mc1 ms1 As x ad z Post) (hco : Cond.code y bytes maxL ret1 ∈ ab_all) (hin : Cond.initialized y.cls ∈ ab_all) (hli : Cond.methodLink own index y ∈ ab_all) (hst : Cond.static y ∈ ab_all) (hd : y.cls ≠ "java/lang/invoke/MethodHandle" ∧ y.cls ≠ "java/lang/invoke/VarHandle" ∧ (parseMethodDescriptor y.desc).map (fun d => d.parameters.length) = some As.length) (hr : ab_fit d0 mc0 ms0 d1 mc1 ms1 maxL k n) (hs : st0 = As.reverse ++ st) (hcat : (st.map fun v => v.category).sum ≤ 8) (d : decode cc pc = .ok (.invokestatic index, 3)) (K : ab_K p l e (ab_rm d0 mc0 ms0) s m args below meth c E base nL Q (k + mc1) (n + ms1) (pc + 3) L st Post) (KX : ab_KX p l e (ab_rm d0 mc0 ms0) s m args below meth c E base nL Q (k + mc1) (n + ms1) pc L st Post) : ab_W p l e (ab_rm d0 mc0 ms0) s m args below meth c E base nL Q x ad z k n pc L st0 :=
  ab_run C (fun H locs ls h1 h2 h3 => vx_runS (As := As) ⟨C.1, C.2.1, C.2.2.2.1, C.2.2.2.2.1, C.2.2.2.2.2.1⟩ hM ⟨ab_callB (As := As) C hco hin hli hd hr, C.2.2.2.2.2.1 _ hst⟩ ⟨ab_blind, ab_pre C h1 h2⟩ rfl rfl h3.1 hs (ab_room8 hcat) d ⟨hr.2.2.1, hr.2.2.2⟩) K KX
theorem a_callV {o ci N : Nat} {T : u_T} {ds : List (Option Nat)} (C : ab_C p l s m args meth c E base nL own cc ret) (hM : ab_M l E base y bytes maxL ret1 d1 mc1 ms1 (.ref (ad o) :: As) x ad z Post) (hco : Cond.code y bytes maxL ret1 ∈ ab_all) (hin : Cond.initialized y.cls ∈ ab_all) (hli : Cond.methodLink own index y ∈ ab_all) (him : Cond.instanceMethod y ∈ ab_all) (hse : Cond.selects y.cls y y ∈ ab_all) (hc : vwCl[ci]? = some (y.cls, T, N)) (ho : ab_ob x.1 z.2.1 z.2.2.1 o = some (ci, ds)) (hd : y.cls ≠ "java/lang/invoke/MethodHandle" ∧ y.cls ≠ "java/lang/invoke/VarHandle" ∧ (parseMethodDescriptor y.desc).map (fun d => d.parameters.length) = some As.length) (hr : ab_fit d0 mc0 ms0 d1 mc1 ms1 maxL k n) (hs : st0 = As.reverse ++ .ref (ad o) :: st) (hcat : (st.map fun v => v.category).sum ≤ 8) (d : decode cc pc = .ok (.invokevirtual index, 3)) (K : ab_K p l e (ab_rm d0 mc0 ms0) s m args below meth c E base nL Q (k + mc1) (n + ms1) (pc + 3) L st Post) (KX : ab_KX p l e (ab_rm d0 mc0 ms0) s m args below meth c E base nL Q (k + mc1) (n + ms1) pc L st Post) : ab_W p l e (ab_rm d0 mc0 ms0) s m args below meth c E base nL Q x ad z k n pc L st0 :=
  ab_run C (fun H locs ls h1 h2 h3 => vx_runV (As := As) (C := y.cls) ⟨C.1, C.2.1, C.2.2.2.1, C.2.2.2.2.1, C.2.2.2.2.2.1⟩ hM ⟨ab_callB (As := As) C hco hin hli hd hr, C.2.2.2.2.2.1 _ him, C.2.2.2.2.2.1 _ hse⟩ ⟨ab_blind, ab_recv hc ho h1, ab_pre C h1 h2⟩ rfl rfl h3.1 hs (ab_room8 hcat) d ⟨hr.2.2.1, hr.2.2.2⟩) K KX
theorem a_callSN {host : String} (C : ab_C p l s m args meth c E base nL own cc ret) (hM : ab_M l E base y bytes maxL ret1 d1 mc1 ms1 As x ad z Post) (hco : Cond.code y bytes maxL ret1 ∈ ab_all) (hin : Cond.initialized y.cls ∈ ab_all) (hli : Cond.methodLinkNest own index y host ∈ ab_nest) (hst : Cond.static y ∈ ab_all) (hd : y.cls ≠ "java/lang/invoke/MethodHandle" ∧ y.cls ≠ "java/lang/invoke/VarHandle" ∧ (parseMethodDescriptor y.desc).map (fun d => d.parameters.length) = some As.length) (hr : ab_fit d0 mc0 ms0 d1 mc1 ms1 maxL k n) (hs : st0 = As.reverse ++ st) (hcat : (st.map fun v => v.category).sum ≤ 8) (d : decode cc pc = .ok (.invokestatic index, 3)) (K : ab_K p l e (ab_rm d0 mc0 ms0) s m args below meth c E base nL Q (k + mc1) (n + ms1) (pc + 3) L st Post) (KX : ab_KX p l e (ab_rm d0 mc0 ms0) s m args below meth c E base nL Q (k + mc1) (n + ms1) pc L st Post) : ab_W p l e (ab_rm d0 mc0 ms0) s m args below meth c E base nL Q x ad z k n pc L st0 :=
  ab_run C (fun H locs ls h1 h2 h3 => vx_runSN (As := As) ⟨C.1, C.2.1, C.2.2.2.1, C.2.2.2.2.1, C.2.2.2.2.2.1⟩ hM ⟨ab_callN (As := As) C hco hin hli hd hr, C.2.2.2.2.2.1 _ hst, trivial⟩ ⟨ab_blind, ab_pre C h1 h2⟩ rfl rfl h3.1 hs (ab_room8 hcat) d ⟨hr.2.2.1, hr.2.2.2⟩) K KX
theorem a_callVN {host : String} {o ci N : Nat} {T : u_T} {ds : List (Option Nat)} (C : ab_C p l s m args meth c E base nL own cc ret) (hM : ab_M l E base y bytes maxL ret1 d1 mc1 ms1 (.ref (ad o) :: As) x ad z Post) (hco : Cond.code y bytes maxL ret1 ∈ ab_all) (hin : Cond.initialized y.cls ∈ ab_all) (hli : Cond.methodLinkNest own index y host ∈ ab_nest) (him : Cond.instanceMethod y ∈ ab_all) (hse : Cond.selects y.cls y y ∈ ab_all) (hc : vwCl[ci]? = some (y.cls, T, N)) (ho : ab_ob x.1 z.2.1 z.2.2.1 o = some (ci, ds)) (hd : y.cls ≠ "java/lang/invoke/MethodHandle" ∧ y.cls ≠ "java/lang/invoke/VarHandle" ∧ (parseMethodDescriptor y.desc).map (fun d => d.parameters.length) = some As.length) (hr : ab_fit d0 mc0 ms0 d1 mc1 ms1 maxL k n) (hs : st0 = As.reverse ++ .ref (ad o) :: st) (hcat : (st.map fun v => v.category).sum ≤ 8) (d : decode cc pc = .ok (.invokevirtual index, 3)) (K : ab_K p l e (ab_rm d0 mc0 ms0) s m args below meth c E base nL Q (k + mc1) (n + ms1) (pc + 3) L st Post) (KX : ab_KX p l e (ab_rm d0 mc0 ms0) s m args below meth c E base nL Q (k + mc1) (n + ms1) pc L st Post) : ab_W p l e (ab_rm d0 mc0 ms0) s m args below meth c E base nL Q x ad z k n pc L st0 :=
  ab_run C (fun H locs ls h1 h2 h3 => vx_runVN (As := As) (C := y.cls) ⟨C.1, C.2.1, C.2.2.2.1, C.2.2.2.2.1, C.2.2.2.2.2.1⟩ hM ⟨ab_callN (As := As) C hco hin hli hd hr, C.2.2.2.2.2.1 _ him, C.2.2.2.2.2.1 _ hse⟩ ⟨ab_blind, ab_recv hc ho h1, ab_pre C h1 h2⟩ rfl rfl h3.1 hs (ab_room8 hcat) d ⟨hr.2.2.1, hr.2.2.2⟩) K KX
theorem ab_recvL {H : Heap} {o : Nat} (ho : o = 1 ∨ o = 3) (hx : x.1 ≠ 0) (h1 : ab_HM E base x ad z s H) : ∃ cellB : Cell, H[ad o]? = some cellB ∧ cellB.vm.isStatics = false ∧ s.vm.findClass RJx4a65c = some cellB.cls := by
  obtain ⟨hK, hbs, g, hg, hcel, -⟩ := h1
  have hc : vwCl[0]? = some (RJx4a65c, TJx4a65c, 3) := rfl
  have he : ∃ fs, ab_ce E x ad g z o = some (.inr (0, fs)) := by
    rcases ho with rfl | rfl
    · exact ⟨_, ab_ce_l1 hx⟩
    · exact ⟨_, ab_ce_l3 hx⟩
  obtain ⟨fs, he⟩ := he
  obtain ⟨⟨r, hr1, cell, q1, q2, q3, q4⟩, -⟩ := hcel o _ he
  exact ⟨cell, q1, by rw [q3]; rfl, by rw [q2]; exact (hK.1 0 _ hc).2.1⟩
theorem a_callL {o : Nat} (C : ab_C p l s m args meth c E base nL own cc ret) (hM : ab_M l E base y bytes maxL ret1 d1 mc1 ms1 (.ref (ad o) :: As) x ad z Post) (hco : Cond.code y bytes maxL ret1 ∈ ab_all) (hin : Cond.initialized y.cls ∈ ab_all) (hli : Cond.methodLink own index y ∈ ab_all) (him : Cond.instanceMethod y ∈ ab_all) (hse : Cond.selects y.cls y y ∈ ab_all) (hy : y.cls = RJx4a65c) (ho : o = 1 ∨ o = 3) (hx : x.1 ≠ 0) (hd : y.cls ≠ "java/lang/invoke/MethodHandle" ∧ y.cls ≠ "java/lang/invoke/VarHandle" ∧ (parseMethodDescriptor y.desc).map (fun d => d.parameters.length) = some As.length) (hr : ab_fit d0 mc0 ms0 d1 mc1 ms1 maxL k n) (hs : st0 = As.reverse ++ .ref (ad o) :: st) (hcat : (st.map fun v => v.category).sum ≤ 8) (d : decode cc pc = .ok (.invokevirtual index, 3)) (K : ab_K p l e (ab_rm d0 mc0 ms0) s m args below meth c E base nL Q (k + mc1) (n + ms1) (pc + 3) L st Post) (KX : ab_KX p l e (ab_rm d0 mc0 ms0) s m args below meth c E base nL Q (k + mc1) (n + ms1) pc L st Post) : ab_W p l e (ab_rm d0 mc0 ms0) s m args below meth c E base nL Q x ad z k n pc L st0 :=
  ab_run C (fun H locs ls h1 h2 h3 => vx_runV (As := As) (C := y.cls) ⟨C.1, C.2.1, C.2.2.2.1, C.2.2.2.2.1, C.2.2.2.2.2.1⟩ hM ⟨ab_callB (As := As) C hco hin hli hd hr, C.2.2.2.2.2.1 _ him, C.2.2.2.2.2.1 _ hse⟩ ⟨ab_blind, by rw [hy]; exact ab_recvL ho hx h1, ab_pre C h1 h2⟩ rfl rfl h3.1 hs (ab_room8 hcat) d ⟨hr.2.2.1, hr.2.2.2⟩) K KX
theorem a_ccast {o ci N index : Nat} {C' : String} {T : u_T} {ds : List (Option Nat)} (C : ab_C p l s m args meth c E base nL own cc ret) (hc : vwCl[ci]? = some (C', T, N)) (ho : ab_ob x.1 z.2.1 z.2.2.1 o = some (ci, ds)) (hl : Cond.classLink own index C' ∈ ab_all) (d : decode cc pc = .ok (.checkcast index, 3)) (K : ab_W p l e R s m args below meth c E base nL Q x ad z k n (pc+3) L (.ref (ad o) :: st)) : ab_W p l e R s m args below meth c E base nL Q x ad z k n pc L (.ref (ad o) :: st) :=
  fun H lo ls h1 h2 h3 => va_castS C.1 C.2.1 C.2.2.2.2.1 (C.2.2.2.2.2.1 _ hl) (h1.1.1 ci _ hc).2 (ab_recv hc ho h1) d (K H lo ls h1 h2 h3)
theorem a_null (C : ab_C p l s m args meth c E base nL own cc ret) (d : decode cc pc = .ok (.aconst_null, 1)) (K : ab_W p l e R s m args below meth c E base nL Q x ad z k n (pc+1) L (.null :: st)) : ab_W p l e R s m args below meth c E base nL Q x ad z k n pc L st :=
  fun H lo ls h1 h2 h3 => lv_null C.1 C.2.1 d (K H lo ls h1 h2 h3)
/-- a call that returns one value -/
theorem a_dR {R : Room} {v : Value} {x1 : ab_X} {ad1 : Nat → Nat} {z1 : ab_H} (K : ab_W p l e R s m args below meth c E base nL Q x1 ad1 z1 k n pc L (v :: st)) : ab_K p l e R s m args below meth c E base nL Q k n pc L st (ab_R v x1 ad1 z1) := by
  intro w x2 ad2 z2 h
  obtain ⟨h1, rfl, rfl, rfl⟩ := h
  cases h1
  exact K
theorem a_dV {R : Room} {x1 : ab_X} {ad1 : Nat → Nat} {z1 : ab_H} (K : ab_W p l e R s m args below meth c E base nL Q x1 ad1 z1 k n pc L st) : ab_K p l e R s m args below meth c E base nL Q k n pc L st (ab_V x1 ad1 z1) := by
  intro w x2 ad2 z2 h
  obtain ⟨h1, rfl, rfl, rfl⟩ := h
  cases h1
  exact K
theorem a_nR {R : Room} {v : Value} {x1 : ab_X} {ad1 : Nat → Nat} {z1 : ab_H} : ab_KX p l e R s m args below meth c E base nL Q k n pc L st (ab_R v x1 ad1 z1) := fun X _ _ _ h => by cases h.1
theorem a_nV {R : Room} {x1 : ab_X} {ad1 : Nat → Nat} {z1 : ab_H} : ab_KX p l e R s m args below meth c E base nL Q k n pc L st (ab_V x1 ad1 z1) := fun X _ _ _ h => by cases h.1
theorem a_nT {R : Room} {X : String} {x1 : ab_X} {ad1 : Nat → Nat} {z1 : ab_H} : ab_K p l e R s m args below meth c E base nL Q k n pc L st (ab_T X x1 ad1 z1) := fun w _ _ _ h => by cases h.1
theorem a_dT {R : Room} {X : String} {x1 : ab_X} {ad1 : Nat → Nat} {z1 : ab_H} (K : ab_WX p l e R s m args below meth c E base nL Q x1 ad1 z1 k n pc L st X) : ab_KX p l e R s m args below meth c E base nL Q k n pc L st (ab_T X x1 ad1 z1) := by
  intro w x2 ad2 z2 h
  obtain ⟨h1, rfl, rfl, rfl⟩ := h
  cases h1
  exact K
end Calls
section Ends
variable {p : Program} {l : Launch} {e : Env} {R : Room} {s : State} {m : MethodId} {args : Array Value} {below : List Frame} {meth : Method} {c : Code} {E : ab_E} {base nL : Nat}
variable {own : String} {cc : ByteArray} {ret : Option FieldType} {x : ab_X} {ad : Nat → Nat} {z : ab_H} {k n pc mc ms : Nat} {L : List (Nat × Value)} {st : List Value} {Post : ab_P}
/-- what a method's body owes -/
abbrev ab_Q (below : List Frame) (E : ab_E) (base : Nat) (Post : ab_P) (args : Array Value) (s : State) (mc ms : Nat) : State → Prop := vx_MQ below (ab_qc E base Post) (ab_xc E base Post) args s mc ms (ab_A base)
theorem ab_end {H : Heap} {locs : List Loc} {v : Option Value} (hP : Post (.inl v) x ad z) (h1 : ab_HM E base x ad z s H) (h2 : va_S (ab_A base) s.heap H locs) : ∀ t : State, t.heap = H → s.WarmedH t.vm → ab_qc E base Post args s (.returned v) t :=
  fun t ht hW => ⟨⟨v, x, ad, z, rfl, hP, by rw [ht]; exact ab_HM_moved hW.alike h1⟩, h2.F ht⟩
theorem a_iret {v : Int} (C : ab_C p l s m args meth c E base nL own cc (some .int)) (hP : Post (.inl (some (ii_v v))) x ad z) (hk : k ≤ mc) (hn : n ≤ ms) (d : decode cc pc = .ok (.ireturn, 1)) : ab_W p l e R s m args below meth c E base nL (ab_Q below E base Post args s mc ms) x ad z k n pc L [ii_v v] :=
  fun H lo ls h1 h2 h3 => vx_ret (W.widen hk hn (W.iret C.1 C.2.1 C.2.2.1 (ab_end hP h1 h2) h2.2.2 d C.2.2.2.2.2.2.1))
theorem a_zret {v : Int} {ty : FieldType} (C : ab_C p l s m args meth c E base nL own cc (some ty)) (hv : narrow ty (ii_v v) = ii_v v) (hP : Post (.inl (some (ii_v v))) x ad z) (hk : k ≤ mc) (hn : n ≤ ms) (d : decode cc pc = .ok (.ireturn, 1)) : ab_W p l e R s m args below meth c E base nL (ab_Q below E base Post args s mc ms) x ad z k n pc L [ii_v v] :=
  fun H lo ls h1 h2 h3 => vx_ret (W.widen hk hn (W.zret C.1 C.2.1 C.2.2.1 hv (ab_end hP h1 h2) h2.2.2 d C.2.2.2.2.2.2.1))
theorem ii_nb {P : Prop} [Decidable P] : narrow .boolean (ii_v (if P then 1 else 0)) = ii_v (if P then 1 else 0) := by
  split <;> decide
theorem a_aret {v : Nat} {rt : FieldType} (C : ab_C p l s m args meth c E base nL own cc (some rt)) (hrt : (∃ n, rt = .object n) ∨ ∃ t, rt = .array t) (hP : Post (.inl (some (.ref v))) x ad z) (hk : k ≤ mc) (hn : n ≤ ms) (d : decode cc pc = .ok (.areturn, 1)) : ab_W p l e R s m args below meth c E base nL (ab_Q below E base Post args s mc ms) x ad z k n pc L [.ref v] :=
  fun H lo ls h1 h2 h3 => vx_ret (W.widen hk hn (W.aret C.1 C.2.1 C.2.2.1 hrt (Or.inr ⟨v, rfl⟩) (ab_end hP h1 h2) h2.2.2 d C.2.2.2.2.2.2.1))
theorem a_vret (C : ab_C p l s m args meth c E base nL own cc none) (hP : Post (.inl none) x ad z) (hk : k ≤ mc) (hn : n ≤ ms) (d : decode cc pc = .ok (.return_, 1)) : ab_W p l e R s m args below meth c E base nL (ab_Q below E base Post args s mc ms) x ad z k n pc L [] :=
  fun H lo ls h1 h2 h3 => vx_ret (W.widen hk hn (W.vret C.1 C.2.1 C.2.2.1 (ab_end hP h1 h2) h2.2.2 d C.2.2.2.2.2.2.1))
/-- not caught here -/
theorem a_out {X : String} (C : ab_C p l s m args meth c E base nL own cc ret) (T0 : ∀ q ∈ c.exceptionTable.toList, False) (hP : Post (.inr X) x ad z) (hk : k ≤ mc) (hn : n ≤ ms) : ab_WX p l e R s m args below meth c E base nL (ab_Q below E base Post args s mc ms) x ad z k n pc L st X :=
  fun H lo ls q ce h1 h2 h3 h4 h5 h6 => vx_out (fun q hq => (T0 q hq).elim) C.2.2.2.2.2.2.1 h4 h5 h6 (fun t ht hA => ⟨⟨x, ad, z, hP, by rw [ht]; exact ab_HM_moved hA h1⟩, h2.F ht⟩) h2.2.2 hk hn
end Ends
