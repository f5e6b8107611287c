/-! ArrayList.add. -/
/-- all that is known of the heap, as a list -/
def aw_ls (cw : Nat → Option va_E) (n : Nat) : va_W := (List.range n).filterMap (fun a => (cw a).map (fun e => (a, e)))
theorem aw_ls_in {cw : Nat → Option va_E} {n a : Nat} {e : va_E} (h : cw a = some e) (hn : a < n) : ∃ k : Nat, (aw_ls cw n)[k]? = some (a, e) := by
  have hm : (a, e) ∈ aw_ls cw n := List.mem_filterMap.mpr ⟨a, List.mem_range.mpr hn, by rw [h]; rfl⟩
  exact List.getElem?_of_mem hm
theorem aw_ls_of {cw : Nat → Option va_E} {n k : Nat} {q : Nat × va_E} (h : (aw_ls cw n)[k]? = some q) : cw q.1 = some q.2 := by
  obtain ⟨a, -, ha⟩ := List.mem_filterMap.mp (List.mem_of_getElem? h)
  cases hc : cw a with
  | none => rw [hc] at ha; cases ha
  | some e => rw [hc] at ha; cases ha; exact hc
theorem aw_ls_nd {cw : Nat → Option va_E} : ∀ {n i j : Nat} {p q : Nat × va_E} (_ : (aw_ls cw n)[i]? = some p) (_ : (aw_ls cw n)[j]? = some q) (_ : p.1 = q.1), i = j := by
  intro n i j p q hp hq h
  have hpw : List.Pairwise (fun p q : Nat × va_E => p.1 < q.1) (aw_ls cw n) := by
    unfold aw_ls
    rw [List.pairwise_filterMap]
    refine List.Pairwise.imp ?_ List.pairwise_lt_range
    intro a b hab p hp q hq
    cases ha : cw a with
    | none => rw [ha] at hp; cases hp
    | some e =>
      cases hb : cw b with
      | none => rw [hb] at hq; cases hq
      | some e2 =>
        rw [ha] at hp
        rw [hb] at hq
        cases hp
        cases hq
        exact hab
  obtain ⟨hi, hpe⟩ := List.getElem?_eq_some_iff.mp hp
  obtain ⟨hj, hqe⟩ := List.getElem?_eq_some_iff.mp hq
  rw [List.pairwise_iff_getElem] at hpw
  rcases Nat.lt_trichotomy i j with hl | hl | hl
  · have := hpw i j hi hj hl
    rw [hpe, hqe] at this
    omega
  · exact hl
  · have := hpw j i hj hi hl
    rw [hpe, hqe] at this
    omega
section ListW
variable {p : Program} {l : Launch} {e : Env} {R : Room} {s : State} {m : MethodId} {args : Array Value} {below : List Frame} {meth : Method} {c : Code} {E : ab_E} {base nL : Nat} {Q : State → Prop}
variable {own : String} {cc : ByteArray} {ret : Option FieldType} {cw : Nat → Option va_E} {k n pc : Nat} {L : List (Nat × Value)} {st : List Value}
theorem w_copy {a b N M ci d0 mc0 ms0 : Nat} {rr : vw_C} {f g : Nat → Option Nat} (C : ab_C p l s m args meth c E base nL RJ7 cc ret) (ha : cw a = some (aw_ra E N f)) (hb : cw b = some (aw_ra E M g)) (hrr : vwCl[ci]? = some rr) (hca : Cond.castable rr.1 "java/lang/Object" ∈ ab_nest) (hel : ∀ i : Nat, i < N → ∀ y : Nat, f i = some y → ∃ fs : List Value, cw y = some (.inr (ci, fs))) (hNM : N ≤ M) (hM : M < 1000) (hd : 1 ≤ d0) (d : decode cc pc = .ok (.invokestatic 150, 3))
    (K : aw_W p l e (ab_rm d0 mc0 ms0) s m args below meth c E base nL Q (aw_up cw b (aw_ra E M (va_cpy f g 0 0 N))) k n (pc + 3) L []) : aw_W p l e (ab_rm d0 mc0 ms0) s m args below meth c E base nL Q cw k n pc L [ii_v ((N : Nat) : Int), ii_v 0, .ref b, ii_v 0, .ref a] := by
  intro H lo ls h1 h2 h3
  have hts := C.2.2.2.2.2.1
  have hla := va_at_lt (h1.2.2 a _ ha).1
  have hlb := va_at_lt (h1.2.2 b _ hb).1
  obtain ⟨q0, hq0⟩ := aw_ls_in ha hla
  obtain ⟨q1, hq1⟩ := aw_ls_in hb hlb
  have hP : va_P E.1 vwCl (aw_ls cw H.size) H := fun k q hk => (h1.2.2 q.1 q.2 (aw_ls_of hk)).1
  have hD : va_D (ab_A base) (aw_ls cw H.size) := ⟨fun i j p q hi hj h => aw_ls_nd hi hj h, fun k q hk => (h1.2.2 q.1 q.2 (aw_ls_of hk)).2⟩
  have hcN : (ii_n (N : Int)).toNatClampNeg = N := ii_clampN (by omega)
  have hc0 : (ii_n 0).toNatClampNeg = 0 := ii_clampN (k := 0) (by omega)
  have hB0 : ii_B (N : Int) := ⟨by omega, by omega⟩
  have hz : ¬ ii_n 0 < 0 := fun q => absurd ((ii_lt ii_B0 ii_B0).mp q) (by omega)
  have hloc : ((([] : List Value).map fun v => v.category).sum) + (nativeFrameWords "java/lang/System" "arraycopy" 5 + 11) ≤ (ab_rm d0 mc0 ms0).locals := by
    have hw : nativeFrameWords "java/lang/System" "arraycopy" 5 ≤ 60 := by decide +kernel
    show 0 + _ ≤ 60 * d0 + 100
    omega
  refine va_copyq (D := E.1) (cl := vwCl) (tys := ab_tys E) (A := ab_A base) (H0 := s.heap) (C := rr.1) C.1 C.2.1 (C.2.2.2.1.trans h3.1.symm) C.2.2.2.2.1 (hts _ ml_J7_150) (hts _ nt_System_arraycopy) (hts _ (List.mem_filter.mpr ⟨List.mem_of_getElem? (i := 673) (by decide +kernel), rfl⟩)) (hts _ (List.mem_filter.mpr ⟨List.mem_of_getElem? (i := 111) (by decide +kernel), rfl⟩)) h1.1 hP hD h2 q0 q1 2 2 hq0 hq1 rfl rfl hz hz (fun q => absurd ((ii_lt hB0 ii_B0).mp q) (by omega)) (by rw [hc0, hcN]; omega) (by rw [hc0, hcN]; omega) (fun i hi y hy => ?_) (fun comp c0 => vb_asgC (C.2.2.2.2.2.2.2.2.1.2.2.2.2.2 _ hca) comp c0) hd hloc d (fun H1 locs1 hP1 hD1 hS1 => ?_)
  · rw [hc0, Nat.zero_add] at hy
    rw [hcN] at hi
    obtain ⟨fs, hfs⟩ := hel i hi y hy
    obtain ⟨r', T, M'⟩ := rr
    exact aw_recv hrr hfs h1
  · rw [hc0, hcN] at hP1 hD1
    refine K H1 locs1 ls ⟨h1.1, Nat.le_trans C.2.2.2.2.2.2.2.2.2 hS1.1, fun x e0 hx => ?_⟩ hS1 h3
    by_cases hxb : x = b
    · subst hxb
      rw [aw_up_s] at hx
      cases hx
      have hk : ((aw_ls cw H.size).set q1 (x, aw_ra E M (va_cpy f g 0 0 N)))[q1]? = some (x, aw_ra E M (va_cpy f g 0 0 N)) := by
        rw [List.getElem?_set_self (List.getElem?_eq_some_iff.mp hq1).1]
      exact ⟨hP1 q1 _ hk, (h1.2.2 x _ hb).2⟩
    · rw [aw_up_o _ hxb] at hx
      obtain ⟨k0, hk0⟩ := aw_ls_in hx (va_at_lt (h1.2.2 x _ hx).1)
      have hne : q1 ≠ k0 := fun z => by
        rw [← z, hq1] at hk0
        cases hk0
        exact hxb rfl
      have hk : ((aw_ls cw H.size).set q1 (b, aw_ra E M (va_cpy f g 0 0 N)))[k0]? = some (x, e0) := by
        rw [List.getElem?_set_ne hne]
        exact hk0
      exact ⟨hP1 k0 _ hk, (h1.2.2 x _ hx).2⟩
theorem w_ldcM {mi index : Nat} (C : ab_C p l s m args meth c E base nL own cc ret) (hl : Cond.classLink own index "[Ljava/lang/Object;" ∈ ab_all) (hM : va_Mi "[Ljava/lang/Object;" mi s) (d : decode cc pc = .ok (.ldc index, 2)) (K : aw_W p l e R s m args below meth c E base nL Q cw k n (pc + 2) L (.ref mi :: st)) : aw_W p l e R s m args below meth c E base nL Q cw k n pc L st :=
  fun H lo ls h1 h2 h3 => va_ldcM C.1 C.2.1 C.2.2.2.2.1 (C.2.2.2.2.2.1 _ hl) hM d (K H lo ls h1 h2 h3)
theorem w_getC {a mi N d0 mc0 ms0 : Nat} {f : Nat → Option Nat} (C : ab_C p l s m args meth c E base nL RJ7 cc ret) (ha : cw a = some (aw_ra E N f)) (hM : va_Mi "[Ljava/lang/Object;" mi s) (d : decode cc pc = .ok (.invokevirtual 86, 3)) (hd : 1 ≤ d0) (hcat : (st.map fun v => v.category).sum ≤ 8)
    (K : aw_W p l e (ab_rm d0 mc0 ms0) s m args below meth c E base nL Q cw k n (pc + 3) L (.ref mi :: st)) : aw_W p l e (ab_rm d0 mc0 ms0) s m args below meth c E base nL Q cw k n pc L (.ref a :: st) := by
  intro H lo ls h1 h2 h3
  have hts := C.2.2.2.2.2.1
  refine va_getC (C := "[Ljava/lang/Object;") C.1 C.2.1 (C.2.2.2.1.trans h3.1.symm) C.2.2.2.2.1 (hts _ ml_J7_86) (va_Nw.use rfl (C.2.2.2.2.2.2.2.2.1.2.2.2.2.2 _ dc_1753)) (hts _ (List.mem_filter.mpr ⟨List.mem_of_getElem? (i := 1752) (by decide +kernel), rfl⟩)) (hts _ (List.mem_filter.mpr ⟨List.mem_of_getElem? (i := 643) (by decide +kernel), rfl⟩)) (hts _ nt_Object_getClass) hM ⟨_, (h1.2.2 a _ ha).1, rfl, ?_⟩ hd (by show _ + 14 ≤ 60 * d0 + 100; omega) d (K H lo ls h1 h2 h3)
  obtain ⟨kA, comp, -, -, -, h4⟩ := (h1.1.2 2 _ rfl).2
  exact h4
/-- a contract that is told an array class' object -/
def aw_MM (mi : Nat) (l : Launch) (E : ab_E) (base : Nat) (y : MethodName) (cc : ByteArray) (nL : Nat) (ret : Option FieldType) (d mc ms : Nat) (as : List Value) (cw : Nat → Option va_E) (Post : Option Value → (Nat → Option va_E) → Prop) : Prop :=
  vx_Met l y (ab_ws y cc nL ret) (ab_rm d mc ms) (va_Pc as (fun U => (aw_HM E base cw U U.heap ∧ ab_SF base E U U.heap) ∧ va_Mi "[Ljava/lang/Object;" mi U)) (aw_qc E base Post) aw_no mc ms (ab_A base)
theorem aw_ofM {mi : Nat} {l : Launch} {E : ab_E} {base : Nat} {y : MethodName} {cc : ByteArray} {nL : Nat} {ret : Option FieldType} {d mc ms : Nat} {as : List Value} {cw : Nat → Option va_E} {Post : Option Value → (Nat → Option va_E) → Prop} (own : String) (L0 : List (Nat × Value)) (hl : l.stackTraces = false) (hy : plainName y.cls = true) (hown : y.cls = own) (hlen : (lg_sl as).length ≤ nL) (hL : lv_args 0 as = L0)
    (body : ∀ (p : Program) (e : Env) (s : State) (m : MethodId) (args : Array Value) (below : List Frame) (meth : Method) (c : Code), ab_C p l s m args meth c E base nL own cc ret → meth.name = y.name → va_Mi "[Ljava/lang/Object;" mi s →
      aw_W p l e (ab_rm d mc ms) s m args below meth c E base nL (vx_MQ below (aw_qc E base Post) aw_no args s mc ms (ab_A base)) cw 0 0 0 L0 []) : aw_MM mi l E base y cc nL ret d mc ms as cw Post := by
  subst hown hL
  refine vx_ofW (cc := cc) (maxL := nL) (ret := ret) hy rfl ?_
  intro p e s m args below meth c s₁ B hml ht hv
  obtain ⟨rfl, ⟨hHM, hSF⟩, hmi⟩ := hv
  rw [lg_entry_eq]
  exact body p e s m _ below meth c ⟨B.exec, B.bytes, B.returns, hml, findClass_of_methodNamed B.named, fun w hw => atoms_spec (ws := ab_ws y cc nL ret) B.pre w (List.mem_cons_of_mem _ hw), B.notSynchronized, hl, hSF, hHM.2.1⟩ (name_of_methodNamed B.named B.method).1 hmi s.heap [] _ hHM va_S.rf (lv_entry as hlen)
theorem w_callSM {mi : Nat} {y : MethodName} {bytes : ByteArray} {maxL : Nat} {ret1 : Option FieldType} {d0 mc0 ms0 d1 mc1 ms1 index : Nat} {As : List Value} {Post : Option Value → (Nat → Option va_E) → Prop} {st0 : List Value} (C : ab_C p l s m args meth c E base nL own cc ret) (hmi : va_Mi "[Ljava/lang/Object;" mi s) (hM : aw_MM mi l E base y bytes maxL ret1 d1 mc1 ms1 As cw Post) (hco : Cond.code y bytes maxL ret1 ∈ ab_all) (hin : Cond.initialized y.cls ∈ ab_all) (hli : Cond.methodLink own index y ∈ ab_all) (hst : Cond.static y ∈ ab_all) (hd : y.cls ≠ "java/lang/invoke/MethodHandle" ∧ y.cls ≠ "java/lang/invoke/VarHandle" ∧ (parseMethodDescriptor y.desc).map (fun d => d.parameters.length) = some As.length) (hr : ab_fit d0 mc0 ms0 d1 mc1 ms1 maxL k n) (hs : st0 = As.reverse ++ st) (hcat : (st.map fun v => v.category).sum ≤ 8) (d : decode cc pc = .ok (.invokestatic index, 3))
    (K : ∀ (v : Option Value) (cw1 : Nat → Option va_E), Post v cw1 → aw_W p l e (ab_rm d0 mc0 ms0) s m args below meth c E base nL Q cw1 (k + mc1) (n + ms1) (pc + 3) L (v.toList ++ st)) : aw_W p l e (ab_rm d0 mc0 ms0) s m args below meth c E base nL Q cw k n pc L st0 :=
  aw_run C (fun H locs ls h1 h2 h3 => vx_runS (As := As) ⟨C.1, C.2.1, C.2.2.2.1, C.2.2.2.2.1, C.2.2.2.2.2.1⟩ hM ⟨ab_callB (As := As) C hco hin hli hd hr, C.2.2.2.2.2.1 _ hst⟩ ⟨fun a U g mk h => ⟨h.1, ⟨aw_HM_moved (u := U) (U := U.calling g mk a) (Vm.Alike.refl U.vm) h.2.1.1, ab_SF_same (u := U) (U := U.calling g mk a) rfl h.2.1.2⟩, va_Mi.moved (u := U) (U := U.calling g mk a) (Vm.Alike.refl U.vm) h.2.2⟩, fun U hU hW => ⟨rfl, (aw_pre (as := As) C h1 h2 U hU hW).2, va_Mi.moved hW.alike hmi⟩⟩ rfl rfl h3.1 hs (ab_room8 hcat) d ⟨hr.2.2.1, hr.2.2.2⟩) K
end ListW
set_option maxRecDepth 20000 in
set_option maxHeartbeats 4000000 in
theorem l_newLen {l : Launch} {E : ab_E} {base : Nat} (hl : l.stackTraces = false) (cw : Nat → Option va_E) (o a0 b0 : Int) (ho : 1 ≤ o ∧ o ≤ 1000) (h0 : 0 ≤ a0 ∧ a0 ≤ 1000) (h1 : 0 ≤ b0 ∧ b0 ≤ 1000)  : aw_M l E base yJ8_newLength_cabcc cJ8_newLength_cabcc 4 (some .int) 2 0 0 [ii_v o, ii_v a0, ii_v b0] cw (fun v c1 => v = some (ii_v (o + max a0 b0)) ∧ ∀ b : Nat, c1 b = cw b) := by
  obtain ⟨Post, hPost⟩ : ∃ P : Option Value → (Nat → Option va_E) → Prop, P = (fun v c1 => v = some (ii_v (o + max a0 b0)) ∧ ∀ b : Nat, c1 b = cw b) := ⟨_, rfl⟩
  rw [← hPost]
  refine aw_of RJ8 [(0, ii_v o), (1, ii_v a0), (2, ii_v b0)] hl (by decide) rfl (Nat.le_of_ble_eq_true rfl) rfl ?_
  intro p e s m args below meth c C hnm
  refine w_iload_n C dJ8_newLength_cabcc_0 rfl ?_
  refine w_iload_n C dJ8_newLength_cabcc_1 rfl ?_
  refine w_iload_n C dJ8_newLength_cabcc_2 rfl ?_
  refine w_max C ml_J8_194 dJ8_newLength_cabcc_3 (by decide) (Nat.le_of_ble_eq_true rfl) (by omega) (by unfold ii_B; omega) (by unfold ii_B; omega) ?_
  refine w_iadd C dJ8_newLength_cabcc_6 ?_
  refine w_istore_n (L' := [(0, ii_v o), (1, ii_v a0), (2, ii_v b0), (3, ii_v (o + (max a0 b0)))]) C dJ8_newLength_cabcc_7 (by decide) rfl ?_
  refine w_iconst C dJ8_newLength_cabcc_8 ?_
  refine w_iload_n C dJ8_newLength_cabcc_9 rfl ?_
  refine w_icmp_ge (tgt := 21) C dJ8_newLength_cabcc_10 rfl (by unfold ii_B; omega) (by unfold ii_B; omega) (fun h10 => ?_) (fun h10 => ?_)
  · skip
    omega
  · skip
    refine w_iload_n C dJ8_newLength_cabcc_13 rfl ?_
    refine w_ldc (v := 2147483639) C dJ8_newLength_cabcc_14 kt_J8_200 ?_
    refine w_icmp_gt (tgt := 21) C dJ8_newLength_cabcc_16 rfl (by unfold ii_B; omega) (by unfold ii_B; omega) (fun h16 => ?_) (fun h16 => ?_)
    · skip
      omega
    · skip
      refine w_iload_n C dJ8_newLength_cabcc_19 rfl ?_
      refine w_iret C ?_ (by omega) (by omega) dJ8_newLength_cabcc_20
      rw [hPost]
      exact ⟨rfl, fun b => rfl⟩
set_option maxRecDepth 20000 in
set_option maxHeartbeats 4000000 in
theorem l_copy2 {l : Launch} {E : ab_E} {base : Nat} (hl : l.stackTraces = false) (cw : Nat → Option va_E) (a M mi : Nat) (hM : M ≤ 90) (ci : Nat) (rr : vw_C) (hrr : vwCl[ci]? = some rr) (hca : Cond.castable rr.1 "java/lang/Object" ∈ ab_nest) (N : Nat) (f : Nat → Option Nat) (hel : ∀ i : Nat, i < N → ∀ y : Nat, f i = some y → ∃ fs : List Value, cw y = some (.inr (ci, fs))) (hN : N ≤ M) (k_a : cw a = some (aw_ra E N f)) : aw_MM mi l E base yJ7_copyOf_6403c cJ7_copyOf_6403c 4 (some (.array (.object "java/lang/Object"))) 2 1 100 [.ref a, ii_v ((M : Nat) : Int), .ref mi] cw (fun v c1 => ∃ q1 : Nat, v = some (.ref q1) ∧ aw_top cw q1 ∧ c1 q1 = some (aw_ra E M (va_cpy f (fun _ => none) 0 0 N)) ∧ ∀ b : Nat, b ≠ q1 → c1 b = cw b) := by
  obtain ⟨Post, hPost⟩ : ∃ P : Option Value → (Nat → Option va_E) → Prop, P = (fun v c1 => ∃ q1 : Nat, v = some (.ref q1) ∧ aw_top cw q1 ∧ c1 q1 = some (aw_ra E M (va_cpy f (fun _ => none) 0 0 N)) ∧ ∀ b : Nat, b ≠ q1 → c1 b = cw b) := ⟨_, rfl⟩
  rw [← hPost]
  refine aw_ofM RJ7 [(0, .ref a), (1, ii_v ((M : Nat) : Int)), (2, .ref mi)] hl (by decide) rfl (Nat.le_of_ble_eq_true rfl) rfl ?_
  intro p e s m args below meth c C hnm hmi
  refine w_aload_n C dJ7_copyOf_6403c_0 rfl ?_
  refine w_ldcM C cl_J7_110 hmi dJ7_copyOf_6403c_1 ?_
  refine w_acmp_ne (tgt := 13) C dJ7_copyOf_6403c_3 rfl (fun h3 => ?_) (fun h3 => ?_)
  · skip
    exact absurd rfl h3
  · skip
    refine w_iload_n C dJ7_copyOf_6403c_6 rfl ?_
    refine w_anew (N := M) C cl_J7_2 (rfl) (by omega) (by omega) dJ7_copyOf_6403c_7 ?_
    intro q1 t_q1
    have l_a_q1 : a < q1 := t_q1 _ _ k_a
    have t0 : aw_top cw q1 := t_q1
    obtain ⟨w1_0, e_w1_0⟩ : ∃ x : Nat → Option va_E, x = aw_up cw q1 (aw_ra E M (fun _ => none)) := ⟨_, rfl⟩
    rw [← e_w1_0]
    replace k_a : w1_0 a = some (aw_ra E N f) := by rw [e_w1_0, aw_up_o _ (by omega)]; exact k_a
    have k_q1 : w1_0 q1 = some (aw_ra E M (fun _ => none)) := by rw [e_w1_0]; exact aw_up_s _ _ _
    refine w_goto (tgt := 24) C dJ7_copyOf_6403c_10 rfl ?_
    refine w_astore_n (L' := [(0, .ref a), (1, ii_v ((M : Nat) : Int)), (2, .ref mi), (3, .ref q1)]) C dJ7_copyOf_6403c_24 (by decide) rfl ?_
    refine w_aload_n C dJ7_copyOf_6403c_25 rfl ?_
    refine w_iconst C dJ7_copyOf_6403c_26 ?_
    refine w_aload_n C dJ7_copyOf_6403c_27 rfl ?_
    refine w_iconst C dJ7_copyOf_6403c_28 ?_
    refine w_aload_n C dJ7_copyOf_6403c_29 rfl ?_
    refine w_alen C k_a dJ7_copyOf_6403c_30 ?_
    refine w_iload_n C dJ7_copyOf_6403c_31 rfl ?_
    refine w_min C ml_J7_304 dJ7_copyOf_6403c_32 (by decide) (Nat.le_of_ble_eq_true rfl) (by omega) (by unfold ii_B; omega) (by unfold ii_B; omega) ?_
    rw [show min ((N : Nat) : Int) ((M : Nat) : Int) = ((N : Nat) : Int) by omega]
    refine w_copy (N := N) (M := M) (f := f) (g := fun _ => none) C k_a k_q1 hrr hca (fun i hi y hy => by obtain ⟨fs, hz⟩ := hel i hi y hy; have := t_q1 _ _ hz; exact ⟨fs, by rw [e_w1_0, aw_up_o _ (by omega)]; exact hz⟩) (by omega) (by omega) (by omega) dJ7_copyOf_6403c_35 ?_
    obtain ⟨w2_1, e_w2_1⟩ : ∃ x : Nat → Option va_E, x = aw_up w1_0 q1 (aw_ra E M (va_cpy f (fun _ => none) 0 0 N)) := ⟨_, rfl⟩
    rw [← e_w2_1]
    replace k_a : w2_1 a = some (aw_ra E N f) := by rw [e_w2_1, aw_up_o _ (by omega)]; exact k_a
    replace k_q1 : w2_1 q1 = some (aw_ra E M (va_cpy f (fun _ => none) 0 0 N)) := by rw [e_w2_1]; exact aw_up_s _ _ _
    refine w_aload_n C dJ7_copyOf_6403c_38 rfl ?_
    refine w_aret C (Or.inr ⟨_, rfl⟩) ?_ (by omega) (by omega) dJ7_copyOf_6403c_39
    rw [hPost]
    exact ⟨q1, rfl, t0, k_q1, fun b h_q1 => by rw [e_w2_1, aw_up_o _ h_q1, e_w1_0, aw_up_o _ h_q1]⟩
set_option maxRecDepth 20000 in
set_option maxHeartbeats 4000000 in
theorem l_copy1 {l : Launch} {E : ab_E} {base : Nat} (hl : l.stackTraces = false) (cw : Nat → Option va_E) (a M : Nat) (hM : M ≤ 90) (ci : Nat) (rr : vw_C) (hrr : vwCl[ci]? = some rr) (hca : Cond.castable rr.1 "java/lang/Object" ∈ ab_nest) (N : Nat) (f : Nat → Option Nat) (hel : ∀ i : Nat, i < N → ∀ y : Nat, f i = some y → ∃ fs : List Value, cw y = some (.inr (ci, fs))) (hN : N ≤ M) (k_a : cw a = some (aw_ra E N f)) : aw_M l E base yJ7_copyOf_1904c cJ7_copyOf_1904c 2 (some (.array (.object "java/lang/Object"))) 3 1 100 [.ref a, ii_v ((M : Nat) : Int)] cw (fun v c1 => ∃ q1 : Nat, v = some (.ref q1) ∧ aw_top cw q1 ∧ c1 q1 = some (aw_ra E M (va_cpy f (fun _ => none) 0 0 N)) ∧ ∀ b : Nat, b ≠ q1 → c1 b = cw b) := by
  obtain ⟨Post, hPost⟩ : ∃ P : Option Value → (Nat → Option va_E) → Prop, P = (fun v c1 => ∃ q1 : Nat, v = some (.ref q1) ∧ aw_top cw q1 ∧ c1 q1 = some (aw_ra E M (va_cpy f (fun _ => none) 0 0 N)) ∧ ∀ b : Nat, b ≠ q1 → c1 b = cw b) := ⟨_, rfl⟩
  rw [← hPost]
  refine aw_of RJ7 [(0, .ref a), (1, ii_v ((M : Nat) : Int))] hl (by decide) rfl (Nat.le_of_ble_eq_true rfl) rfl ?_
  intro p e s m args below meth c C hnm
  obtain ⟨mi, hmi⟩ := C.2.2.2.2.2.2.2.2.1.2.2.2.1.2.1
  refine w_aload_n C dJ7_copyOf_1904c_0 rfl ?_
  refine w_iload_n C dJ7_copyOf_1904c_1 rfl ?_
  refine w_aload_n C dJ7_copyOf_1904c_2 rfl ?_
  refine w_getC C k_a hmi dJ7_copyOf_1904c_3 (by decide) (Nat.le_of_ble_eq_true rfl) ?_
  refine w_callSM (As := [.ref a, ii_v ((M : Nat) : Int), .ref mi]) C hmi (l_copy2 hl cw a M mi hM ci rr hrr hca N f hel hN k_a) co_J7_copyOf_6403c in_J7 ml_J7_300 sc_J7_copyOf_6403c ar_J7_copyOf_6403c ⟨by decide, by decide, by omega, by omega⟩ rfl (Nat.le_of_ble_eq_true rfl) dJ7_copyOf_1904c_6 ?_
  intro v c1 z
  obtain ⟨q1, rfl, t_q1, k_q1, f_1⟩ := z
  refine w_vs ?_
  refine w_aret C (Or.inr ⟨_, rfl⟩) ?_ (by omega) (by omega) dJ7_copyOf_1904c_9
  rw [hPost]
  exact ⟨q1, rfl, t_q1, k_q1, f_1⟩
set_option maxRecDepth 20000 in
set_option maxHeartbeats 4000000 in
theorem l_growF {l : Launch} {E : ab_E} {base : Nat} (hl : l.stackTraces = false) (cw : Nat → Option va_E) (L : Nat) (mz : Int)  (k_L : cw L = some (.inr (0, [ii_v mz, .ref E.2.2, ii_v 0]))) : aw_M l E base yJx4a65c_grow_92f84 cJx4a65c_grow_92f84 4 (some (.array (.object "java/lang/Object"))) 3 1 100 [.ref L, ii_v 1] cw (fun v c1 => ∃ q1 : Nat, v = some (.ref q1) ∧ aw_top cw q1 ∧ c1 q1 = some (aw_ra E 10 (fun _ => none)) ∧ c1 L = some (.inr (0, [ii_v mz, .ref q1, ii_v 0])) ∧ ∀ b : Nat, b ≠ L → b ≠ q1 → c1 b = cw b) := by
  obtain ⟨Post, hPost⟩ : ∃ P : Option Value → (Nat → Option va_E) → Prop, P = (fun v c1 => ∃ q1 : Nat, v = some (.ref q1) ∧ aw_top cw q1 ∧ c1 q1 = some (aw_ra E 10 (fun _ => none)) ∧ c1 L = some (.inr (0, [ii_v mz, .ref q1, ii_v 0])) ∧ ∀ b : Nat, b ≠ L → b ≠ q1 → c1 b = cw b) := ⟨_, rfl⟩
  rw [← hPost]
  refine aw_of RJx4a65c [(0, .ref L), (1, ii_v 1)] hl (by decide) rfl (Nat.le_of_ble_eq_true rfl) rfl ?_
  intro p e s m args below meth c C hnm
  refine w_aload_n C dJx4a65c_grow_92f84_0 rfl ?_
  refine w_get (ci := 0) (i := 1) (v := .ref E.2.2) C iw_Jx4a65c rfl (by decide) (Or.inl rfl) fl_Jx4a65c_9 k_L rfl dJx4a65c_grow_92f84_1 ?_
  refine w_elen C dJx4a65c_grow_92f84_4 ?_
  refine w_istore_n (L' := [(0, .ref L), (1, ii_v 1), (2, ii_v 0)]) C dJx4a65c_grow_92f84_5 (by decide) rfl ?_
  refine w_iload_n C dJx4a65c_grow_92f84_6 rfl ?_
  refine w_if_gt (tgt := 20) C dJx4a65c_grow_92f84_7 rfl (by unfold ii_B; omega) (fun h7 => ?_) (fun h7 => ?_)
  · skip
    omega
  · skip
    refine w_aload_n C dJx4a65c_grow_92f84_10 rfl ?_
    refine w_get (ci := 0) (i := 1) (v := .ref E.2.2) C iw_Jx4a65c rfl (by decide) (Or.inl rfl) fl_Jx4a65c_9 k_L rfl dJx4a65c_grow_92f84_11 ?_
    refine w_eget C fl_Jx4a65c_39 dJx4a65c_grow_92f84_14 ?_
    refine w_acmp_eq (tgt := 45) C dJx4a65c_grow_92f84_17 rfl (fun h17 => ?_) (fun h17 => ?_)
    · skip
      refine w_aload_n C dJx4a65c_grow_92f84_45 rfl ?_
      refine w_bipush C dJx4a65c_grow_92f84_46 (by decide) ?_
      refine w_iload_n C dJx4a65c_grow_92f84_48 rfl ?_
      refine w_max C ml_Jx4a65c_79 dJx4a65c_grow_92f84_49 (by decide) (Nat.le_of_ble_eq_true rfl) (by omega) (by unfold ii_B; omega) (by unfold ii_B; omega) ?_
      rw [show max (10 : Int) 1 = 10 from rfl]
      refine w_anew (N := 10) C cl_Jx4a65c_7 (rfl) (by omega) (by omega) dJx4a65c_grow_92f84_52 ?_
      intro q1 t_q1
      have l_L_q1 : L < q1 := t_q1 _ _ k_L
      have t0 : aw_top cw q1 := t_q1
      obtain ⟨w1_0, e_w1_0⟩ : ∃ x : Nat → Option va_E, x = aw_up cw q1 (aw_ra E 10 (fun _ => none)) := ⟨_, rfl⟩
      rw [← e_w1_0]
      replace k_L : w1_0 L = some (.inr (0, [ii_v mz, .ref E.2.2, ii_v 0])) := by rw [e_w1_0, aw_up_o _ (by omega)]; exact k_L
      have k_q1 : w1_0 q1 = some (aw_ra E 10 (fun _ => none)) := by rw [e_w1_0]; exact aw_up_s _ _ _
      refine w_dup_x1 C dJx4a65c_grow_92f84_55 rfl rfl ?_
      refine w_put (ci := 0) (i := 1) C iw_Jx4a65c rfl (by decide) (Or.inl rfl) tyJx4a65c tyJx4a65c_ok nmJx4a65c rfl rfl fl_Jx4a65c_9 k_L (Nat.le_of_ble_eq_true rfl) rfl rfl dJx4a65c_grow_92f84_56 ?_
      obtain ⟨w2_1, e_w2_1⟩ : ∃ x : Nat → Option va_E, x = aw_up w1_0 L (.inr (0, [ii_v mz, .ref E.2.2, ii_v 0].set 1 (.ref q1))) := ⟨_, rfl⟩
      rw [← e_w2_1]
      replace k_q1 : w2_1 q1 = some (aw_ra E 10 (fun _ => none)) := by rw [e_w2_1, aw_up_o _ (by omega)]; exact k_q1
      replace k_L : w2_1 L = some (.inr (0, [ii_v mz, .ref q1, ii_v 0])) := by rw [e_w2_1]; exact aw_up_s _ _ _
      refine w_aret C (Or.inr ⟨_, rfl⟩) ?_ (by omega) (by omega) dJx4a65c_grow_92f84_59
      rw [hPost]
      exact ⟨q1, rfl, t0, k_q1, k_L, fun b h_L h_q1 => by rw [e_w2_1, aw_up_o _ h_L, e_w1_0, aw_up_o _ h_q1]⟩
    · skip
      exact absurd rfl h17
set_option maxRecDepth 20000 in
set_option maxHeartbeats 4000000 in
theorem l_growG {l : Launch} {E : ab_E} {base : Nat} (hl : l.stackTraces = false) (cw : Nat → Option va_E) (L : Nat) (mz : Int) (a : Nat) (ci : Nat) (rr : vw_C) (hrr : vwCl[ci]? = some rr) (hca : Cond.castable rr.1 "java/lang/Object" ∈ ab_nest) (N : Nat) (f : Nat → Option Nat) (hel : ∀ i : Nat, i < N → ∀ y : Nat, f i = some y → ∃ fs : List Value, cw y = some (.inr (ci, fs))) (hN1 : 1 ≤ N) (hN2 : N ≤ 40) (haE : a ≠ L)  (k_L : cw L = some (.inr (0, [ii_v mz, .ref a, ii_v ((N : Nat) : Int)]))) (k_a : cw a = some (aw_ra E N f)) : aw_M l E base yJx4a65c_grow_92f84 cJx4a65c_grow_92f84 4 (some (.array (.object "java/lang/Object"))) 4 1 100 [.ref L, ii_v (((N : Nat) : Int) + 1)] cw (fun v c1 => ∃ q1 : Nat, v = some (.ref q1) ∧ aw_top cw q1 ∧ c1 q1 = some (aw_ra E (N + max 1 (N / 2)) (va_cpy f (fun _ => none) 0 0 N)) ∧ c1 L = some (.inr (0, [ii_v mz, .ref q1, ii_v ((N : Nat) : Int)])) ∧ ∀ b : Nat, b ≠ L → b ≠ q1 → c1 b = cw b) := by
  obtain ⟨Post, hPost⟩ : ∃ P : Option Value → (Nat → Option va_E) → Prop, P = (fun v c1 => ∃ q1 : Nat, v = some (.ref q1) ∧ aw_top cw q1 ∧ c1 q1 = some (aw_ra E (N + max 1 (N / 2)) (va_cpy f (fun _ => none) 0 0 N)) ∧ c1 L = some (.inr (0, [ii_v mz, .ref q1, ii_v ((N : Nat) : Int)])) ∧ ∀ b : Nat, b ≠ L → b ≠ q1 → c1 b = cw b) := ⟨_, rfl⟩
  rw [← hPost]
  refine aw_of RJx4a65c [(0, .ref L), (1, ii_v (((N : Nat) : Int) + 1))] hl (by decide) rfl (Nat.le_of_ble_eq_true rfl) rfl ?_
  intro p e s m args below meth c C hnm
  refine w_aload_n C dJx4a65c_grow_92f84_0 rfl ?_
  refine w_get (ci := 0) (i := 1) (v := .ref a) C iw_Jx4a65c rfl (by decide) (Or.inl rfl) fl_Jx4a65c_9 k_L rfl dJx4a65c_grow_92f84_1 ?_
  refine w_alen C k_a dJx4a65c_grow_92f84_4 ?_
  refine w_istore_n (L' := [(0, .ref L), (1, ii_v (((N : Nat) : Int) + 1)), (2, ii_v ((N : Nat) : Int))]) C dJx4a65c_grow_92f84_5 (by decide) rfl ?_
  refine w_iload_n C dJx4a65c_grow_92f84_6 rfl ?_
  refine w_if_gt (tgt := 20) C dJx4a65c_grow_92f84_7 rfl (by unfold ii_B; omega) (fun h7 => ?_) (fun h7 => ?_)
  · skip
    refine w_iload_n C dJx4a65c_grow_92f84_20 rfl ?_
    refine w_iload_n C dJx4a65c_grow_92f84_21 rfl ?_
    refine w_iload_n C dJx4a65c_grow_92f84_22 rfl ?_
    refine w_isub C dJx4a65c_grow_92f84_23 ?_
    refine w_iload_n C dJx4a65c_grow_92f84_24 rfl ?_
    refine w_iconst C dJx4a65c_grow_92f84_25 ?_
    refine w_ishr (b := ((N / 2 : Nat) : Int)) C dJx4a65c_grow_92f84_26 (ii_shr1 (by omega)) ?_
    refine w_callS (As := [ii_v ((N : Nat) : Int), ii_v (((N : Nat) : Int) + 1 - ((N : Nat) : Int)), ii_v ((N / 2 : Nat) : Int)]) C (l_newLen hl cw ((N : Nat) : Int) (((N : Nat) : Int) + 1 - ((N : Nat) : Int)) ((N / 2 : Nat) : Int) (by omega) (by omega) (by omega)) co_J8_newLength_cabcc in_J8 ml_Jx4a65c_73 sc_J8_newLength_cabcc ar_J8_newLength_cabcc ⟨by decide, by decide, by omega, by omega⟩ rfl (Nat.le_of_ble_eq_true rfl) dJx4a65c_grow_92f84_27 ?_
    intro v_w1_0 w1_0 z_w1_0
    obtain ⟨rfl, f_w1_0⟩ := z_w1_0
    replace k_L : w1_0 L = some (.inr (0, [ii_v mz, .ref a, ii_v ((N : Nat) : Int)])) := by rw [f_w1_0 _ ]; exact k_L
    replace k_a : w1_0 a = some (aw_ra E N f) := by rw [f_w1_0 _ ]; exact k_a
    refine w_vs ?_
    rw [show ((N : Nat) : Int) + max ((((N : Nat) : Int) + 1) - ((N : Nat) : Int)) ((N / 2 : Nat) : Int) = (((N + max 1 (N / 2)) : Nat) : Int) by omega]
    refine w_istore_n (L' := [(0, .ref L), (1, ii_v (((N : Nat) : Int) + 1)), (2, ii_v ((N : Nat) : Int)), (3, ii_v (((N + max 1 (N / 2)) : Nat) : Int))]) C dJx4a65c_grow_92f84_30 (by decide) rfl ?_
    refine w_aload_n C dJx4a65c_grow_92f84_31 rfl ?_
    refine w_aload_n C dJx4a65c_grow_92f84_32 rfl ?_
    refine w_get (ci := 0) (i := 1) (v := .ref a) C iw_Jx4a65c rfl (by decide) (Or.inl rfl) fl_Jx4a65c_9 k_L rfl dJx4a65c_grow_92f84_33 ?_
    refine w_iload_n C dJx4a65c_grow_92f84_36 rfl ?_
    refine w_callS (As := [.ref a, ii_v (((N + max 1 (N / 2)) : Nat) : Int)]) C (l_copy1 hl w1_0 a (N + max 1 (N / 2)) (by omega) ci rr hrr hca N f (fun i hi y hy => by obtain ⟨fs, hz⟩ := hel i hi y hy; exact ⟨fs, by rw [f_w1_0 y ]; exact hz⟩) (by omega) k_a) co_J7_copyOf_1904c in_J7 ml_Jx4a65c_66 sc_J7_copyOf_1904c ar_J7_copyOf_1904c ⟨by decide, by decide, by omega, by omega⟩ rfl (Nat.le_of_ble_eq_true rfl) dJx4a65c_grow_92f84_37 ?_
    intro v_w2_1 w2_1 z_w2_1
    obtain ⟨q1, rfl, t_q1, k_q1, f_w2_1⟩ := z_w2_1
    have l_L_q1 : L < q1 := t_q1 _ _ k_L
    have l_a_q1 : a < q1 := t_q1 _ _ k_a
    have t0 : aw_top cw q1 := fun b e0 hb => t_q1 b e0 (by rw [f_w1_0 b ]; exact hb)
    replace k_L : w2_1 L = some (.inr (0, [ii_v mz, .ref a, ii_v ((N : Nat) : Int)])) := by rw [f_w2_1 _ (by omega)]; exact k_L
    replace k_a : w2_1 a = some (aw_ra E N f) := by rw [f_w2_1 _ (by omega)]; exact k_a
    refine w_vs ?_
    refine w_dup_x1 C dJx4a65c_grow_92f84_40 rfl rfl ?_
    refine w_put (ci := 0) (i := 1) C iw_Jx4a65c rfl (by decide) (Or.inl rfl) tyJx4a65c tyJx4a65c_ok nmJx4a65c rfl rfl fl_Jx4a65c_9 k_L (Nat.le_of_ble_eq_true rfl) rfl rfl dJx4a65c_grow_92f84_41 ?_
    obtain ⟨w3_2, e_w3_2⟩ : ∃ x : Nat → Option va_E, x = aw_up w2_1 L (.inr (0, [ii_v mz, .ref a, ii_v ((N : Nat) : Int)].set 1 (.ref q1))) := ⟨_, rfl⟩
    rw [← e_w3_2]
    replace k_a : w3_2 a = some (aw_ra E N f) := by rw [e_w3_2, aw_up_o _ (by omega)]; exact k_a
    replace k_q1 : w3_2 q1 = some (aw_ra E (N + max 1 (N / 2)) (va_cpy f (fun _ => none) 0 0 N)) := by rw [e_w3_2, aw_up_o _ (by omega)]; exact k_q1
    replace k_L : w3_2 L = some (.inr (0, [ii_v mz, .ref q1, ii_v ((N : Nat) : Int)])) := by rw [e_w3_2]; exact aw_up_s _ _ _
    refine w_aret C (Or.inr ⟨_, rfl⟩) ?_ (by omega) (by omega) dJx4a65c_grow_92f84_44
    rw [hPost]
    exact ⟨q1, rfl, t0, k_q1, k_L, fun b h_L h_q1 => by rw [e_w3_2, aw_up_o _ h_L, f_w2_1 b h_q1, f_w1_0 b ]⟩
  · skip
    omega
set_option maxRecDepth 20000 in
set_option maxHeartbeats 4000000 in
theorem l_groF {l : Launch} {E : ab_E} {base : Nat} (hl : l.stackTraces = false) (cw : Nat → Option va_E) (L : Nat) (mz : Int)  (k_L : cw L = some (.inr (0, [ii_v mz, .ref E.2.2, ii_v 0]))) : aw_M l E base yJx4a65c_grow_d5877 cJx4a65c_grow_d5877 1 (some (.array (.object "java/lang/Object"))) 4 1 100 [.ref L] cw (fun v c1 => ∃ q1 : Nat, v = some (.ref q1) ∧ aw_top cw q1 ∧ c1 q1 = some (aw_ra E 10 (fun _ => none)) ∧ c1 L = some (.inr (0, [ii_v mz, .ref q1, ii_v 0])) ∧ ∀ b : Nat, b ≠ L → b ≠ q1 → c1 b = cw b) := by
  obtain ⟨Post, hPost⟩ : ∃ P : Option Value → (Nat → Option va_E) → Prop, P = (fun v c1 => ∃ q1 : Nat, v = some (.ref q1) ∧ aw_top cw q1 ∧ c1 q1 = some (aw_ra E 10 (fun _ => none)) ∧ c1 L = some (.inr (0, [ii_v mz, .ref q1, ii_v 0])) ∧ ∀ b : Nat, b ≠ L → b ≠ q1 → c1 b = cw b) := ⟨_, rfl⟩
  rw [← hPost]
  refine aw_of RJx4a65c [(0, .ref L)] hl (by decide) rfl (Nat.le_of_ble_eq_true rfl) rfl ?_
  intro p e s m args below meth c C hnm
  refine w_aload_n C dJx4a65c_grow_d5877_0 rfl ?_
  refine w_aload_n C dJx4a65c_grow_d5877_1 rfl ?_
  refine w_get (ci := 0) (i := 2) (v := ii_v 0) C iw_Jx4a65c rfl (by decide) (Or.inl rfl) fl_Jx4a65c_48 k_L rfl dJx4a65c_grow_d5877_2 ?_
  refine w_iconst C dJx4a65c_grow_d5877_5 ?_
  refine w_iadd C dJx4a65c_grow_d5877_6 ?_
  rw [show (0 : Int) + 1 = 1 by omega]
  refine w_callV (b := L) (As := [ii_v 1]) C (l_growF hl cw L mz k_L) co_Jx4a65c_grow_92f84 in_Jx4a65c ml_Jx4a65c_69 im_Jx4a65c_grow_92f84 se_Jx4a65c_grow_92f84 rfl k_L ar_Jx4a65c_grow_92f84 ⟨by decide, by decide, by omega, by omega⟩ rfl (Nat.le_of_ble_eq_true rfl) dJx4a65c_grow_d5877_7 ?_
  intro v_w1_0 w1_0 z_w1_0
  obtain ⟨q1, rfl, t_q1, k_q1, n_w1_0_L, f_w1_0⟩ := z_w1_0
  have l_L_q1 : L < q1 := t_q1 _ _ k_L
  have t0 : aw_top cw q1 := t_q1
  replace k_L := n_w1_0_L
  refine w_vs ?_
  refine w_aret C (Or.inr ⟨_, rfl⟩) ?_ (by omega) (by omega) dJx4a65c_grow_d5877_10
  rw [hPost]
  exact ⟨q1, rfl, t0, k_q1, k_L, fun b h_L h_q1 => by rw [f_w1_0 b h_L h_q1]⟩
set_option maxRecDepth 20000 in
set_option maxHeartbeats 4000000 in
theorem l_groG {l : Launch} {E : ab_E} {base : Nat} (hl : l.stackTraces = false) (cw : Nat → Option va_E) (L : Nat) (mz : Int) (a : Nat) (ci : Nat) (rr : vw_C) (hrr : vwCl[ci]? = some rr) (hca : Cond.castable rr.1 "java/lang/Object" ∈ ab_nest) (N : Nat) (f : Nat → Option Nat) (hel : ∀ i : Nat, i < N → ∀ y : Nat, f i = some y → ∃ fs : List Value, cw y = some (.inr (ci, fs))) (hN1 : 1 ≤ N) (hN2 : N ≤ 40) (haE : a ≠ L)  (k_L : cw L = some (.inr (0, [ii_v mz, .ref a, ii_v ((N : Nat) : Int)]))) (k_a : cw a = some (aw_ra E N f)) : aw_M l E base yJx4a65c_grow_d5877 cJx4a65c_grow_d5877 1 (some (.array (.object "java/lang/Object"))) 5 1 100 [.ref L] cw (fun v c1 => ∃ q1 : Nat, v = some (.ref q1) ∧ aw_top cw q1 ∧ c1 q1 = some (aw_ra E (N + max 1 (N / 2)) (va_cpy f (fun _ => none) 0 0 N)) ∧ c1 L = some (.inr (0, [ii_v mz, .ref q1, ii_v ((N : Nat) : Int)])) ∧ ∀ b : Nat, b ≠ L → b ≠ q1 → c1 b = cw b) := by
  obtain ⟨Post, hPost⟩ : ∃ P : Option Value → (Nat → Option va_E) → Prop, P = (fun v c1 => ∃ q1 : Nat, v = some (.ref q1) ∧ aw_top cw q1 ∧ c1 q1 = some (aw_ra E (N + max 1 (N / 2)) (va_cpy f (fun _ => none) 0 0 N)) ∧ c1 L = some (.inr (0, [ii_v mz, .ref q1, ii_v ((N : Nat) : Int)])) ∧ ∀ b : Nat, b ≠ L → b ≠ q1 → c1 b = cw b) := ⟨_, rfl⟩
  rw [← hPost]
  refine aw_of RJx4a65c [(0, .ref L)] hl (by decide) rfl (Nat.le_of_ble_eq_true rfl) rfl ?_
  intro p e s m args below meth c C hnm
  refine w_aload_n C dJx4a65c_grow_d5877_0 rfl ?_
  refine w_aload_n C dJx4a65c_grow_d5877_1 rfl ?_
  refine w_get (ci := 0) (i := 2) (v := ii_v ((N : Nat) : Int)) C iw_Jx4a65c rfl (by decide) (Or.inl rfl) fl_Jx4a65c_48 k_L rfl dJx4a65c_grow_d5877_2 ?_
  refine w_iconst C dJx4a65c_grow_d5877_5 ?_
  refine w_iadd C dJx4a65c_grow_d5877_6 ?_
  refine w_callV (b := L) (As := [ii_v (((N : Nat) : Int) + 1)]) C (l_growG hl cw L mz a ci rr hrr hca N f hel hN1 hN2 haE k_L k_a) co_Jx4a65c_grow_92f84 in_Jx4a65c ml_Jx4a65c_69 im_Jx4a65c_grow_92f84 se_Jx4a65c_grow_92f84 rfl k_L ar_Jx4a65c_grow_92f84 ⟨by decide, by decide, by omega, by omega⟩ rfl (Nat.le_of_ble_eq_true rfl) dJx4a65c_grow_d5877_7 ?_
  intro v_w1_0 w1_0 z_w1_0
  obtain ⟨q1, rfl, t_q1, k_q1, n_w1_0_L, f_w1_0⟩ := z_w1_0
  have l_L_q1 : L < q1 := t_q1 _ _ k_L
  have l_a_q1 : a < q1 := t_q1 _ _ k_a
  have t0 : aw_top cw q1 := t_q1
  replace k_a : w1_0 a = some (aw_ra E N f) := by rw [f_w1_0 _ (by omega) (by omega)]; exact k_a
  replace k_L := n_w1_0_L
  refine w_vs ?_
  refine w_aret C (Or.inr ⟨_, rfl⟩) ?_ (by omega) (by omega) dJx4a65c_grow_d5877_10
  rw [hPost]
  exact ⟨q1, rfl, t0, k_q1, k_L, fun b h_L h_q1 => by rw [f_w1_0 b h_L h_q1]⟩
set_option maxRecDepth 20000 in
set_option maxHeartbeats 4000000 in
theorem l_add3R {l : Launch} {E : ab_E} {base : Nat} (hl : l.stackTraces = false) (cw : Nat → Option va_E) (L : Nat) (mz : Int) (ci : Nat) (rr : vw_C) (hrr : vwCl[ci]? = some rr) (hca : Cond.castable rr.1 "java/lang/Object" ∈ ab_nest) (x0 : Nat) (fse : List Value) (hxL : x0 ≠ L) (cn N a : Nat) (f : Nat → Option Nat) (hcN : cn < N) (hN9 : N ≤ 90) (haL : a ≠ L) (hxa : x0 ≠ a)  (k_L : cw L = some (.inr (0, [ii_v mz, .ref a, ii_v ((cn : Nat) : Int)]))) (k_a : cw a = some (aw_ra E N f)) (k_x0 : cw x0 = some (.inr (ci, fse))) : aw_M l E base yJx4a65c_add_72be8 cJx4a65c_add_72be8 4 none 1 0 0 [.ref L, .ref x0, .ref a, ii_v ((cn : Nat) : Int)] cw (fun v c1 => v = none ∧ c1 L = some (.inr (0, [ii_v mz, .ref a, ii_v (((cn : Nat) : Int) + 1)])) ∧ c1 a = some (aw_ra E N (va_up f cn (some x0))) ∧ ∀ b : Nat, b ≠ L → b ≠ a → c1 b = cw b) := by
  obtain ⟨Post, hPost⟩ : ∃ P : Option Value → (Nat → Option va_E) → Prop, P = (fun v c1 => v = none ∧ c1 L = some (.inr (0, [ii_v mz, .ref a, ii_v (((cn : Nat) : Int) + 1)])) ∧ c1 a = some (aw_ra E N (va_up f cn (some x0))) ∧ ∀ b : Nat, b ≠ L → b ≠ a → c1 b = cw b) := ⟨_, rfl⟩
  rw [← hPost]
  refine aw_of RJx4a65c [(0, .ref L), (1, .ref x0), (2, .ref a), (3, ii_v ((cn : Nat) : Int))] hl (by decide) rfl (Nat.le_of_ble_eq_true rfl) rfl ?_
  intro p e s m args below meth c C hnm
  refine w_iload_n C dJx4a65c_add_72be8_0 rfl ?_
  refine w_aload_n C dJx4a65c_add_72be8_1 rfl ?_
  refine w_alen C k_a dJx4a65c_add_72be8_2 ?_
  refine w_icmp_ne (tgt := 11) C dJx4a65c_add_72be8_3 rfl (by unfold ii_B; omega) (by unfold ii_B; omega) (fun h3 => ?_) (fun h3 => ?_)
  · skip
    refine w_aload_n C dJx4a65c_add_72be8_11 rfl ?_
    refine w_iload_n C dJx4a65c_add_72be8_12 rfl ?_
    refine w_aload_n C dJx4a65c_add_72be8_13 rfl ?_
    refine w_aast (j := cn) C k_a k_x0 hrr hca (rfl) (by omega) (by omega) dJx4a65c_add_72be8_14 ?_
    obtain ⟨w1_0, e_w1_0⟩ : ∃ x : Nat → Option va_E, x = aw_up cw a (aw_ra E N (va_up f cn (some x0))) := ⟨_, rfl⟩
    rw [← e_w1_0]
    replace k_L : w1_0 L = some (.inr (0, [ii_v mz, .ref a, ii_v ((cn : Nat) : Int)])) := by rw [e_w1_0, aw_up_o _ (by omega)]; exact k_L
    replace k_x0 : w1_0 x0 = some (.inr (ci, fse)) := by rw [e_w1_0, aw_up_o _ (by omega)]; exact k_x0
    replace k_a : w1_0 a = some (aw_ra E N (va_up f cn (some x0))) := by rw [e_w1_0]; exact aw_up_s _ _ _
    refine w_aload_n C dJx4a65c_add_72be8_15 rfl ?_
    refine w_iload_n C dJx4a65c_add_72be8_16 rfl ?_
    refine w_iconst C dJx4a65c_add_72be8_17 ?_
    refine w_iadd C dJx4a65c_add_72be8_18 ?_
    refine w_put (ci := 0) (i := 2) C iw_Jx4a65c rfl (by decide) (Or.inl rfl) tyJx4a65c tyJx4a65c_ok nmJx4a65c rfl rfl fl_Jx4a65c_48 k_L (Nat.le_of_ble_eq_true rfl) rfl rfl dJx4a65c_add_72be8_19 ?_
    obtain ⟨w2_1, e_w2_1⟩ : ∃ x : Nat → Option va_E, x = aw_up w1_0 L (.inr (0, [ii_v mz, .ref a, ii_v ((cn : Nat) : Int)].set 2 (ii_v (((cn : Nat) : Int) + 1)))) := ⟨_, rfl⟩
    rw [← e_w2_1]
    replace k_a : w2_1 a = some (aw_ra E N (va_up f cn (some x0))) := by rw [e_w2_1, aw_up_o _ (by omega)]; exact k_a
    replace k_x0 : w2_1 x0 = some (.inr (ci, fse)) := by rw [e_w2_1, aw_up_o _ (by omega)]; exact k_x0
    replace k_L : w2_1 L = some (.inr (0, [ii_v mz, .ref a, ii_v (((cn : Nat) : Int) + 1)])) := by rw [e_w2_1]; exact aw_up_s _ _ _
    refine w_vret C ?_ (by omega) (by omega) dJx4a65c_add_72be8_22
    rw [hPost]
    exact ⟨rfl, k_L, k_a, fun b h_L h_a => by rw [e_w2_1, aw_up_o _ h_L, e_w1_0, aw_up_o _ h_a]⟩
  · skip
    omega
set_option maxRecDepth 20000 in
set_option maxHeartbeats 4000000 in
theorem l_add3F {l : Launch} {E : ab_E} {base : Nat} (hl : l.stackTraces = false) (cw : Nat → Option va_E) (L : Nat) (mz : Int) (ci : Nat) (rr : vw_C) (hrr : vwCl[ci]? = some rr) (hca : Cond.castable rr.1 "java/lang/Object" ∈ ab_nest) (x0 : Nat) (fse : List Value) (hxL : x0 ≠ L)  (k_L : cw L = some (.inr (0, [ii_v mz, .ref E.2.2, ii_v 0]))) (k_x0 : cw x0 = some (.inr (ci, fse))) : aw_M l E base yJx4a65c_add_72be8 cJx4a65c_add_72be8 4 none 5 1 100 [.ref L, .ref x0, .ref E.2.2, ii_v 0] cw (fun v c1 => ∃ q1 : Nat, v = none ∧ aw_top cw q1 ∧ c1 q1 = some (aw_ra E 10 (va_up (fun _ => none) 0 (some x0))) ∧ c1 L = some (.inr (0, [ii_v mz, .ref q1, ii_v (0 + 1)])) ∧ ∀ b : Nat, b ≠ L → b ≠ q1 → c1 b = cw b) := by
  obtain ⟨Post, hPost⟩ : ∃ P : Option Value → (Nat → Option va_E) → Prop, P = (fun v c1 => ∃ q1 : Nat, v = none ∧ aw_top cw q1 ∧ c1 q1 = some (aw_ra E 10 (va_up (fun _ => none) 0 (some x0))) ∧ c1 L = some (.inr (0, [ii_v mz, .ref q1, ii_v (0 + 1)])) ∧ ∀ b : Nat, b ≠ L → b ≠ q1 → c1 b = cw b) := ⟨_, rfl⟩
  rw [← hPost]
  refine aw_of RJx4a65c [(0, .ref L), (1, .ref x0), (2, .ref E.2.2), (3, ii_v 0)] hl (by decide) rfl (Nat.le_of_ble_eq_true rfl) rfl ?_
  intro p e s m args below meth c C hnm
  refine w_iload_n C dJx4a65c_add_72be8_0 rfl ?_
  refine w_aload_n C dJx4a65c_add_72be8_1 rfl ?_
  refine w_elen C dJx4a65c_add_72be8_2 ?_
  refine w_icmp_ne (tgt := 11) C dJx4a65c_add_72be8_3 rfl (by unfold ii_B; omega) (by unfold ii_B; omega) (fun h3 => ?_) (fun h3 => ?_)
  · skip
    omega
  · skip
    refine w_aload_n C dJx4a65c_add_72be8_6 rfl ?_
    refine w_callV (b := L) (As := []) C (l_groF hl cw L mz k_L) co_Jx4a65c_grow_d5877 in_Jx4a65c ml_Jx4a65c_129 im_Jx4a65c_grow_d5877 se_Jx4a65c_grow_d5877 rfl k_L ar_Jx4a65c_grow_d5877 ⟨by decide, by decide, by omega, by omega⟩ rfl (Nat.le_of_ble_eq_true rfl) dJx4a65c_add_72be8_7 ?_
    intro v_w1_0 w1_0 z_w1_0
    obtain ⟨q1, rfl, t_q1, k_q1, n_w1_0_L, f_w1_0⟩ := z_w1_0
    have l_L_q1 : L < q1 := t_q1 _ _ k_L
    have l_x0_q1 : x0 < q1 := t_q1 _ _ k_x0
    have t0 : aw_top cw q1 := t_q1
    replace k_x0 : w1_0 x0 = some (.inr (ci, fse)) := by rw [f_w1_0 _ (by omega) (by omega)]; exact k_x0
    replace k_L := n_w1_0_L
    refine w_vs ?_
    refine w_astore_n (L' := [(0, .ref L), (1, .ref x0), (2, .ref q1), (3, ii_v 0)]) C dJx4a65c_add_72be8_10 (by decide) rfl ?_
    refine w_aload_n C dJx4a65c_add_72be8_11 rfl ?_
    refine w_iload_n C dJx4a65c_add_72be8_12 rfl ?_
    refine w_aload_n C dJx4a65c_add_72be8_13 rfl ?_
    refine w_aast (j := 0) C k_q1 k_x0 hrr hca (rfl) (by omega) (by omega) dJx4a65c_add_72be8_14 ?_
    obtain ⟨w2_1, e_w2_1⟩ : ∃ x : Nat → Option va_E, x = aw_up w1_0 q1 (aw_ra E 10 (va_up (fun _ => none) 0 (some x0))) := ⟨_, rfl⟩
    rw [← e_w2_1]
    replace k_L : w2_1 L = some (.inr (0, [ii_v mz, .ref q1, ii_v 0])) := by rw [e_w2_1, aw_up_o _ (by omega)]; exact k_L
    replace k_x0 : w2_1 x0 = some (.inr (ci, fse)) := by rw [e_w2_1, aw_up_o _ (by omega)]; exact k_x0
    replace k_q1 : w2_1 q1 = some (aw_ra E 10 (va_up (fun _ => none) 0 (some x0))) := by rw [e_w2_1]; exact aw_up_s _ _ _
    refine w_aload_n C dJx4a65c_add_72be8_15 rfl ?_
    refine w_iload_n C dJx4a65c_add_72be8_16 rfl ?_
    refine w_iconst C dJx4a65c_add_72be8_17 ?_
    refine w_iadd C dJx4a65c_add_72be8_18 ?_
    refine w_put (ci := 0) (i := 2) C iw_Jx4a65c rfl (by decide) (Or.inl rfl) tyJx4a65c tyJx4a65c_ok nmJx4a65c rfl rfl fl_Jx4a65c_48 k_L (Nat.le_of_ble_eq_true rfl) rfl rfl dJx4a65c_add_72be8_19 ?_
    obtain ⟨w3_2, e_w3_2⟩ : ∃ x : Nat → Option va_E, x = aw_up w2_1 L (.inr (0, [ii_v mz, .ref q1, ii_v 0].set 2 (ii_v (0 + 1)))) := ⟨_, rfl⟩
    rw [← e_w3_2]
    replace k_x0 : w3_2 x0 = some (.inr (ci, fse)) := by rw [e_w3_2, aw_up_o _ (by omega)]; exact k_x0
    replace k_q1 : w3_2 q1 = some (aw_ra E 10 (va_up (fun _ => none) 0 (some x0))) := by rw [e_w3_2, aw_up_o _ (by omega)]; exact k_q1
    replace k_L : w3_2 L = some (.inr (0, [ii_v mz, .ref q1, ii_v (0 + 1)])) := by rw [e_w3_2]; exact aw_up_s _ _ _
    refine w_vret C ?_ (by omega) (by omega) dJx4a65c_add_72be8_22
    rw [hPost]
    exact ⟨q1, rfl, t0, k_q1, k_L, fun b h_L h_q1 => by rw [e_w3_2, aw_up_o _ h_L, e_w2_1, aw_up_o _ h_q1, f_w1_0 b h_L h_q1]⟩
set_option maxRecDepth 20000 in
set_option maxHeartbeats 4000000 in
theorem l_add3G {l : Launch} {E : ab_E} {base : Nat} (hl : l.stackTraces = false) (cw : Nat → Option va_E) (L : Nat) (mz : Int) (ci : Nat) (rr : vw_C) (hrr : vwCl[ci]? = some rr) (hca : Cond.castable rr.1 "java/lang/Object" ∈ ab_nest) (x0 : Nat) (fse : List Value) (hxL : x0 ≠ L) (a : Nat) (N : Nat) (f : Nat → Option Nat) (hel : ∀ i : Nat, i < N → ∀ y : Nat, f i = some y → ∃ fs : List Value, cw y = some (.inr (ci, fs))) (hN1 : 1 ≤ N) (hN2 : N ≤ 40) (haE : a ≠ L) (hxa : x0 ≠ a)  (k_L : cw L = some (.inr (0, [ii_v mz, .ref a, ii_v ((N : Nat) : Int)]))) (k_a : cw a = some (aw_ra E N f)) (k_x0 : cw x0 = some (.inr (ci, fse))) : aw_M l E base yJx4a65c_add_72be8 cJx4a65c_add_72be8 4 none 6 1 100 [.ref L, .ref x0, .ref a, ii_v ((N : Nat) : Int)] cw (fun v c1 => ∃ q1 : Nat, v = none ∧ aw_top cw q1 ∧ c1 q1 = some (aw_ra E (N + max 1 (N / 2)) (va_up (va_cpy f (fun _ => none) 0 0 N) N (some x0))) ∧ c1 L = some (.inr (0, [ii_v mz, .ref q1, ii_v (((N : Nat) : Int) + 1)])) ∧ ∀ b : Nat, b ≠ L → b ≠ q1 → c1 b = cw b) := by
  obtain ⟨Post, hPost⟩ : ∃ P : Option Value → (Nat → Option va_E) → Prop, P = (fun v c1 => ∃ q1 : Nat, v = none ∧ aw_top cw q1 ∧ c1 q1 = some (aw_ra E (N + max 1 (N / 2)) (va_up (va_cpy f (fun _ => none) 0 0 N) N (some x0))) ∧ c1 L = some (.inr (0, [ii_v mz, .ref q1, ii_v (((N : Nat) : Int) + 1)])) ∧ ∀ b : Nat, b ≠ L → b ≠ q1 → c1 b = cw b) := ⟨_, rfl⟩
  rw [← hPost]
  refine aw_of RJx4a65c [(0, .ref L), (1, .ref x0), (2, .ref a), (3, ii_v ((N : Nat) : Int))] hl (by decide) rfl (Nat.le_of_ble_eq_true rfl) rfl ?_
  intro p e s m args below meth c C hnm
  refine w_iload_n C dJx4a65c_add_72be8_0 rfl ?_
  refine w_aload_n C dJx4a65c_add_72be8_1 rfl ?_
  refine w_alen C k_a dJx4a65c_add_72be8_2 ?_
  refine w_icmp_ne (tgt := 11) C dJx4a65c_add_72be8_3 rfl (by unfold ii_B; omega) (by unfold ii_B; omega) (fun h3 => ?_) (fun h3 => ?_)
  · skip
    omega
  · skip
    refine w_aload_n C dJx4a65c_add_72be8_6 rfl ?_
    refine w_callV (b := L) (As := []) C (l_groG hl cw L mz a ci rr hrr hca N f hel hN1 hN2 haE k_L k_a) co_Jx4a65c_grow_d5877 in_Jx4a65c ml_Jx4a65c_129 im_Jx4a65c_grow_d5877 se_Jx4a65c_grow_d5877 rfl k_L ar_Jx4a65c_grow_d5877 ⟨by decide, by decide, by omega, by omega⟩ rfl (Nat.le_of_ble_eq_true rfl) dJx4a65c_add_72be8_7 ?_
    intro v_w1_0 w1_0 z_w1_0
    obtain ⟨q1, rfl, t_q1, k_q1, n_w1_0_L, f_w1_0⟩ := z_w1_0
    have l_L_q1 : L < q1 := t_q1 _ _ k_L
    have l_a_q1 : a < q1 := t_q1 _ _ k_a
    have l_x0_q1 : x0 < q1 := t_q1 _ _ k_x0
    have t0 : aw_top cw q1 := t_q1
    replace k_a : w1_0 a = some (aw_ra E N f) := by rw [f_w1_0 _ (by omega) (by omega)]; exact k_a
    replace k_x0 : w1_0 x0 = some (.inr (ci, fse)) := by rw [f_w1_0 _ (by omega) (by omega)]; exact k_x0
    replace k_L := n_w1_0_L
    refine w_vs ?_
    refine w_astore_n (L' := [(0, .ref L), (1, .ref x0), (2, .ref q1), (3, ii_v ((N : Nat) : Int))]) C dJx4a65c_add_72be8_10 (by decide) rfl ?_
    refine w_aload_n C dJx4a65c_add_72be8_11 rfl ?_
    refine w_iload_n C dJx4a65c_add_72be8_12 rfl ?_
    refine w_aload_n C dJx4a65c_add_72be8_13 rfl ?_
    refine w_aast (j := N) C k_q1 k_x0 hrr hca (rfl) (by omega) (by omega) dJx4a65c_add_72be8_14 ?_
    obtain ⟨w2_1, e_w2_1⟩ : ∃ x : Nat → Option va_E, x = aw_up w1_0 q1 (aw_ra E (N + max 1 (N / 2)) (va_up (va_cpy f (fun _ => none) 0 0 N) N (some x0))) := ⟨_, rfl⟩
    rw [← e_w2_1]
    replace k_L : w2_1 L = some (.inr (0, [ii_v mz, .ref q1, ii_v ((N : Nat) : Int)])) := by rw [e_w2_1, aw_up_o _ (by omega)]; exact k_L
    replace k_a : w2_1 a = some (aw_ra E N f) := by rw [e_w2_1, aw_up_o _ (by omega)]; exact k_a
    replace k_x0 : w2_1 x0 = some (.inr (ci, fse)) := by rw [e_w2_1, aw_up_o _ (by omega)]; exact k_x0
    replace k_q1 : w2_1 q1 = some (aw_ra E (N + max 1 (N / 2)) (va_up (va_cpy f (fun _ => none) 0 0 N) N (some x0))) := by rw [e_w2_1]; exact aw_up_s _ _ _
    refine w_aload_n C dJx4a65c_add_72be8_15 rfl ?_
    refine w_iload_n C dJx4a65c_add_72be8_16 rfl ?_
    refine w_iconst C dJx4a65c_add_72be8_17 ?_
    refine w_iadd C dJx4a65c_add_72be8_18 ?_
    refine w_put (ci := 0) (i := 2) C iw_Jx4a65c rfl (by decide) (Or.inl rfl) tyJx4a65c tyJx4a65c_ok nmJx4a65c rfl rfl fl_Jx4a65c_48 k_L (Nat.le_of_ble_eq_true rfl) rfl rfl dJx4a65c_add_72be8_19 ?_
    obtain ⟨w3_2, e_w3_2⟩ : ∃ x : Nat → Option va_E, x = aw_up w2_1 L (.inr (0, [ii_v mz, .ref q1, ii_v ((N : Nat) : Int)].set 2 (ii_v (((N : Nat) : Int) + 1)))) := ⟨_, rfl⟩
    rw [← e_w3_2]
    replace k_a : w3_2 a = some (aw_ra E N f) := by rw [e_w3_2, aw_up_o _ (by omega)]; exact k_a
    replace k_x0 : w3_2 x0 = some (.inr (ci, fse)) := by rw [e_w3_2, aw_up_o _ (by omega)]; exact k_x0
    replace k_q1 : w3_2 q1 = some (aw_ra E (N + max 1 (N / 2)) (va_up (va_cpy f (fun _ => none) 0 0 N) N (some x0))) := by rw [e_w3_2, aw_up_o _ (by omega)]; exact k_q1
    replace k_L : w3_2 L = some (.inr (0, [ii_v mz, .ref q1, ii_v (((N : Nat) : Int) + 1)])) := by rw [e_w3_2]; exact aw_up_s _ _ _
    refine w_vret C ?_ (by omega) (by omega) dJx4a65c_add_72be8_22
    rw [hPost]
    exact ⟨q1, rfl, t0, k_q1, k_L, fun b h_L h_q1 => by rw [e_w3_2, aw_up_o _ h_L, e_w2_1, aw_up_o _ h_q1, f_w1_0 b h_L h_q1]⟩
set_option maxRecDepth 20000 in
set_option maxHeartbeats 4000000 in
theorem l_addR {l : Launch} {E : ab_E} {base : Nat} (hl : l.stackTraces = false) (cw : Nat → Option va_E) (L : Nat) (mz : Int) (ci : Nat) (rr : vw_C) (hrr : vwCl[ci]? = some rr) (hca : Cond.castable rr.1 "java/lang/Object" ∈ ab_nest) (x0 : Nat) (fse : List Value) (hxL : x0 ≠ L) (cn N a : Nat) (f : Nat → Option Nat) (hcN : cn < N) (hN9 : N ≤ 90) (haL : a ≠ L) (hxa : x0 ≠ a)  (k_L : cw L = some (.inr (0, [ii_v mz, .ref a, ii_v ((cn : Nat) : Int)]))) (k_a : cw a = some (aw_ra E N f)) (k_x0 : cw x0 = some (.inr (ci, fse))) : aw_M l E base yJx4a65c_add_9ea2d cJx4a65c_add_9ea2d 2 (some .boolean) 7 1 100 [.ref L, .ref x0] cw (fun v c1 => v = some (ii_v 1) ∧ c1 L = some (.inr (0, [ii_v (mz + 1), .ref a, ii_v (((cn : Nat) : Int) + 1)])) ∧ c1 a = some (aw_ra E N (va_up f cn (some x0))) ∧ ∀ b : Nat, b ≠ L → b ≠ a → c1 b = cw b) := by
  obtain ⟨Post, hPost⟩ : ∃ P : Option Value → (Nat → Option va_E) → Prop, P = (fun v c1 => v = some (ii_v 1) ∧ c1 L = some (.inr (0, [ii_v (mz + 1), .ref a, ii_v (((cn : Nat) : Int) + 1)])) ∧ c1 a = some (aw_ra E N (va_up f cn (some x0))) ∧ ∀ b : Nat, b ≠ L → b ≠ a → c1 b = cw b) := ⟨_, rfl⟩
  rw [← hPost]
  refine aw_of RJx4a65c [(0, .ref L), (1, .ref x0)] hl (by decide) rfl (Nat.le_of_ble_eq_true rfl) rfl ?_
  intro p e s m args below meth c C hnm
  refine w_aload_n C dJx4a65c_add_9ea2d_0 rfl ?_
  refine w_dup C dJx4a65c_add_9ea2d_1 rfl ?_
  refine w_get (ci := 0) (i := 0) (v := ii_v mz) C iw_Jx4a65c rfl (by decide) (Or.inr sm_143) fl_Jx4a65c_63 k_L rfl dJx4a65c_add_9ea2d_2 ?_
  refine w_iconst C dJx4a65c_add_9ea2d_5 ?_
  refine w_iadd C dJx4a65c_add_9ea2d_6 ?_
  refine w_put (ci := 0) (i := 0) C iw_Jx4a65c rfl (by decide) (Or.inr sm_143) tyJx4a65c tyJx4a65c_ok nmJx4a65c rfl rfl fl_Jx4a65c_63 k_L (Nat.le_of_ble_eq_true rfl) rfl rfl dJx4a65c_add_9ea2d_7 ?_
  obtain ⟨w1_0, e_w1_0⟩ : ∃ x : Nat → Option va_E, x = aw_up cw L (.inr (0, [ii_v mz, .ref a, ii_v ((cn : Nat) : Int)].set 0 (ii_v (mz + 1)))) := ⟨_, rfl⟩
  rw [← e_w1_0]
  replace k_a : w1_0 a = some (aw_ra E N f) := by rw [e_w1_0, aw_up_o _ (by omega)]; exact k_a
  replace k_x0 : w1_0 x0 = some (.inr (ci, fse)) := by rw [e_w1_0, aw_up_o _ (by omega)]; exact k_x0
  replace k_L : w1_0 L = some (.inr (0, [ii_v (mz + 1), .ref a, ii_v ((cn : Nat) : Int)])) := by rw [e_w1_0]; exact aw_up_s _ _ _
  refine w_aload_n C dJx4a65c_add_9ea2d_10 rfl ?_
  refine w_aload_n C dJx4a65c_add_9ea2d_11 rfl ?_
  refine w_aload_n C dJx4a65c_add_9ea2d_12 rfl ?_
  refine w_get (ci := 0) (i := 1) (v := .ref a) C iw_Jx4a65c rfl (by decide) (Or.inl rfl) fl_Jx4a65c_9 k_L rfl dJx4a65c_add_9ea2d_13 ?_
  refine w_aload_n C dJx4a65c_add_9ea2d_16 rfl ?_
  refine w_get (ci := 0) (i := 2) (v := ii_v ((cn : Nat) : Int)) C iw_Jx4a65c rfl (by decide) (Or.inl rfl) fl_Jx4a65c_48 k_L rfl dJx4a65c_add_9ea2d_17 ?_
  refine w_callV (b := L) (As := [.ref x0, .ref a, ii_v ((cn : Nat) : Int)]) C (l_add3R hl w1_0 L (mz + 1) ci rr hrr hca x0 fse hxL cn N a f hcN hN9 haL hxa k_L k_a k_x0) co_Jx4a65c_add_72be8 in_Jx4a65c ml_Jx4a65c_131 im_Jx4a65c_add_72be8 se_Jx4a65c_add_72be8 rfl k_L ar_Jx4a65c_add_72be8 ⟨by decide, by decide, by omega, by omega⟩ rfl (Nat.le_of_ble_eq_true rfl) dJx4a65c_add_9ea2d_20 ?_
  intro v_w2_1 w2_1 z_w2_1
  obtain ⟨rfl, n_w2_1_L, n_w2_1_a, f_w2_1⟩ := z_w2_1
  replace k_x0 : w2_1 x0 = some (.inr (ci, fse)) := by rw [f_w2_1 _ (by omega) (by omega)]; exact k_x0
  replace k_L := n_w2_1_L
  replace k_a := n_w2_1_a
  refine w_vd ?_
  refine w_iconst C dJx4a65c_add_9ea2d_23 ?_
  refine w_zret C (by decide) ?_ (by omega) (by omega) dJx4a65c_add_9ea2d_24
  rw [hPost]
  exact ⟨rfl, k_L, k_a, fun b h_L h_a => by rw [f_w2_1 b h_L h_a, e_w1_0, aw_up_o _ h_L]⟩
set_option maxRecDepth 20000 in
set_option maxHeartbeats 4000000 in
theorem l_addF {l : Launch} {E : ab_E} {base : Nat} (hl : l.stackTraces = false) (cw : Nat → Option va_E) (L : Nat) (mz : Int) (ci : Nat) (rr : vw_C) (hrr : vwCl[ci]? = some rr) (hca : Cond.castable rr.1 "java/lang/Object" ∈ ab_nest) (x0 : Nat) (fse : List Value) (hxL : x0 ≠ L)  (k_L : cw L = some (.inr (0, [ii_v mz, .ref E.2.2, ii_v 0]))) (k_x0 : cw x0 = some (.inr (ci, fse))) : aw_M l E base yJx4a65c_add_9ea2d cJx4a65c_add_9ea2d 2 (some .boolean) 7 1 100 [.ref L, .ref x0] cw (fun v c1 => ∃ q1 : Nat, v = some (ii_v 1) ∧ aw_top cw q1 ∧ c1 q1 = some (aw_ra E 10 (va_up (fun _ => none) 0 (some x0))) ∧ c1 L = some (.inr (0, [ii_v (mz + 1), .ref q1, ii_v (0 + 1)])) ∧ ∀ b : Nat, b ≠ L → b ≠ q1 → c1 b = cw b) := by
  obtain ⟨Post, hPost⟩ : ∃ P : Option Value → (Nat → Option va_E) → Prop, P = (fun v c1 => ∃ q1 : Nat, v = some (ii_v 1) ∧ aw_top cw q1 ∧ c1 q1 = some (aw_ra E 10 (va_up (fun _ => none) 0 (some x0))) ∧ c1 L = some (.inr (0, [ii_v (mz + 1), .ref q1, ii_v (0 + 1)])) ∧ ∀ b : Nat, b ≠ L → b ≠ q1 → c1 b = cw b) := ⟨_, rfl⟩
  rw [← hPost]
  refine aw_of RJx4a65c [(0, .ref L), (1, .ref x0)] hl (by decide) rfl (Nat.le_of_ble_eq_true rfl) rfl ?_
  intro p e s m args below meth c C hnm
  refine w_aload_n C dJx4a65c_add_9ea2d_0 rfl ?_
  refine w_dup C dJx4a65c_add_9ea2d_1 rfl ?_
  refine w_get (ci := 0) (i := 0) (v := ii_v mz) C iw_Jx4a65c rfl (by decide) (Or.inr sm_143) fl_Jx4a65c_63 k_L rfl dJx4a65c_add_9ea2d_2 ?_
  refine w_iconst C dJx4a65c_add_9ea2d_5 ?_
  refine w_iadd C dJx4a65c_add_9ea2d_6 ?_
  refine w_put (ci := 0) (i := 0) C iw_Jx4a65c rfl (by decide) (Or.inr sm_143) tyJx4a65c tyJx4a65c_ok nmJx4a65c rfl rfl fl_Jx4a65c_63 k_L (Nat.le_of_ble_eq_true rfl) rfl rfl dJx4a65c_add_9ea2d_7 ?_
  obtain ⟨w1_0, e_w1_0⟩ : ∃ x : Nat → Option va_E, x = aw_up cw L (.inr (0, [ii_v mz, .ref E.2.2, ii_v 0].set 0 (ii_v (mz + 1)))) := ⟨_, rfl⟩
  rw [← e_w1_0]
  replace k_x0 : w1_0 x0 = some (.inr (ci, fse)) := by rw [e_w1_0, aw_up_o _ (by omega)]; exact k_x0
  replace k_L : w1_0 L = some (.inr (0, [ii_v (mz + 1), .ref E.2.2, ii_v 0])) := by rw [e_w1_0]; exact aw_up_s _ _ _
  refine w_aload_n C dJx4a65c_add_9ea2d_10 rfl ?_
  refine w_aload_n C dJx4a65c_add_9ea2d_11 rfl ?_
  refine w_aload_n C dJx4a65c_add_9ea2d_12 rfl ?_
  refine w_get (ci := 0) (i := 1) (v := .ref E.2.2) C iw_Jx4a65c rfl (by decide) (Or.inl rfl) fl_Jx4a65c_9 k_L rfl dJx4a65c_add_9ea2d_13 ?_
  refine w_aload_n C dJx4a65c_add_9ea2d_16 rfl ?_
  refine w_get (ci := 0) (i := 2) (v := ii_v 0) C iw_Jx4a65c rfl (by decide) (Or.inl rfl) fl_Jx4a65c_48 k_L rfl dJx4a65c_add_9ea2d_17 ?_
  refine w_callV (b := L) (As := [.ref x0, .ref E.2.2, ii_v 0]) C (l_add3F hl w1_0 L (mz + 1) ci rr hrr hca x0 fse hxL k_L k_x0) co_Jx4a65c_add_72be8 in_Jx4a65c ml_Jx4a65c_131 im_Jx4a65c_add_72be8 se_Jx4a65c_add_72be8 rfl k_L ar_Jx4a65c_add_72be8 ⟨by decide, by decide, by omega, by omega⟩ rfl (Nat.le_of_ble_eq_true rfl) dJx4a65c_add_9ea2d_20 ?_
  intro v_w2_1 w2_1 z_w2_1
  obtain ⟨q1, rfl, t_q1, k_q1, n_w2_1_L, f_w2_1⟩ := z_w2_1
  have l_L_q1 : L < q1 := t_q1 _ _ k_L
  have l_x0_q1 : x0 < q1 := t_q1 _ _ k_x0
  have t0 : aw_top cw q1 := fun b e0 hb => if h_L : b = L then h_L ▸ t_q1 _ _ k_L else t_q1 b e0 (by rw [e_w1_0, aw_up_o _ h_L]; exact hb)
  replace k_x0 : w2_1 x0 = some (.inr (ci, fse)) := by rw [f_w2_1 _ (by omega) (by omega)]; exact k_x0
  replace k_L := n_w2_1_L
  refine w_vd ?_
  refine w_iconst C dJx4a65c_add_9ea2d_23 ?_
  refine w_zret C (by decide) ?_ (by omega) (by omega) dJx4a65c_add_9ea2d_24
  rw [hPost]
  exact ⟨q1, rfl, t0, k_q1, k_L, fun b h_L h_q1 => by rw [f_w2_1 b h_L h_q1, e_w1_0, aw_up_o _ h_L]⟩
set_option maxRecDepth 20000 in
set_option maxHeartbeats 4000000 in
theorem l_addG {l : Launch} {E : ab_E} {base : Nat} (hl : l.stackTraces = false) (cw : Nat → Option va_E) (L : Nat) (mz : Int) (ci : Nat) (rr : vw_C) (hrr : vwCl[ci]? = some rr) (hca : Cond.castable rr.1 "java/lang/Object" ∈ ab_nest) (x0 : Nat) (fse : List Value) (hxL : x0 ≠ L) (a : Nat) (N : Nat) (f : Nat → Option Nat) (hel : ∀ i : Nat, i < N → ∀ y : Nat, f i = some y → ∃ fs : List Value, cw y = some (.inr (ci, fs))) (hN1 : 1 ≤ N) (hN2 : N ≤ 40) (haE : a ≠ L) (hxa : x0 ≠ a) (hyL : ∀ i : Nat, i < N → ∀ y : Nat, f i = some y → y ≠ L)  (k_L : cw L = some (.inr (0, [ii_v mz, .ref a, ii_v ((N : Nat) : Int)]))) (k_a : cw a = some (aw_ra E N f)) (k_x0 : cw x0 = some (.inr (ci, fse))) : aw_M l E base yJx4a65c_add_9ea2d cJx4a65c_add_9ea2d 2 (some .boolean) 7 1 100 [.ref L, .ref x0] cw (fun v c1 => ∃ q1 : Nat, v = some (ii_v 1) ∧ aw_top cw q1 ∧ c1 q1 = some (aw_ra E (N + max 1 (N / 2)) (va_up (va_cpy f (fun _ => none) 0 0 N) N (some x0))) ∧ c1 L = some (.inr (0, [ii_v (mz + 1), .ref q1, ii_v (((N : Nat) : Int) + 1)])) ∧ ∀ b : Nat, b ≠ L → b ≠ q1 → c1 b = cw b) := by
  obtain ⟨Post, hPost⟩ : ∃ P : Option Value → (Nat → Option va_E) → Prop, P = (fun v c1 => ∃ q1 : Nat, v = some (ii_v 1) ∧ aw_top cw q1 ∧ c1 q1 = some (aw_ra E (N + max 1 (N / 2)) (va_up (va_cpy f (fun _ => none) 0 0 N) N (some x0))) ∧ c1 L = some (.inr (0, [ii_v (mz + 1), .ref q1, ii_v (((N : Nat) : Int) + 1)])) ∧ ∀ b : Nat, b ≠ L → b ≠ q1 → c1 b = cw b) := ⟨_, rfl⟩
  rw [← hPost]
  refine aw_of RJx4a65c [(0, .ref L), (1, .ref x0)] hl (by decide) rfl (Nat.le_of_ble_eq_true rfl) rfl ?_
  intro p e s m args below meth c C hnm
  refine w_aload_n C dJx4a65c_add_9ea2d_0 rfl ?_
  refine w_dup C dJx4a65c_add_9ea2d_1 rfl ?_
  refine w_get (ci := 0) (i := 0) (v := ii_v mz) C iw_Jx4a65c rfl (by decide) (Or.inr sm_143) fl_Jx4a65c_63 k_L rfl dJx4a65c_add_9ea2d_2 ?_
  refine w_iconst C dJx4a65c_add_9ea2d_5 ?_
  refine w_iadd C dJx4a65c_add_9ea2d_6 ?_
  refine w_put (ci := 0) (i := 0) C iw_Jx4a65c rfl (by decide) (Or.inr sm_143) tyJx4a65c tyJx4a65c_ok nmJx4a65c rfl rfl fl_Jx4a65c_63 k_L (Nat.le_of_ble_eq_true rfl) rfl rfl dJx4a65c_add_9ea2d_7 ?_
  obtain ⟨w1_0, e_w1_0⟩ : ∃ x : Nat → Option va_E, x = aw_up cw L (.inr (0, [ii_v mz, .ref a, ii_v ((N : Nat) : Int)].set 0 (ii_v (mz + 1)))) := ⟨_, rfl⟩
  rw [← e_w1_0]
  replace k_a : w1_0 a = some (aw_ra E N f) := by rw [e_w1_0, aw_up_o _ (by omega)]; exact k_a
  replace k_x0 : w1_0 x0 = some (.inr (ci, fse)) := by rw [e_w1_0, aw_up_o _ (by omega)]; exact k_x0
  replace k_L : w1_0 L = some (.inr (0, [ii_v (mz + 1), .ref a, ii_v ((N : Nat) : Int)])) := by rw [e_w1_0]; exact aw_up_s _ _ _
  refine w_aload_n C dJx4a65c_add_9ea2d_10 rfl ?_
  refine w_aload_n C dJx4a65c_add_9ea2d_11 rfl ?_
  refine w_aload_n C dJx4a65c_add_9ea2d_12 rfl ?_
  refine w_get (ci := 0) (i := 1) (v := .ref a) C iw_Jx4a65c rfl (by decide) (Or.inl rfl) fl_Jx4a65c_9 k_L rfl dJx4a65c_add_9ea2d_13 ?_
  refine w_aload_n C dJx4a65c_add_9ea2d_16 rfl ?_
  refine w_get (ci := 0) (i := 2) (v := ii_v ((N : Nat) : Int)) C iw_Jx4a65c rfl (by decide) (Or.inl rfl) fl_Jx4a65c_48 k_L rfl dJx4a65c_add_9ea2d_17 ?_
  refine w_callV (b := L) (As := [.ref x0, .ref a, ii_v ((N : Nat) : Int)]) C (l_add3G hl w1_0 L (mz + 1) ci rr hrr hca x0 fse hxL a N f (fun i hi y hy => by obtain ⟨fs, hz⟩ := hel i hi y hy; exact ⟨fs, by rw [e_w1_0, aw_up_o _ (hyL i hi y hy)]; exact hz⟩) hN1 hN2 haE hxa k_L k_a k_x0) co_Jx4a65c_add_72be8 in_Jx4a65c ml_Jx4a65c_131 im_Jx4a65c_add_72be8 se_Jx4a65c_add_72be8 rfl k_L ar_Jx4a65c_add_72be8 ⟨by decide, by decide, by omega, by omega⟩ rfl (Nat.le_of_ble_eq_true rfl) dJx4a65c_add_9ea2d_20 ?_
  intro v_w2_1 w2_1 z_w2_1
  obtain ⟨q1, rfl, t_q1, k_q1, n_w2_1_L, f_w2_1⟩ := z_w2_1
  have l_L_q1 : L < q1 := t_q1 _ _ k_L
  have l_a_q1 : a < q1 := t_q1 _ _ k_a
  have l_x0_q1 : x0 < q1 := t_q1 _ _ k_x0
  have t0 : aw_top cw q1 := fun b e0 hb => if h_L : b = L then h_L ▸ t_q1 _ _ k_L else t_q1 b e0 (by rw [e_w1_0, aw_up_o _ h_L]; exact hb)
  replace k_a : w2_1 a = some (aw_ra E N f) := by rw [f_w2_1 _ (by omega) (by omega)]; exact k_a
  replace k_x0 : w2_1 x0 = some (.inr (ci, fse)) := by rw [f_w2_1 _ (by omega) (by omega)]; exact k_x0
  replace k_L := n_w2_1_L
  refine w_vd ?_
  refine w_iconst C dJx4a65c_add_9ea2d_23 ?_
  refine w_zret C (by decide) ?_ (by omega) (by omega) dJx4a65c_add_9ea2d_24
  rw [hPost]
  exact ⟨q1, rfl, t0, k_q1, k_L, fun b h_L h_q1 => by rw [f_w2_1 b h_L h_q1, e_w1_0, aw_up_o _ h_L]⟩
