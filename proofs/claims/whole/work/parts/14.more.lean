/-! Math's functions; what is thrown. -/
section More
variable {p : Program} {l : Launch} {e : Env} {s : State} {m : MethodId} {args : Array Value} {below : List Frame} {meth : Method} {c : Code} {E : ab_E} {base nL : Nat} {Q : State → Prop}
variable {own : String} {cc : ByteArray} {ret : Option FieldType} {x : ab_X} {ad : Nat → Nat} {z : ab_H} {k n pc d0 mc0 ms0 index : Nat} {L : List (Nat × Value)} {st : List Value}
theorem ii_absN {a : Int} (h : ii_B a) : (if 0 ≤ ii_n a then ii_n a else 0 - ii_n a) = ii_n (a.natAbs : Int) := by
  rw [show (0 : Int32) = ii_n 0 from rfl, ii_sub]
  by_cases h0 : 0 ≤ a
  · rw [if_pos ((ii_le ii_B0 h).mpr h0)]
    congr 1
    omega
  · rw [if_neg (fun q => h0 ((ii_le ii_B0 h).mp q))]
    congr 1
    omega
theorem ii_maxN {a b : Int} (ha : ii_B a) (hb : ii_B b) : (if ii_n a < ii_n b then ii_n b else ii_n a) = ii_n (max a b) := by
  by_cases h0 : a < b
  · rw [if_pos ((ii_lt ha hb).mpr h0)]
    congr 1
    omega
  · rw [if_neg (fun q => h0 ((ii_lt ha hb).mp q))]
    congr 1
    omega
theorem ii_minN {a b : Int} (ha : ii_B a) (hb : ii_B b) : (if ii_n b < ii_n a then ii_n b else ii_n a) = ii_n (min a b) := by
  by_cases h0 : b < a
  · rw [if_pos ((ii_lt hb ha).mpr h0)]
    congr 1
    omega
  · rw [if_neg (fun q => h0 ((ii_lt hb ha).mp q))]
    congr 1
    omega
theorem a_abs {a : Int} (C : ab_C p l s m args meth c E base nL own cc ret) (hl : Cond.methodLink own index Lib.Math.abs.name ∈ ab_all) (d : decode cc pc = .ok (.invokestatic index, 3)) (hd : 1 ≤ d0) (hcat : (st.map fun v => v.category).sum ≤ 8) (hk : k ≤ mc0 ∧ n ≤ ms0) (ha : ii_B a) (K : ab_W p l e (ab_rm d0 mc0 ms0) s m args below meth c E base nL Q x ad z k n (pc + 3) L (ii_v (a.natAbs : Int) :: st)) : ab_W p l e (ab_rm d0 mc0 ms0) s m args below meth c E base nL Q x ad z k n pc L (ii_v a :: st) :=
  fun H lo ls h1 h2 h3 => va_mabs C.1 C.2.1 (C.2.2.2.1.trans h3.1.symm) C.2.2.2.2.1 (C.2.2.2.2.2.1 _ hl) (C.2.2.2.2.2.1 _ sc_J9_abs_0f7a4) (C.2.2.2.2.2.1 _ in_J9) (C.2.2.2.2.2.1 _ co_J9_abs_0f7a4) hd (by show _ ≤ 60 * d0 + 100; omega) hk.1 hk.2 d (by rw [ii_absN ha]; exact K H lo ls h1 h2 h3)
theorem a_max {a b : Int} (C : ab_C p l s m args meth c E base nL own cc ret) (hl : Cond.methodLink own index Lib.Math.max.name ∈ ab_all) (d : decode cc pc = .ok (.invokestatic index, 3)) (hd : 1 ≤ d0) (hcat : (st.map fun v => v.category).sum ≤ 8) (hk : k ≤ mc0 ∧ n ≤ ms0) (ha : ii_B a) (hb : ii_B b) (K : ab_W p l e (ab_rm d0 mc0 ms0) s m args below meth c E base nL Q x ad z k n (pc + 3) L (ii_v (max a b) :: st)) : ab_W p l e (ab_rm d0 mc0 ms0) s m args below meth c E base nL Q x ad z k n pc L (ii_v b :: ii_v a :: st) :=
  fun H lo ls h1 h2 h3 => va_mmax C.1 C.2.1 (C.2.2.2.1.trans h3.1.symm) C.2.2.2.2.1 (C.2.2.2.2.2.1 _ hl) (C.2.2.2.2.2.1 _ sc_J9_max_7cf53) (C.2.2.2.2.2.1 _ in_J9) (C.2.2.2.2.2.1 _ co_J9_max_7cf53) hd (by show _ ≤ 60 * d0 + 100; omega) hk.1 hk.2 d (by rw [ii_maxN ha hb]; exact K H lo ls h1 h2 h3)
theorem a_min {a b : Int} (C : ab_C p l s m args meth c E base nL own cc ret) (hl : Cond.methodLink own index Lib.Math.min.name ∈ ab_all) (d : decode cc pc = .ok (.invokestatic index, 3)) (hd : 1 ≤ d0) (hcat : (st.map fun v => v.category).sum ≤ 8) (hk : k ≤ mc0 ∧ n ≤ ms0) (ha : ii_B a) (hb : ii_B b) (K : ab_W p l e (ab_rm d0 mc0 ms0) s m args below meth c E base nL Q x ad z k n (pc + 3) L (ii_v (min a b) :: st)) : ab_W p l e (ab_rm d0 mc0 ms0) s m args below meth c E base nL Q x ad z k n pc L (ii_v b :: ii_v a :: st) :=
  fun H lo ls h1 h2 h3 => va_mmin C.1 C.2.1 (C.2.2.2.1.trans h3.1.symm) C.2.2.2.2.1 (C.2.2.2.2.2.1 _ hl) (C.2.2.2.2.2.1 _ sc_J9_min_7cf53) (C.2.2.2.2.2.1 _ in_J9) (C.2.2.2.2.2.1 _ co_J9_min_7cf53) hd (by show _ ≤ 60 * d0 + 100; omega) hk.1 hk.2 d (by rw [ii_minN ha hb]; exact K H lo ls h1 h2 h3)
abbrev ab_rt : List String := ["java/lang/RuntimeException", "java/lang/Exception"]
def ab_inb (L : List Cond) : Bool := L.all (fun w => decide (w ∈ lw_tbl) && (goodWord w || ab_isN w))
def ab_xw (L : List Cond) : Prop := ∀ w ∈ L, w ∈ ab_all ∨ w ∈ ab_nest
theorem ab_inb_of {L : List Cond} (h : ab_inb L = true) : ab_xw L := by
  intro w hw
  have h1 := List.all_eq_true.mp h w hw
  simp only [Bool.and_eq_true, decide_eq_true_eq, Bool.or_eq_true] at h1
  rcases h1.2 with h2 | h2
  · exact Or.inl (List.mem_filter.mpr ⟨h1.1, h2⟩)
  · exact Or.inr (List.mem_filter.mpr ⟨h1.1, h2⟩)
theorem xw_IAE : ab_xw (vx_atS RX9 76 "java/lang/IllegalArgumentException" ab_rt) := ab_inb_of (by decide +kernel)
theorem xw_ISE : ab_xw (vx_atS RX9 95 "java/lang/IllegalStateException" ab_rt) := ab_inb_of (by decide +kernel)
theorem xw_UOE : ab_xw (vx_atS RX9 327 "java/lang/UnsupportedOperationException" ab_rt) := ab_inb_of (by decide +kernel)
theorem xw_IOB : ab_xw (vx_atS RX9 318 "java/lang/IndexOutOfBoundsException" ab_rt) := ab_inb_of (by decide +kernel)
theorem ab_vot {w : Cond} (h : w ∈ ab_all) : vx_ot w = true := by
  have h2 : goodWord w = true := (List.mem_filter.mp h).2
  unfold vx_ot
  rw [h2, Bool.or_true]
theorem ab_onN {w : Cond} (h : w ∈ ab_nest) : w.onTables = true := by
  have h2 : ab_isN w = true := (List.mem_filter.mp h).2
  cases w <;> first | rfl | (cases h2; done)
theorem ab_votN {w : Cond} (h : w ∈ ab_nest) : vx_ot w = true := by
  unfold vx_ot
  rw [ab_onN h, Bool.true_or]
theorem ab_useN (C : ab_C p l s m args meth c E base nL own cc ret) {w : Cond} (h : w ∈ ab_nest) : w.before args s = true := va_Nw.use (ab_onN h) (C.2.2.2.2.2.2.2.2.1.2.2.2.2.2 w h)
variable {mc ms d1 : Nat} {Post : ab_P}
theorem a_throw {X text : String} {ik is ic : Nat} (C : ab_C p l s m args meth c E base nL RX9 cc ret) (T0 : ∀ q ∈ c.exceptionTable.toList, False) (hX : Bundle.fit X = true) (hl : Cond.classLink RX9 ik X ∈ ab_all) (hin : Cond.initialized X ∈ ab_all) (hat : ab_xw (vx_atS RX9 ic X ab_rt)) (htx : (is, text) ∈ ab_strs)
    (e0 : decode cc pc = .ok (.new ik, 3)) (e3 : decode cc (pc + 3) = .ok (.dup, 1)) (e4 : decode cc (pc + 4) = .ok (.ldc is, 2)) (e6 : decode cc (pc + 6) = .ok (.invokespecial ic, 3)) (e9 : decode cc (pc + 9) = .ok (.athrow, 1)) (hP : Post (.inr X) x ad z) (hr : 6 ≤ d1 ∧ k + 1 ≤ mc ∧ n + 6 ≤ ms) (hcat : (st.map fun v => v.category).sum ≤ 8) :
    ab_W p l e (ab_rm d1 mc ms) s m args below meth c E base nL (ab_Q below E base Post args s mc ms) x ad z k n pc L st := by
  intro H lo ls h1 h2 h3
  have hts := C.2.2.2.2.2.1
  have hSF := C.2.2.2.2.2.2.2.2.1
  obtain ⟨sa, hsa⟩ := hSF.2.2.2.2.1 _ htx
  exact vx_throwS (own := RX9) (text := text) (names := ab_rt) (sa := sa) (A := ab_A base) C.1 C.2.1 C.2.2.2.2.2.2.2.1 C.2.2.2.2.1 hX (by decide) (hts _ hl) (hts _ hin) hsa (fun w hw => (hat w hw).elim (fun h => hts w h) (fun h => ab_useN C h)) (fun w hw => by
      rcases List.mem_cons.mp hw with rfl | hw
      · exact ab_vot hl
      · rcases List.mem_cons.mp hw with rfl | hw
        · exact ab_vot hin
        · exact (hat w hw).elim ab_vot ab_votN) hSF.1 hSF.2.1 h2 (h3.1.trans C.2.2.2.1.symm) e0 e3 e4 e6 e9 (fun q hq => (T0 q hq).elim) (by show 2 + 3 < d1; omega) (by show _ + (13 * (2 + 1) + 43) ≤ 60 * d1 + 100; omega) hr.2.1 hr.2.2 C.2.2.2.2.2.2.1
    (fun t hA hz hq => ⟨⟨x, ad, z, hP, ab_HM_kept (ab_HM_moved hA h1) hz hq⟩, Nat.le_trans h2.1 hz, fun q hq1 hq2 => (hq q (Nat.lt_of_lt_of_le hq1 h2.1)).trans (h2.2.1 q hq1 hq2)⟩) h2.2.2 hr.2.1 hr.2.2
theorem a_throwW {X text : String} {ik is ic : Nat} (C : ab_C p l s m args meth c E base nL RX9 cc ret) (T0 : ∀ q ∈ c.exceptionTable.toList, False) (hX : Bundle.fit X = true) (hl : Cond.classLink RX9 ik X ∈ ab_all) (hin : Cond.initialized X ∈ ab_all) (hat : ab_xw (vx_atS RX9 ic X ab_rt)) (htx : (is, text) ∈ ab_strs)
    (e0 : decode cc pc = .ok (.new ik, 3)) (e3 : decode cc (pc + 3) = .ok (.dup, 1)) (e4 : decode cc (pc + 4) = .ok (.ldc_w is, 3)) (e7 : decode cc (pc + 7) = .ok (.invokespecial ic, 3)) (e10 : decode cc (pc + 10) = .ok (.athrow, 1)) (hP : Post (.inr X) x ad z) (hr : 6 ≤ d1 ∧ k + 1 ≤ mc ∧ n + 6 ≤ ms) (hcat : (st.map fun v => v.category).sum ≤ 8) :
    ab_W p l e (ab_rm d1 mc ms) s m args below meth c E base nL (ab_Q below E base Post args s mc ms) x ad z k n pc L st := by
  intro H lo ls h1 h2 h3
  have hts := C.2.2.2.2.2.1
  have hSF := C.2.2.2.2.2.2.2.2.1
  obtain ⟨sa, hsa⟩ := hSF.2.2.2.2.1 _ htx
  exact vx_throwSW (own := RX9) (text := text) (names := ab_rt) (sa := sa) (A := ab_A base) C.1 C.2.1 C.2.2.2.2.2.2.2.1 C.2.2.2.2.1 hX (by decide) (hts _ hl) (hts _ hin) hsa (fun w hw => (hat w hw).elim (fun h => hts w h) (fun h => ab_useN C h)) (fun w hw => by
      rcases List.mem_cons.mp hw with rfl | hw
      · exact ab_vot hl
      · rcases List.mem_cons.mp hw with rfl | hw
        · exact ab_vot hin
        · exact (hat w hw).elim ab_vot ab_votN) hSF.1 hSF.2.1 h2 (h3.1.trans C.2.2.2.1.symm) e0 e3 e4 e7 e10 (fun q hq => (T0 q hq).elim) (by show 2 + 3 < d1; omega) (by show _ + (13 * (2 + 1) + 43) ≤ 60 * d1 + 100; omega) hr.2.1 hr.2.2 C.2.2.2.2.2.2.1
    (fun t hA hz hq => ⟨⟨x, ad, z, hP, ab_HM_kept (ab_HM_moved hA h1) hz hq⟩, Nat.le_trans h2.1 hz, fun q hq1 hq2 => (hq q (Nat.lt_of_lt_of_le hq1 h2.1)).trans (h2.2.1 q hq1 hq2)⟩) h2.2.2 hr.2.1 hr.2.2
end More
