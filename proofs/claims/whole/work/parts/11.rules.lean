/-! The rows over AW that touch locals, the stack and the counter alone. -/
section RowsA
/-- what a local holds -/
def ab_lk : List (Nat × Value) → Nat → Option Value
  | [], _ => none
  | q :: L, i => if q.1 = i then some q.2 else ab_lk L i
theorem ab_lk_mem {L : List (Nat × Value)} {i : Nat} {v : Value} (h : ab_lk L i = some v) : (i, v) ∈ L := by
  induction L with
  | nil => cases h
  | cons q L ih =>
    unfold ab_lk at h
    by_cases hq : q.1 = i
    · rw [if_pos hq] at h
      cases h
      rw [← hq]
      exact List.mem_cons_self
    · rw [if_neg hq] at h
      exact List.mem_cons_of_mem _ (ih h)
/-- a local written, at its place -/
def ab_sl : List (Nat × Value) → Nat → Value → List (Nat × Value)
  | [], i, v => [(i, v)]
  | q :: L, i, v => if q.1 = i then (i, v) :: L.filter (fun q => !(q.1 == i) && !(q.1 + 1 == i && q.2.category == 2)) else if (q.1 + 1 == i && q.2.category == 2) = true then ab_sl L i v else q :: ab_sl L i v
theorem ab_sl_mem {L : List (Nat × Value)} {i : Nat} {v : Value} {q : Nat × Value} (h : q ∈ ab_sl L i v) : q ∈ (i, v) :: L.filter (fun q => !(q.1 == i) && !(q.1 + 1 == i && q.2.category == 2)) := by
  induction L with
  | nil => simpa [ab_sl] using h
  | cons r L ih =>
    unfold ab_sl at h
    by_cases hr : r.1 = i
    · rw [if_pos hr] at h
      rcases List.mem_cons.mp h with h | h
      · exact List.mem_cons.mpr (Or.inl h)
      · refine List.mem_cons_of_mem _ ?_
        rw [List.filter_cons]
        split
        · exact List.mem_cons_of_mem _ h
        · exact h
    · rw [if_neg hr] at h
      by_cases h2 : (r.1 + 1 == i && r.2.category == 2) = true
      · rw [if_pos h2] at h
        rcases List.mem_cons.mp (ih h) with h | h
        · exact List.mem_cons.mpr (Or.inl h)
        · refine List.mem_cons_of_mem _ ?_
          rw [List.filter_cons]
          split
          · exact List.mem_cons_of_mem _ h
          · exact h
      · rw [if_neg h2] at h
        rcases List.mem_cons.mp h with h | h
        · subst h
          refine List.mem_cons_of_mem _ (List.mem_filter.mpr ⟨List.mem_cons_self, ?_⟩)
          have h3 : (q.1 == i) = false := by simpa using hr
          rw [h3, Bool.eq_false_iff.mpr h2]
          rfl
        · rcases List.mem_cons.mp (ih h) with h | h
          · exact List.mem_cons.mpr (Or.inl h)
          · refine List.mem_cons_of_mem _ ?_
            rw [List.filter_cons]
            split
            · exact List.mem_cons_of_mem _ h
            · exact h
theorem ab_sl_has {ls : Array Slot} {nL : Nat} {L : List (Nat × Value)} {i : Nat} {v : Value} (h : lv_has ls nL ((i, v) :: L.filter (fun q => !(q.1 == i) && !(q.1 + 1 == i && q.2.category == 2)))) : lv_has ls nL (ab_sl L i v) := ⟨h.1, h.2.1, fun q hq => h.2.2 q (ab_sl_mem hq)⟩
theorem ab_has_sub {ls : Array Slot} {nL : Nat} {L L' : List (Nat × Value)} (h : lv_has ls nL L) (hs : ∀ q ∈ L', q ∈ L) : lv_has ls nL L' := ⟨h.1, h.2.1, fun q hq => h.2.2 q (hs q hq)⟩
variable {p : Program} {l : Launch} {e : Env} {R : Room} {s : State} {m : MethodId} {args : Array Value} {below : List Frame} {meth : Method} {c : Code} {E : ab_E} {base nL : Nat} {Q : State → Prop}
variable {own : String} {cc : ByteArray} {ret : Option FieldType} {x : ab_X} {ad : Nat → Nat} {z : ab_H} {k n pc : Nat} {L : List (Nat × Value)} {st : List Value}
theorem a_iconst {v : Int} (C : ab_C p l s m args meth c E base nL own cc ret) (d : decode cc pc = .ok (.iconst v, 1)) (K : ab_W p l e R s m args below meth c E base nL Q x ad z k n (pc+1) L (ii_v v :: st)) : ab_W p l e R s m args below meth c E base nL Q x ad z k n pc L st :=
  fun H lo ls h1 h2 h3 => lv_iconst C.1 C.2.1 d rfl (K H lo ls h1 h2 h3)
theorem a_bipush {v : Int} (C : ab_C p l s m args meth c E base nL own cc ret) (d : decode cc pc = .ok (.bipush v, 2)) (hv : (Int8.ofInt v).toInt32 = ii_n v) (K : ab_W p l e R s m args below meth c E base nL Q x ad z k n (pc+2) L (ii_v v :: st)) : ab_W p l e R s m args below meth c E base nL Q x ad z k n pc L st :=
  fun H lo ls h1 h2 h3 => lv_bipush C.1 C.2.1 d hv (K H lo ls h1 h2 h3)
theorem a_sipush {v : Int} (C : ab_C p l s m args meth c E base nL own cc ret) (d : decode cc pc = .ok (.sipush v, 3)) (hv : (Int16.ofInt v).toInt32 = ii_n v) (K : ab_W p l e R s m args below meth c E base nL Q x ad z k n (pc+3) L (ii_v v :: st)) : ab_W p l e R s m args below meth c E base nL Q x ad z k n pc L st :=
  fun H lo ls h1 h2 h3 => lv_sipush C.1 C.2.1 d hv (K H lo ls h1 h2 h3)
theorem a_ldc {v : Int} {i : Nat} (C : ab_C p l s m args meth c E base nL own cc ret) (d : decode cc pc = .ok (.ldc i, 2)) (hk : Cond.constant own i (ii_n v) ∈ ab_all) (K : ab_W p l e R s m args below meth c E base nL Q x ad z k n (pc+2) L (ii_v v :: st)) : ab_W p l e R s m args below meth c E base nL Q x ad z k n pc L st :=
  fun H lo ls h1 h2 h3 => lv_ldc C.1 C.2.1 C.2.2.2.2.1 (C.2.2.2.2.2.1 _ hk) d (K H lo ls h1 h2 h3)
theorem a_iload_n {i : Fin 4} {v : Int32} (C : ab_C p l s m args meth c E base nL own cc ret) (d : decode cc pc = .ok (.iload_n i, 1)) (hl : ab_lk L i = some (.int v)) (K : ab_W p l e R s m args below meth c E base nL Q x ad z k n (pc+1) L (.int v :: st)) : ab_W p l e R s m args below meth c E base nL Q x ad z k n pc L st :=
  fun H lo ls h1 h2 h3 => lv_iload_n C.1 C.2.1 d rfl (h3.2.2 _ (ab_lk_mem hl)) (K H lo ls h1 h2 h3)
theorem a_iload {i : Nat} {v : Int32} (C : ab_C p l s m args meth c E base nL own cc ret) (d : decode cc pc = .ok (.iload i, 2)) (hl : ab_lk L i = some (.int v)) (K : ab_W p l e R s m args below meth c E base nL Q x ad z k n (pc+2) L (.int v :: st)) : ab_W p l e R s m args below meth c E base nL Q x ad z k n pc L st :=
  fun H lo ls h1 h2 h3 => lv_iload C.1 C.2.1 d (h3.2.2 _ (ab_lk_mem hl)) (K H lo ls h1 h2 h3)
theorem a_aload_n {i : Fin 4} {v : Nat} (C : ab_C p l s m args meth c E base nL own cc ret) (d : decode cc pc = .ok (.aload_n i, 1)) (hl : ab_lk L i = some (.ref v)) (K : ab_W p l e R s m args below meth c E base nL Q x ad z k n (pc+1) L (.ref v :: st)) : ab_W p l e R s m args below meth c E base nL Q x ad z k n pc L st :=
  fun H lo ls h1 h2 h3 => lv_aload_n C.1 C.2.1 d rfl (h3.2.2 _ (ab_lk_mem hl)) (K H lo ls h1 h2 h3)
theorem a_aload {i : Nat} {v : Nat} (C : ab_C p l s m args meth c E base nL own cc ret) (d : decode cc pc = .ok (.aload i, 2)) (hl : ab_lk L i = some (.ref v)) (K : ab_W p l e R s m args below meth c E base nL Q x ad z k n (pc+2) L (.ref v :: st)) : ab_W p l e R s m args below meth c E base nL Q x ad z k n pc L st :=
  fun H lo ls h1 h2 h3 => lv_aload C.1 C.2.1 d (h3.2.2 _ (ab_lk_mem hl)) (K H lo ls h1 h2 h3)
theorem a_istore_n {i : Fin 4} {v : Int32} (C : ab_C p l s m args meth c E base nL own cc ret) (d : decode cc pc = .ok (.istore_n i, 1)) (hn : (i : Nat) < nL) {L' : List (Nat × Value)} (hL : ab_sl L i (.int v) = L') (K : ab_W p l e R s m args below meth c E base nL Q x ad z k n (pc+1) L' st) : ab_W p l e R s m args below meth c E base nL Q x ad z k n pc L (.int v :: st) :=
  fun H lo ls h1 h2 h3 => lv_istore_n C.1 C.2.1 d rfl h3 hn rfl (fun ls' h => K H lo ls' h1 h2 (hL ▸ ab_sl_has h))
theorem a_istore {i : Nat} {v : Int32} (C : ab_C p l s m args meth c E base nL own cc ret) (d : decode cc pc = .ok (.istore i, 2)) (hn : i < nL) {L' : List (Nat × Value)} (hL : ab_sl L i (.int v) = L') (K : ab_W p l e R s m args below meth c E base nL Q x ad z k n (pc+2) L' st) : ab_W p l e R s m args below meth c E base nL Q x ad z k n pc L (.int v :: st) :=
  fun H lo ls h1 h2 h3 => lv_istore C.1 C.2.1 d h3 hn rfl (fun ls' h => K H lo ls' h1 h2 (hL ▸ ab_sl_has h))
theorem a_astore_n {i : Fin 4} {v : Nat} (C : ab_C p l s m args meth c E base nL own cc ret) (d : decode cc pc = .ok (.astore_n i, 1)) (hn : (i : Nat) < nL) {L' : List (Nat × Value)} (hL : ab_sl L i (.ref v) = L') (K : ab_W p l e R s m args below meth c E base nL Q x ad z k n (pc+1) L' st) : ab_W p l e R s m args below meth c E base nL Q x ad z k n pc L (.ref v :: st) :=
  fun H lo ls h1 h2 h3 => lv_astore_n C.1 C.2.1 d rfl h3 hn rfl (fun ls' h => K H lo ls' h1 h2 (hL ▸ ab_sl_has h))
theorem a_astore {i : Nat} {v : Nat} (C : ab_C p l s m args meth c E base nL own cc ret) (d : decode cc pc = .ok (.astore i, 2)) (hn : i < nL) {L' : List (Nat × Value)} (hL : ab_sl L i (.ref v) = L') (K : ab_W p l e R s m args below meth c E base nL Q x ad z k n (pc+2) L' st) : ab_W p l e R s m args below meth c E base nL Q x ad z k n pc L (.ref v :: st) :=
  fun H lo ls h1 h2 h3 => lv_astore C.1 C.2.1 d h3 hn rfl (fun ls' h => K H lo ls' h1 h2 (hL ▸ ab_sl_has h))
theorem a_iinc {i : Nat} {w a : Int} (C : ab_C p l s m args meth c E base nL own cc ret) (d : decode cc pc = .ok (.iinc i w, 3)) (hl : ab_lk L i = some (ii_v a)) (hn : i < nL) {L' : List (Nat × Value)} (hL : ab_sl L i (ii_v (a + w)) = L') (K : ab_W p l e R s m args below meth c E base nL Q x ad z k n (pc+3) L' st) : ab_W p l e R s m args below meth c E base nL Q x ad z k n pc L st := by
  intro H lo ls h1 h2 h3
  obtain ⟨j, hj⟩ := List.getElem?_of_mem (ab_lk_mem hl)
  exact lv_iinc C.1 C.2.1 d h3 hj (v := ii_n (a + w)) (ii_add a w) hn rfl (fun ls' h => K H lo ls' h1 h2 (hL ▸ ab_sl_has h))
theorem a_iadd {a b : Int} (C : ab_C p l s m args meth c E base nL own cc ret) (d : decode cc pc = .ok (.iadd, 1)) (K : ab_W p l e R s m args below meth c E base nL Q x ad z k n (pc+1) L (ii_v (a + b) :: st)) : ab_W p l e R s m args below meth c E base nL Q x ad z k n pc L (ii_v b :: ii_v a :: st) :=
  fun H lo ls h1 h2 h3 => lv_iadd C.1 C.2.1 d (by rw [ii_add]; exact K H lo ls h1 h2 h3)
theorem a_isub {a b : Int} (C : ab_C p l s m args meth c E base nL own cc ret) (d : decode cc pc = .ok (.isub, 1)) (K : ab_W p l e R s m args below meth c E base nL Q x ad z k n (pc+1) L (ii_v (a - b) :: st)) : ab_W p l e R s m args below meth c E base nL Q x ad z k n pc L (ii_v b :: ii_v a :: st) :=
  fun H lo ls h1 h2 h3 => lv_isub C.1 C.2.1 d (by rw [ii_sub]; exact K H lo ls h1 h2 h3)
theorem a_imul {a b : Int} (C : ab_C p l s m args meth c E base nL own cc ret) (d : decode cc pc = .ok (.imul, 1)) (K : ab_W p l e R s m args below meth c E base nL Q x ad z k n (pc+1) L (ii_v (a * b) :: st)) : ab_W p l e R s m args below meth c E base nL Q x ad z k n pc L (ii_v b :: ii_v a :: st) :=
  fun H lo ls h1 h2 h3 => lv_imul C.1 C.2.1 d (by rw [ii_mul]; exact K H lo ls h1 h2 h3)
theorem a_ineg {a : Int} (C : ab_C p l s m args meth c E base nL own cc ret) (d : decode cc pc = .ok (.ineg, 1)) (K : ab_W p l e R s m args below meth c E base nL Q x ad z k n (pc+1) L (ii_v (-a) :: st)) : ab_W p l e R s m args below meth c E base nL Q x ad z k n pc L (ii_v a :: st) :=
  fun H lo ls h1 h2 h3 => lv_ineg C.1 C.2.1 d (by rw [ii_neg]; exact K H lo ls h1 h2 h3)
theorem ii_div {a b : Int} (ha : 0 ≤ a) (ha2 : a < 2147483648) (hb : 0 < b) (hb2 : b < 2147483648) : ii_n a / ii_n b = ii_n (a / b) := by
  obtain ⟨i, rfl⟩ := Int.eq_ofNat_of_zero_le ha
  obtain ⟨j, rfl⟩ := Int.eq_ofNat_of_zero_le (Int.le_of_lt hb)
  rw [← ii_nI, ← ii_nI, pk_div (by omega) (by omega) (by omega), ii_nI]
  rfl
theorem ii_rem {a b : Int} (ha : 0 ≤ a) (ha2 : a < 2147483648) (hb : 0 < b) (hb2 : b < 2147483648) : ii_n a - ii_n a / ii_n b * ii_n b = ii_n (a % b) := by
  rw [ii_div ha ha2 hb hb2, ii_mul, ii_sub]
  congr 1
  have h := Int.mul_ediv_add_emod a b
  rw [Int.mul_comm] at h
  omega
theorem ii_ne0 {b : Int} (hb : ii_B b) (h : b ≠ 0) : ¬ ii_n b = 0 := by
  intro h1
  exact h ((ii_eq hb (by unfold ii_B; omega)).mp (h1.trans (rfl : (0 : Int32) = ii_n 0)))
theorem a_idiv {a b : Int} (C : ab_C p l s m args meth c E base nL own cc ret) (d : decode cc pc = .ok (.idiv, 1)) (ha : 0 ≤ a ∧ a < 2147483648) (hb : 0 < b ∧ b < 2147483648) (K : ab_W p l e R s m args below meth c E base nL Q x ad z k n (pc+1) L (ii_v (a / b) :: st)) : ab_W p l e R s m args below meth c E base nL Q x ad z k n pc L (ii_v b :: ii_v a :: st) :=
  fun H lo ls h1 h2 h3 => lv_idiv C.1 C.2.1 d (ii_ne0 ⟨by omega, hb.2⟩ (by omega)) (by rw [ii_div ha.1 ha.2 hb.1 hb.2]; exact K H lo ls h1 h2 h3)
theorem a_irem {a b : Int} (C : ab_C p l s m args meth c E base nL own cc ret) (d : decode cc pc = .ok (.irem, 1)) (ha : 0 ≤ a ∧ a < 2147483648) (hb : 0 < b ∧ b < 2147483648) (K : ab_W p l e R s m args below meth c E base nL Q x ad z k n (pc+1) L (ii_v (a % b) :: st)) : ab_W p l e R s m args below meth c E base nL Q x ad z k n pc L (ii_v b :: ii_v a :: st) :=
  fun H lo ls h1 h2 h3 => lv_irem C.1 C.2.1 d (ii_ne0 ⟨by omega, hb.2⟩ (by omega)) (by rw [ii_rem ha.1 ha.2 hb.1 hb.2]; exact K H lo ls h1 h2 h3)
theorem a_iand {v w : Int32} {b : Int} (C : ab_C p l s m args meth c E base nL own cc ret) (d : decode cc pc = .ok (.iand, 1)) (hv : v &&& w = ii_n b) (K : ab_W p l e R s m args below meth c E base nL Q x ad z k n (pc+1) L (ii_v b :: st)) : ab_W p l e R s m args below meth c E base nL Q x ad z k n pc L (.int w :: .int v :: st) :=
  fun H lo ls h1 h2 h3 => lv_iand C.1 C.2.1 d (by rw [hv]; exact K H lo ls h1 h2 h3)
theorem a_ior {v w : Int32} {b : Int} (C : ab_C p l s m args meth c E base nL own cc ret) (d : decode cc pc = .ok (.ior, 1)) (hv : v ||| w = ii_n b) (K : ab_W p l e R s m args below meth c E base nL Q x ad z k n (pc+1) L (ii_v b :: st)) : ab_W p l e R s m args below meth c E base nL Q x ad z k n pc L (.int w :: .int v :: st) :=
  fun H lo ls h1 h2 h3 => lv_ior C.1 C.2.1 d (by rw [hv]; exact K H lo ls h1 h2 h3)
theorem a_ishr {v w : Int32} {b : Int} (C : ab_C p l s m args meth c E base nL own cc ret) (d : decode cc pc = .ok (.ishr, 1)) (hv : v >>> (w &&& 31) = ii_n b) (K : ab_W p l e R s m args below meth c E base nL Q x ad z k n (pc+1) L (ii_v b :: st)) : ab_W p l e R s m args below meth c E base nL Q x ad z k n pc L (.int w :: .int v :: st) :=
  fun H lo ls h1 h2 h3 => lv_ishr C.1 C.2.1 d (by rw [hv]; exact K H lo ls h1 h2 h3)
theorem a_i2c {a : Int} (C : ab_C p l s m args meth c E base nL own cc ret) (d : decode cc pc = .ok (.i2c, 1)) (ha : ((ii_n a).toUInt32 % 65536).toInt32 = ii_n a) (K : ab_W p l e R s m args below meth c E base nL Q x ad z k n (pc+1) L (ii_v a :: st)) : ab_W p l e R s m args below meth c E base nL Q x ad z k n pc L (ii_v a :: st) :=
  fun H lo ls h1 h2 h3 => lv_i2c C.1 C.2.1 d ha (K H lo ls h1 h2 h3)
theorem a_pop {v : Value} (C : ab_C p l s m args meth c E base nL own cc ret) (d : decode cc pc = .ok (.pop, 1)) (hv : v.category = 1) (K : ab_W p l e R s m args below meth c E base nL Q x ad z k n (pc+1) L st) : ab_W p l e R s m args below meth c E base nL Q x ad z k n pc L (v :: st) :=
  fun H lo ls h1 h2 h3 => lv_pop C.1 C.2.1 d hv (K H lo ls h1 h2 h3)
theorem a_dup {v : Value} (C : ab_C p l s m args meth c E base nL own cc ret) (d : decode cc pc = .ok (.dup, 1)) (hv : v.category = 1) (K : ab_W p l e R s m args below meth c E base nL Q x ad z k n (pc+1) L (v :: v :: st)) : ab_W p l e R s m args below meth c E base nL Q x ad z k n pc L (v :: st) :=
  fun H lo ls h1 h2 h3 => lv_dup C.1 C.2.1 d hv (K H lo ls h1 h2 h3)
theorem a_dup2 {v w : Value} (C : ab_C p l s m args meth c E base nL own cc ret) (d : decode cc pc = .ok (.dup2, 1)) (hv : v.category = 1) (hw : w.category = 1) (K : ab_W p l e R s m args below meth c E base nL Q x ad z k n (pc+1) L (v :: w :: v :: w :: st)) : ab_W p l e R s m args below meth c E base nL Q x ad z k n pc L (v :: w :: st) :=
  fun H lo ls h1 h2 h3 => lv_dup2_11 C.1 C.2.1 d hv hw (K H lo ls h1 h2 h3)
theorem a_goto {o : Int} {tgt : Nat} (C : ab_C p l s m args meth c E base nL own cc ret) (d : decode cc pc = .ok (.goto o, 3)) (ht : (pc : Int) + o = (tgt : Int)) (K : ab_W p l e R s m args below meth c E base nL Q x ad z k n tgt L st) : ab_W p l e R s m args below meth c E base nL Q x ad z k n pc L st :=
  fun H lo ls h1 h2 h3 => lv_goto C.1 C.2.1 d ht (K H lo ls h1 h2 h3)
theorem ii_B0 : ii_B 0 := by unfold ii_B; omega
theorem a_icmp_eq {a b : Int} {o : Int} {tgt : Nat} (C : ab_C p l s m args meth c E base nL own cc ret) (d : decode cc pc = .ok (.if_icmp .eq o, 3)) (ht : (pc : Int) + o = (tgt : Int)) (ha : ii_B a) (hb : ii_B b) (Kt : a = b → ab_W p l e R s m args below meth c E base nL Q x ad z k n tgt L st) (Kf : ¬ a = b → ab_W p l e R s m args below meth c E base nL Q x ad z k n (pc+3) L st) : ab_W p l e R s m args below meth c E base nL Q x ad z k n pc L (ii_v b :: ii_v a :: st) :=
  fun H lo ls h1 h2 h3 => lv_icmp_eq C.1 C.2.1 d ht (fun q => Kt ((ii_eq ha hb).mp q) H lo ls h1 h2 h3) (fun q => Kf (fun h => q ((ii_eq ha hb).mpr h)) H lo ls h1 h2 h3)
theorem a_if_eq {a : Int} {o : Int} {tgt : Nat} (C : ab_C p l s m args meth c E base nL own cc ret) (d : decode cc pc = .ok (.ifCond .eq o, 3)) (ht : (pc : Int) + o = (tgt : Int)) (ha : ii_B a) (Kt : a = 0 → ab_W p l e R s m args below meth c E base nL Q x ad z k n tgt L st) (Kf : ¬ a = 0 → ab_W p l e R s m args below meth c E base nL Q x ad z k n (pc+3) L st) : ab_W p l e R s m args below meth c E base nL Q x ad z k n pc L (ii_v a :: st) :=
  fun H lo ls h1 h2 h3 => lv_if_eq C.1 C.2.1 d ht (fun q => Kt ((ii_eq ha ii_B0).mp q) H lo ls h1 h2 h3) (fun q => Kf (fun h => q ((ii_eq ha ii_B0).mpr h)) H lo ls h1 h2 h3)
theorem a_icmp_ne {a b : Int} {o : Int} {tgt : Nat} (C : ab_C p l s m args meth c E base nL own cc ret) (d : decode cc pc = .ok (.if_icmp .ne o, 3)) (ht : (pc : Int) + o = (tgt : Int)) (ha : ii_B a) (hb : ii_B b) (Kt : ¬ a = b → ab_W p l e R s m args below meth c E base nL Q x ad z k n tgt L st) (Kf : a = b → ab_W p l e R s m args below meth c E base nL Q x ad z k n (pc+3) L st) : ab_W p l e R s m args below meth c E base nL Q x ad z k n pc L (ii_v b :: ii_v a :: st) :=
  fun H lo ls h1 h2 h3 => lv_icmp_ne C.1 C.2.1 d ht (fun q => Kt (fun h => q ((ii_eq ha hb).mpr h)) H lo ls h1 h2 h3) (fun q => Kf ((ii_eq ha hb).mp q) H lo ls h1 h2 h3)
theorem a_if_ne {a : Int} {o : Int} {tgt : Nat} (C : ab_C p l s m args meth c E base nL own cc ret) (d : decode cc pc = .ok (.ifCond .ne o, 3)) (ht : (pc : Int) + o = (tgt : Int)) (ha : ii_B a) (Kt : ¬ a = 0 → ab_W p l e R s m args below meth c E base nL Q x ad z k n tgt L st) (Kf : a = 0 → ab_W p l e R s m args below meth c E base nL Q x ad z k n (pc+3) L st) : ab_W p l e R s m args below meth c E base nL Q x ad z k n pc L (ii_v a :: st) :=
  fun H lo ls h1 h2 h3 => lv_if_ne C.1 C.2.1 d ht (fun q => Kt (fun h => q ((ii_eq ha ii_B0).mpr h)) H lo ls h1 h2 h3) (fun q => Kf ((ii_eq ha ii_B0).mp q) H lo ls h1 h2 h3)
theorem a_icmp_lt {a b : Int} {o : Int} {tgt : Nat} (C : ab_C p l s m args meth c E base nL own cc ret) (d : decode cc pc = .ok (.if_icmp .lt o, 3)) (ht : (pc : Int) + o = (tgt : Int)) (ha : ii_B a) (hb : ii_B b) (Kt : a < b → ab_W p l e R s m args below meth c E base nL Q x ad z k n tgt L st) (Kf : ¬ a < b → ab_W p l e R s m args below meth c E base nL Q x ad z k n (pc+3) L st) : ab_W p l e R s m args below meth c E base nL Q x ad z k n pc L (ii_v b :: ii_v a :: st) :=
  fun H lo ls h1 h2 h3 => lv_icmp_lt C.1 C.2.1 d ht (fun q => Kt ((ii_lt ha hb).mp q) H lo ls h1 h2 h3) (fun q => Kf (fun h => q ((ii_lt ha hb).mpr h)) H lo ls h1 h2 h3)
theorem a_if_lt {a : Int} {o : Int} {tgt : Nat} (C : ab_C p l s m args meth c E base nL own cc ret) (d : decode cc pc = .ok (.ifCond .lt o, 3)) (ht : (pc : Int) + o = (tgt : Int)) (ha : ii_B a) (Kt : a < 0 → ab_W p l e R s m args below meth c E base nL Q x ad z k n tgt L st) (Kf : ¬ a < 0 → ab_W p l e R s m args below meth c E base nL Q x ad z k n (pc+3) L st) : ab_W p l e R s m args below meth c E base nL Q x ad z k n pc L (ii_v a :: st) :=
  fun H lo ls h1 h2 h3 => lv_if_lt C.1 C.2.1 d ht (fun q => Kt ((ii_lt ha ii_B0).mp q) H lo ls h1 h2 h3) (fun q => Kf (fun h => q ((ii_lt ha ii_B0).mpr h)) H lo ls h1 h2 h3)
theorem a_icmp_ge {a b : Int} {o : Int} {tgt : Nat} (C : ab_C p l s m args meth c E base nL own cc ret) (d : decode cc pc = .ok (.if_icmp .ge o, 3)) (ht : (pc : Int) + o = (tgt : Int)) (ha : ii_B a) (hb : ii_B b) (Kt : b ≤ a → ab_W p l e R s m args below meth c E base nL Q x ad z k n tgt L st) (Kf : ¬ b ≤ a → ab_W p l e R s m args below meth c E base nL Q x ad z k n (pc+3) L st) : ab_W p l e R s m args below meth c E base nL Q x ad z k n pc L (ii_v b :: ii_v a :: st) :=
  fun H lo ls h1 h2 h3 => lv_icmp_ge C.1 C.2.1 d ht (fun q => Kt ((ii_le hb ha).mp q) H lo ls h1 h2 h3) (fun q => Kf (fun h => q ((ii_le hb ha).mpr h)) H lo ls h1 h2 h3)
theorem a_if_ge {a : Int} {o : Int} {tgt : Nat} (C : ab_C p l s m args meth c E base nL own cc ret) (d : decode cc pc = .ok (.ifCond .ge o, 3)) (ht : (pc : Int) + o = (tgt : Int)) (ha : ii_B a) (Kt : 0 ≤ a → ab_W p l e R s m args below meth c E base nL Q x ad z k n tgt L st) (Kf : ¬ 0 ≤ a → ab_W p l e R s m args below meth c E base nL Q x ad z k n (pc+3) L st) : ab_W p l e R s m args below meth c E base nL Q x ad z k n pc L (ii_v a :: st) :=
  fun H lo ls h1 h2 h3 => lv_if_ge C.1 C.2.1 d ht (fun q => Kt ((ii_le ii_B0 ha).mp q) H lo ls h1 h2 h3) (fun q => Kf (fun h => q ((ii_le ii_B0 ha).mpr h)) H lo ls h1 h2 h3)
theorem a_icmp_gt {a b : Int} {o : Int} {tgt : Nat} (C : ab_C p l s m args meth c E base nL own cc ret) (d : decode cc pc = .ok (.if_icmp .gt o, 3)) (ht : (pc : Int) + o = (tgt : Int)) (ha : ii_B a) (hb : ii_B b) (Kt : b < a → ab_W p l e R s m args below meth c E base nL Q x ad z k n tgt L st) (Kf : ¬ b < a → ab_W p l e R s m args below meth c E base nL Q x ad z k n (pc+3) L st) : ab_W p l e R s m args below meth c E base nL Q x ad z k n pc L (ii_v b :: ii_v a :: st) :=
  fun H lo ls h1 h2 h3 => lv_icmp_gt C.1 C.2.1 d ht (fun q => Kt ((ii_lt hb ha).mp q) H lo ls h1 h2 h3) (fun q => Kf (fun h => q ((ii_lt hb ha).mpr h)) H lo ls h1 h2 h3)
theorem a_if_gt {a : Int} {o : Int} {tgt : Nat} (C : ab_C p l s m args meth c E base nL own cc ret) (d : decode cc pc = .ok (.ifCond .gt o, 3)) (ht : (pc : Int) + o = (tgt : Int)) (ha : ii_B a) (Kt : 0 < a → ab_W p l e R s m args below meth c E base nL Q x ad z k n tgt L st) (Kf : ¬ 0 < a → ab_W p l e R s m args below meth c E base nL Q x ad z k n (pc+3) L st) : ab_W p l e R s m args below meth c E base nL Q x ad z k n pc L (ii_v a :: st) :=
  fun H lo ls h1 h2 h3 => lv_if_gt C.1 C.2.1 d ht (fun q => Kt ((ii_lt ii_B0 ha).mp q) H lo ls h1 h2 h3) (fun q => Kf (fun h => q ((ii_lt ii_B0 ha).mpr h)) H lo ls h1 h2 h3)
theorem a_icmp_le {a b : Int} {o : Int} {tgt : Nat} (C : ab_C p l s m args meth c E base nL own cc ret) (d : decode cc pc = .ok (.if_icmp .le o, 3)) (ht : (pc : Int) + o = (tgt : Int)) (ha : ii_B a) (hb : ii_B b) (Kt : a ≤ b → ab_W p l e R s m args below meth c E base nL Q x ad z k n tgt L st) (Kf : ¬ a ≤ b → ab_W p l e R s m args below meth c E base nL Q x ad z k n (pc+3) L st) : ab_W p l e R s m args below meth c E base nL Q x ad z k n pc L (ii_v b :: ii_v a :: st) :=
  fun H lo ls h1 h2 h3 => lv_icmp_le C.1 C.2.1 d ht (fun q => Kt ((ii_le ha hb).mp q) H lo ls h1 h2 h3) (fun q => Kf (fun h => q ((ii_le ha hb).mpr h)) H lo ls h1 h2 h3)
theorem a_if_le {a : Int} {o : Int} {tgt : Nat} (C : ab_C p l s m args meth c E base nL own cc ret) (d : decode cc pc = .ok (.ifCond .le o, 3)) (ht : (pc : Int) + o = (tgt : Int)) (ha : ii_B a) (Kt : a ≤ 0 → ab_W p l e R s m args below meth c E base nL Q x ad z k n tgt L st) (Kf : ¬ a ≤ 0 → ab_W p l e R s m args below meth c E base nL Q x ad z k n (pc+3) L st) : ab_W p l e R s m args below meth c E base nL Q x ad z k n pc L (ii_v a :: st) :=
  fun H lo ls h1 h2 h3 => lv_if_le C.1 C.2.1 d ht (fun q => Kt ((ii_le ha ii_B0).mp q) H lo ls h1 h2 h3) (fun q => Kf (fun h => q ((ii_le ha ii_B0).mpr h)) H lo ls h1 h2 h3)
theorem ii_Bb {P : Prop} [Decidable P] : ii_B (if P then 1 else 0) := by
  unfold ii_B
  split <;> omega
/-- a truth on the stack is tested -/
theorem a_bif_eq {P : Prop} [Decidable P] {o : Int} {tgt : Nat} (C : ab_C p l s m args meth c E base nL own cc ret) (d : decode cc pc = .ok (.ifCond .eq o, 3)) (ht : (pc : Int) + o = (tgt : Int)) (Kt : ¬ P → ab_W p l e R s m args below meth c E base nL Q x ad z k n tgt L st) (Kf : P → ab_W p l e R s m args below meth c E base nL Q x ad z k n (pc+3) L st) : ab_W p l e R s m args below meth c E base nL Q x ad z k n pc L (ii_v (if P then 1 else 0) :: st) :=
  a_if_eq C d ht ii_Bb (fun h => Kt (fun q => by rw [if_pos q] at h; omega)) (fun h => Kf (Classical.byContradiction fun q => h (if_neg q)))
theorem a_bif_ne {P : Prop} [Decidable P] {o : Int} {tgt : Nat} (C : ab_C p l s m args meth c E base nL own cc ret) (d : decode cc pc = .ok (.ifCond .ne o, 3)) (ht : (pc : Int) + o = (tgt : Int)) (Kt : P → ab_W p l e R s m args below meth c E base nL Q x ad z k n tgt L st) (Kf : ¬ P → ab_W p l e R s m args below meth c E base nL Q x ad z k n (pc+3) L st) : ab_W p l e R s m args below meth c E base nL Q x ad z k n pc L (ii_v (if P then 1 else 0) :: st) :=
  a_if_ne C d ht ii_Bb (fun h => Kt (Classical.byContradiction fun q => h (if_neg q))) (fun h => Kf (fun q => by rw [if_pos q] at h; omega))
/-- a value is given another form -/
theorem a_top {v w : Value} (h : v = w) (K : ab_W p l e R s m args below meth c E base nL Q x ad z k n pc L (w :: st)) : ab_W p l e R s m args below meth c E base nL Q x ad z k n pc L (v :: st) := h ▸ K
theorem a_at {pc2 : Nat} {L2 : List (Nat × Value)} {st2 : List Value} {z2 : ab_H} (K : ab_W p l e R s m args below meth c E base nL Q x ad z2 k n pc2 L2 st2) (hz : z = z2) (hp : pc = pc2) (hL : L = L2) (hs : st = st2) : ab_W p l e R s m args below meth c E base nL Q x ad z k n pc L st := by subst hz hp hL hs; exact K
theorem a_pick (ks : List Nat) {L2 : List (Nat × Value)} (h : lv_pick L ks = L2) (K : ab_W p l e R s m args below meth c E base nL Q x ad z k n pc L2 st) : ab_W p l e R s m args below meth c E base nL Q x ad z k n pc L st :=
  fun H lo ls h1 h2 h3 => K H lo ls h1 h2 (lv_sub h3 ks h)
/-- fewer locals -/
theorem a_sub {L2 : List (Nat × Value)} (K : ab_W p l e R s m args below meth c E base nL Q x ad z k n pc L2 st) (hs : ∀ q ∈ L2, q ∈ L) : ab_W p l e R s m args below meth c E base nL Q x ad z k n pc L st :=
  fun H lo ls h1 h2 h3 => K H lo ls h1 h2 (ab_has_sub h3 hs)
end RowsA
