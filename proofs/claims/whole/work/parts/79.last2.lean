/-! isPickup and occupancy. -/
section FLD
variable {p : Program} {l : Launch} {e : Env} {R : Room} {s : State} {m : MethodId} {args : Array Value} {below : List Frame} {meth : Method} {c : Code} {E : ab_E} {base nL : Nat} {Q : State → Prop}
variable {own : String} {cc : ByteArray} {ret : Option FieldType} {x : ab_X} {ad : Nat → Nat} {z : ab_H} {k n pc : Nat} {L : List (Nat × Value)} {st : List Value}
theorem a_fload {i : Nat} {v : UInt32} (C : ab_C p l s m args meth c E base nL own cc ret) (d : decode cc pc = .ok (.fload i, 2)) (hl : ab_lk L i = some (.float v)) (K : ab_W p l e R s m args below meth c E base nL Q x ad z k n (pc+2) L (.float v :: st)) : ab_W p l e R s m args below meth c E base nL Q x ad z k n pc L st :=
  fun H lo ls h1 h2 h3 => lv_fload C.1 C.2.1 d (h3.2.2 _ (ab_lk_mem hl)) (K H lo ls h1 h2 h3)
theorem a_fstore {i : Nat} {v : UInt32} (C : ab_C p l s m args meth c E base nL own cc ret) (d : decode cc pc = .ok (.fstore i, 2)) (hn : i < nL) {L' : List (Nat × Value)} (hL : ab_sl L i (.float v) = L') (K : ab_W p l e R s m args below meth c E base nL Q x ad z k n (pc+2) L' st) : ab_W p l e R s m args below meth c E base nL Q x ad z k n pc L (.float v :: st) :=
  fun H lo ls h1 h2 h3 => lv_fstore C.1 C.2.1 d h3 hn rfl (fun ls' h => K H lo ls' h1 h2 (hL ▸ ab_sl_has h))
end FLD
def ZB (l : Launch) (E : ab_E) (base : Nat) (yC : MethodName) (cC : ByteArray) (nC : Nat) (rC : Option FieldType) (yM : MethodName) (cM : ByteArray) (nM : Nat) (rM : Option FieldType) (ad : Nat → Nat) (f a : Nat → Nat → Int) (TS : Nat → List Nat) (nb nr : Nat) (tm : Int) (ol : Int64 × UInt64) (as : List Value) (xs : List String) : Prop :=
  ∃ (k : Nat) (u v : Int) (a2 : Nat → Nat → Int) (TS2 : Nat → List Nat) (nb2 nr2 : Nat), ST a2 TS2 nb2 nr2 (tm + 60) ∧ (k = 0 → v = u) ∧ k ≤ xs.length ∧ Cz l E base yC cC nC rC (.ref (ad 0) :: as) ad f (nb, nr, ol) (nb2, nr2, ol) (oX xs k u) a2 TS2 ∧
    (∀ (ad1 : Nat → Nat) (g : Nat → Nat → Int) (ol2 : Int64 × UInt64), CL g a2 TS2 nb2 nr2 → ML g a TS nb nr → Mz l E base yM cM nM rM (.ref (ad1 40) :: as) ad1 g (nb2, nr2, ol2) (ii_v v) k a2 TS2) ∧ (u = 0 ∨ u = 1)
def ZF (l : Launch) (E : ab_E) (base : Nat) (ad : Nat → Nat) (f a : Nat → Nat → Int) (TS : Nat → List Nat) (nb nr : Nat) (tm : Int) (ol : Int64 × UInt64) (i : Int) : Prop :=
  ∃ (k : Nat) (u v : UInt32) (a2 : Nat → Nat → Int) (TS2 : Nat → List Nat) (nb2 nr2 : Nat), ST a2 TS2 nb2 nr2 (tm + 60) ∧ (k = 0 → v = u) ∧ k ≤ 2 ∧ Cz l E base yX9_occupancy cX9_occupancy 3 (some .float) [.ref (ad 0), ii_v i] ad f (nb, nr, ol) (nb2, nr2, ol) (oF ["java/lang/IndexOutOfBoundsException", "java/util/NoSuchElementException"] k u) a2 TS2 ∧
    (∀ (ad1 : Nat → Nat) (g : Nat → Nat → Int) (ol2 : Int64 × UInt64), CL g a2 TS2 nb2 nr2 → ML g a TS nb nr → Mz l E base yX10_occupancy cX10_occupancy 2 (some .float) [.ref (ad1 40), ii_v i] ad1 g (nb2, nr2, ol2) (.float v) k a2 TS2) ∧ vf_n64 (FP.f2d u) ∧ Op.cmpValue (FP.dcmp (FP.f2d u) (FP.f2d u)) .l = ii_n 0
section ZLF
variable {l : Launch} {E : ab_E} {base : Nat} {y : MethodName} {cc : ByteArray} {nL d mc ms : Nat} {ret : Option FieldType} {as : List Value} {ad : Nat → Nat} {f a : Nat → Nat → Int} {TS : Nat → List Nat} {w : Nat × Nat × Int64 × UInt64} {u : UInt32} {xs : List String} {X : String}
theorem cz_RF (hM : ab_M l E base y cc nL ret d mc ms as ab_x4 ad (f, w) (ab_R (.float u) ab_x4 ad (f, w))) (hd : d ≤ 11 ∧ mc ≤ 4 ∧ ms ≤ 130) (hC : CL f a TS w.1 w.2.1) : Cz l E base y cc nL ret as ad f w w (oF xs 0 u) a TS :=
  ⟨d, mc, ms, _, hd, hM, fun oc x ad1 z h => by
    obtain ⟨h1, h2, h3, h4⟩ := h
    subst h2 h3 h4
    exact ⟨rfl, rfl, h1, hC, kM_refl, fun _ _ => rfl⟩⟩
theorem cz_TF {k : Nat} (hM : ab_M l E base y cc nL ret d mc ms as ab_x4 ad (f, w) (ab_T X ab_x4 ad (f, w))) (hd : (d ≤ 11 ∧ mc ≤ 4 ∧ ms ≤ 130) ∧ k ≠ 0 ∧ xs.getD (k - 1) "" = X) (hC : CL f a TS w.1 w.2.1) : Cz l E base y cc nL ret as ad f w w (oF xs k u) a TS :=
  ⟨d, mc, ms, _, hd.1, hM, fun oc x ad1 z h => by
    obtain ⟨h1, h2, h3, h4⟩ := h
    subst h2 h3 h4
    refine ⟨rfl, rfl, ?_, hC, kM_refl, fun _ _ => rfl⟩
    rw [h1, oF, if_neg hd.2.1, hd.2.2]⟩
theorem mz_V {v : Value} {k : Nat} (hM : ab_M l E base y cc nL ret d 0 0 as ab_x4 ad (f, w) (ab_R v ab_x4 ad (ii_up f 40 0 (k : Int), w))) (hd : d ≤ 16) (hL : ML f a TS w.1 w.2.1) : Mz l E base y cc nL ret as ad f w v k a TS :=
  ⟨d, _, hd, hM, fun oc x ad1 z h => by
    obtain ⟨h1, h2, h3, h4⟩ := h
    subst h2 h3 h4
    exact ⟨rfl, rfl, rfl, h1, ML_0 hL (by decide), fun o ho => ii_up_row _ _ (by omega), ii_up_s f 40 0 (k : Int)⟩⟩
end ZLF
theorem z2_isPickup {l : Launch} {E : ab_E} {base : Nat} (hl : l.stackTraces = false) {ad : Nat → Nat} {f a : Nat → Nat → Int} {TS : Nat → List Nat} {nb nr : Nat} {tm : Int} {ol : Int64 × UInt64} (hI : IS f a TS nb nr tm) (i j : Int) (zi : -2147483648 ≤ i ∧ i < 2147483648) (zj : -2147483648 ≤ j ∧ j < 2147483648) : ZB l E base yX9_isPickup cX9_isPickup 4 (some .boolean) yX10_isPickup cX10_isPickup 3 (some .boolean) ad f a TS nb nr tm ol [ii_v i, ii_v j] ["java/lang/IndexOutOfBoundsException", "java/util/NoSuchElementException"] := by
  obtain ⟨hC, hL, hS, htm⟩ := hI
  have hB := hS.1
  have h4 := hB.1
  have h30 := hB.2.1
  have h06 := hB.2.2.1
  by_cases hi : 0 ≤ i ∧ i < (nb : Int)
  · obtain ⟨b, rfl⟩ : ∃ b : Nat, i = (b : Int) := ⟨i.toNat, by omega⟩
    have hb : b < nb := by omega
    have hpb := hS.2 b hb
    by_cases hj : 0 ≤ j ∧ j < ((TS b).length : Int)
    · obtain ⟨k, rfl⟩ : ∃ k : Nat, j = (k : Int) := ⟨j.toNat, by omega⟩
      refine ⟨0, (if (TS b).getD k 0 % 2 = 0 then 1 else 0), (if (TS b).getD k 0 % 2 = 0 then 1 else 0), a, TS, nb, nr, st_60 hS, fun _ => rfl, by decide, cz_R (u := (if (TS b).getD k 0 % 2 = 0 then 1 else 0)) (c_isPickup hl f (nb, nr, ol) hb h4 (hC.2.1 b hb) k (by omega)) (by decide) hC, fun ad1 g ol2 hC2 hL2 => ?_, by first | exact Or.inl rfl | (split; exact Or.inr rfl; exact Or.inl rfl)⟩
      have h29 := hL2.1.1.1
      exact mz_R (m_isPickup hl g (nb, nr, ol2) b (by rw [h29]; omega) (by rw [h29]; omega) (hL2.2.1 b hb) k (by omega)) (by decide) hL2
    · refine ⟨2, 0, 0, a, TS, nb, nr, st_60 hS, fun _ => rfl, by decide, cz_T (x2_isPickup hl f (nb, nr, ol) hb h4 (hC.2.1 b hb) j zj (by omega)) (by decide) hC, fun ad1 g ol2 hC2 hL2 => ?_, by first | exact Or.inl rfl | (split; exact Or.inr rfl; exact Or.inl rfl)⟩
      have h29 := hL2.1.1.1
      exact mz_R (n2_isPickup hl g (nb, nr, ol2) b (by rw [h29]; omega) (by rw [h29]; omega) (hL2.2.1 b hb) j zj (by omega)) (by decide) hL2
  · refine ⟨1, 0, 0, a, TS, nb, nr, st_60 hS, fun _ => rfl, by decide, cz_T (x_isPickup hl f (nb, nr, ol) h4 i zi (by dsimp only; omega) j) (by decide) hC, fun ad1 g ol2 hC2 hL2 => ?_, by first | exact Or.inl rfl | (split; exact Or.inr rfl; exact Or.inl rfl)⟩
    have h29 := hL2.1.1.1
    exact mz_R (n_isPickup hl g (nb, nr, ol2) i zi (by rw [h29]; omega) (by rw [h29]; omega) j) (by decide) hL2
set_option maxHeartbeats 1000000 in
theorem lc_isPickup {p : Program} {l : Launch} {e : Env} {s : State} {m : MethodId} {args : Array Value} {below : List Frame} {meth : Method} {c : Code} {E : ab_E} {base : Nat} {Q : State → Prop} (C : ab_C p l s m args meth c E base 8 RL cL_law (some .boolean)) (hl : l.stackTraces = false) (hN : ab_NC s) {bS Lx : Nat} {xs : Nat → Int32} (hX : va_X bS Lx xs s s.heap) (hbl : bS < s.heap.size) (hbA : ¬ ab_A base bS) (hLx : Lx ≤ 3072) {ad : Nat → Nat} {f a : Nat → Nat → Int} {TS : Nat → List Nat} {nb nr : Nat} {tm : Int} {vL : Int64} {vD : UInt64} {k n i : Nat} (hI : IS f a TS nb nr tm) (hi : i + 6 ≤ Lx) (hk : k + 4 ≤ 601024) (hn : n + 150 ≤ 7293034) (K : lw_K p l e s m args below meth c E base Q bS tm k n i) : ab_W p l e (ab_rm 20 601024 7293034) s m args below meth c E base 8 Q ab_x4 ad (f, nb, nr, vL, vD) k n 1425 [(0, .ref bS), (1, .ref (ad 0)), (2, .ref (ad 40)), (3, .ref (ad 90)), (4, .ref (ad 91)), (5, ii_v ((i : Nat) : Int))] [] := by
  obtain ⟨v1, e1⟩ : ∃ v : Int, v = (xs (i + 1)).toInt := ⟨_, rfl⟩
  have z1 : -2147483648 ≤ v1 ∧ v1 < 2147483648 := by rw [e1]; exact ii_Bof _
  obtain ⟨v2, e2⟩ : ∃ v : Int, v = (xs (i + 2)).toInt := ⟨_, rfl⟩
  have z2 : -2147483648 ≤ v2 ∧ v2 < 2147483648 := by rw [e2]; exact ii_Bof _
  obtain ⟨kk, u, v, a2, TS2, nb2, nr2, hS2, hkv, hkl, hZ, hMz, hu⟩ := z2_isPickup (E := E) (base := base) (ad := ad) (ol := (vL, vD)) hl hI v1 v2 z1 z2
  have hkl : kk ≤ 2 := hkl
  refine a_aload_n C dL_law_1425 rfl ?_
  refine a_aload_n C dL_law_1426 rfl ?_
  refine a_iload C dL_law_1427 rfl ?_
  refine a_iconst C dL_law_1429 ?_
  refine a_iadd C dL_law_1430 ?_
  refine a_siald (j := i + 1) C hX hbl hbA (by omega) (by omega) (by omega) dL_law_1431 ?_
  rw [← e1]
  refine a_aload_n C dL_law_1432 rfl ?_
  refine a_iload C dL_law_1433 rfl ?_
  refine a_iconst C dL_law_1435 ?_
  refine a_iadd C dL_law_1436 ?_
  refine a_siald (j := i + 2) C hX hbl hbA (by omega) (by omega) (by omega) dL_law_1437 ?_
  rw [← e2]
  refine a_aload_n C dL_law_1438 rfl ?_
  refine a_callSH (As := [.ref (ad 0), ii_v v1, ii_v v2, .ref (ad 90)]) C hN (w_isPickup hl hkl hu hZ) co_L_isPickup in_L ml_L_206 sc_L_isPickup ar_L_isPickup ⟨by decide, by decide, by omega, by omega⟩ rfl (Nat.le_of_ble_eq_true rfl) dL_law_1439 (fun ov x1 ad1 z1 hp => ?_) (fun X x1 ad1 z1 hp => by cases hp.2.2.1)
  obtain ⟨h1, h2, h3, h4, h5, h6⟩ := hp
  obtain ⟨g, w9⟩ := z1
  cases h3
  cases h2
  subst h1
  dsimp only at h4 h5
  rw [← h6 0 (by decide), ← h6 40 (by decide), ← h6 90 (by decide), ← h6 91 (by decide)]
  refine a_istore (L' := [(0, .ref bS), (1, .ref (ad1 0)), (2, .ref (ad1 40)), (3, .ref (ad1 90)), (4, .ref (ad1 91)), (5, ii_v ((i : Nat) : Int)), (6, ii_v ((kk : Nat) : Int))]) C dL_law_1442 (by decide) rfl ?_
  refine a_aload_n C dL_law_1444 rfl ?_
  refine a_aload_n C dL_law_1445 rfl ?_
  refine a_iload C dL_law_1446 rfl ?_
  refine a_iconst C dL_law_1448 ?_
  refine a_iadd C dL_law_1449 ?_
  refine a_siald (j := i + 1) C hX hbl hbA (by omega) (by omega) (by omega) dL_law_1450 ?_
  rw [← e1]
  refine a_aload_n C dL_law_1451 rfl ?_
  refine a_iload C dL_law_1452 rfl ?_
  refine a_iconst C dL_law_1454 ?_
  refine a_iadd C dL_law_1455 ?_
  refine a_siald (j := i + 2) C hX hbl hbA (by omega) (by omega) (by omega) dL_law_1456 ?_
  rw [← e2]
  obtain ⟨d2, Post2, hd2, hM2, hP2⟩ := hMz ad1 g _ h4 (ML_k hI.2.1 h5)
  refine a_callV (o := 40) (As := [ii_v v1, ii_v v2]) C hM2 co_X10_isPickup in_X10 ml_L_208 im_X10_isPickup se_X10_isPickup rfl rfl ar_X10_isPickup ⟨by omega, by decide, by omega, by omega⟩ rfl (Nat.le_of_ble_eq_true rfl) dL_law_1457 (fun ov x1 ad2 z1 hp => ?_) (fun X x1 ad2 z1 hp => by cases (hP2 _ _ _ _ hp).2.2.2.1)
  obtain ⟨m1, m2, m3, m4, m5, m6, m7⟩ := hP2 _ _ _ _ hp
  obtain ⟨h, w9⟩ := z1
  cases m4
  cases m3
  subst m1 m2
  dsimp only at m5 m6 m7
  refine a_istore (L' := [(0, .ref bS), (1, .ref (ad2 0)), (2, .ref (ad2 40)), (3, .ref (ad2 90)), (4, .ref (ad2 91)), (5, ii_v ((i : Nat) : Int)), (6, ii_v ((kk : Nat) : Int)), (7, ii_v v)]) C dL_law_1460 (by decide) rfl ?_
  refine a_aload_n C dL_law_1462 rfl ?_
  refine a_callV (o := 40) (As := []) C (m_thrown hl h _) co_X10_thrown in_X10 ml_L_148 im_X10_thrown se_X10_thrown rfl rfl ar_X10_thrown ⟨by decide, by decide, by omega, by omega⟩ rfl (Nat.le_of_ble_eq_true rfl) dL_law_1463 (a_dR ?_) a_nR
  rw [m7]
  refine a_iload C dL_law_1466 rfl ?_
  refine a_icmp_eq (tgt := 1473) C dL_law_1468 rfl (by unfold ii_B; omega) (by unfold ii_B; omega) (fun _ => ?_) (fun hz => absurd rfl hz)
  refine a_iload C dL_law_1473 rfl ?_
  refine a_if_ne (tgt := 1497) C dL_law_1475 rfl (by unfold ii_B; omega) (fun hz => ?_) (fun hz => ?_)
  · skip
    refine a_goto (tgt := 2612) C dL_law_1497 rfl ?_
    refine a_pick [0, 1, 2, 3, 4, 5] (L2 := [(0, .ref bS), (1, .ref (ad2 0)), (2, .ref (ad2 40)), (3, .ref (ad2 90)), (4, .ref (ad2 91)), (5, ii_v ((i : Nat) : Int))]) rfl ?_
    exact K _ _ _ _ _ _ _ _ ⟨CL_k h4 m6, m5, hS2⟩ h6
  · have hk0 : kk = 0 := by omega
    subst hk0
    rw [if_pos rfl]
    have hvu := hkv rfl
    subst hvu
    refine a_aload_n C dL_law_1478 rfl ?_
    refine a_iconst C dL_law_1479 ?_
    refine a_lald C dL_law_1480 ?_
    refine a_iload C dL_law_1481 rfl ?_
    rcases hu with rfl | rfl
    · refine a_if_eq (tgt := 1490) C dL_law_1483 rfl (by unfold ii_B; omega) (fun _ => ?_) (fun hz => absurd rfl hz)
      refine a_lconst C dL_law_1490 ?_
      refine a_top (w := .long (ii_n 0).toInt64) (congrArg Value.long (by decide)) ?_
      refine a_lcmpE C dL_law_1491 ?_
      refine a_if_eq (tgt := 1497) C dL_law_1492 rfl (by unfold ii_B; omega) (fun _ => ?_) (fun hz => absurd rfl hz)
      refine a_goto (tgt := 2612) C dL_law_1497 rfl ?_
      refine a_pick [0, 1, 2, 3, 4, 5] (L2 := [(0, .ref bS), (1, .ref (ad2 0)), (2, .ref (ad2 40)), (3, .ref (ad2 90)), (4, .ref (ad2 91)), (5, ii_v ((i : Nat) : Int))]) rfl ?_
      exact K _ _ _ _ _ _ _ _ ⟨CL_k h4 m6, m5, hS2⟩ h6
    · refine a_if_eq (tgt := 1490) C dL_law_1483 rfl (by unfold ii_B; omega) (fun hz => absurd hz (by decide)) (fun _ => ?_)
      refine a_lconst C dL_law_1486 ?_
      refine a_top (w := .long (ii_n 1).toInt64) (congrArg Value.long (by decide)) ?_
      refine a_goto (tgt := 1491) C dL_law_1487 rfl ?_
      refine a_lcmpE C dL_law_1491 ?_
      refine a_if_eq (tgt := 1497) C dL_law_1492 rfl (by unfold ii_B; omega) (fun _ => ?_) (fun hz => absurd rfl hz)
      refine a_goto (tgt := 2612) C dL_law_1497 rfl ?_
      refine a_pick [0, 1, 2, 3, 4, 5] (L2 := [(0, .ref bS), (1, .ref (ad2 0)), (2, .ref (ad2 40)), (3, .ref (ad2 90)), (4, .ref (ad2 91)), (5, ii_v ((i : Nat) : Int))]) rfl ?_
      exact K _ _ _ _ _ _ _ _ ⟨CL_k h4 m6, m5, hS2⟩ h6
theorem z_occupancy {l : Launch} {E : ab_E} {base : Nat} (hl : l.stackTraces = false) {ad : Nat → Nat} {f a : Nat → Nat → Int} {TS : Nat → List Nat} {nb nr : Nat} {tm : Int} {ol : Int64 × UInt64} (hI : IS f a TS nb nr tm) (i : Int) (zi : -2147483648 ≤ i ∧ i < 2147483648) (hF : ∀ x y : Int32, 0 < y.toInt → vf_n32 (FP.fdiv (FP.i2f x) (FP.i2f y)) ∧ vf_n64 (FP.f2d (FP.fdiv (FP.i2f x) (FP.i2f y))) ∧ Op.cmpValue (FP.dcmp (FP.f2d (FP.fdiv (FP.i2f x) (FP.i2f y))) (FP.f2d (FP.fdiv (FP.i2f x) (FP.i2f y)))) .l = ii_n 0) : ZF l E base ad f a TS nb nr tm ol i := by
  obtain ⟨hC, hL, hS, htm⟩ := hI
  have hB := hS.1
  have h4 := hB.1
  have h30 := hB.2.1
  have h06 := hB.2.2.1
  by_cases hi : 0 ≤ i ∧ i < (nb : Int)
  · obtain ⟨b, rfl⟩ : ∃ b : Nat, i = (b : Int) := ⟨i.toNat, by omega⟩
    have hb : b < nb := by omega
    have hpb := hS.2 b hb
    have hdr := hpb.2.2
    by_cases hd : a (200 + b) 10 = 0
    · refine ⟨2, (FP.fdiv (FP.i2f 0) (FP.i2f 1)), FP.i2f (ii_n 0), a, TS, nb, nr, st_60 hS, fun z => absurd z (by decide), by decide, cz_TF (x2_occupancy hl f (nb, nr, ol) hb h4 (by rw [cl_bus hC hb]; exact hd)) (by decide) hC, fun ad1 g ol2 hC2 hL2 => ?_, (hF 0 1 (by decide)).2⟩
      have h29 := hL2.1.1.1
      have hm2 := hL2.1.2.1 b hb
      exact mz_V (n2_occupancy hl g (nb, nr, ol2) b (by rw [h29]; omega) (by rw [h29]; omega) (by rw [hm2.2.2.2.2.2.2.2.1]; exact hd)) (by decide) hL2
    · have hu0 := (hB.2.2.2.2.2.1 b hb).2.2.2.2.2.2.2.2.2
      have hpos : 0 < (ii_n (a (200 + b) 10)).toInt := by rw [ii_toInt ⟨by omega, by omega⟩]; omega
      refine ⟨0, (FP.fdiv (FP.i2f (ii_n (a (200 + b) 12))) (FP.i2f (ii_n (a (200 + b) 10)))), (FP.fdiv (FP.i2f (ii_n (a (200 + b) 12))) (FP.i2f (ii_n (a (200 + b) 10)))), a, TS, nb, nr, st_60 hS, fun _ => rfl, by decide, cz_RF (by have hh := c_occupancy (E := E) (base := base) (ad := ad) hl f (nb, nr, ol) hb h4 (by rw [cl_bus hC hb]; omega) (hF _ _ (by rw [cl_bus hC hb]; exact hpos)).1; rw [cl_bus hC hb] at hh; exact hh) (by decide) hC, fun ad1 g ol2 hC2 hL2 => ?_, (hF _ _ hpos).2⟩
      have h29 := hL2.1.1.1
      have hm2 := hL2.1.2.1 b hb
      have hh := m_occupancy (E := E) (base := base) (ad := ad1) hl g (nb, nr, ol2) b (by rw [h29]; omega) (by rw [h29]; omega) (by rw [hm2.2.2.2.2.2.2.2.1]; omega) (hF _ _ (by rw [hm2.2.2.2.2.2.2.2.1]; exact hpos)).1
      rw [hm2.2.2.2.2.2.2.2.1, hm2.2.2.2.2.2.2.2.2.2] at hh
      exact mz_V hh (by decide) hL2
  · refine ⟨1, (FP.fdiv (FP.i2f 0) (FP.i2f 1)), FP.i2f (ii_n 0), a, TS, nb, nr, st_60 hS, fun z => absurd z (by decide), by decide, cz_TF (x_occupancy hl f (nb, nr, ol) h4 i zi (by dsimp only; omega)) (by decide) hC, fun ad1 g ol2 hC2 hL2 => ?_, (hF 0 1 (by decide)).2⟩
    have h29 := hL2.1.1.1
    exact mz_V (n_occupancy hl g (nb, nr, ol2) i zi (by rw [h29]; omega) (by rw [h29]; omega)) (by decide) hL2
set_option maxHeartbeats 1000000 in
theorem lc_occupancy {p : Program} {l : Launch} {e : Env} {s : State} {m : MethodId} {args : Array Value} {below : List Frame} {meth : Method} {c : Code} {E : ab_E} {base : Nat} {Q : State → Prop} (C : ab_C p l s m args meth c E base 8 RL cL_law (some .boolean)) (hl : l.stackTraces = false) (hN : ab_NC s) {bS Lx : Nat} {xs : Nat → Int32} (hX : va_X bS Lx xs s s.heap) (hbl : bS < s.heap.size) (hbA : ¬ ab_A base bS) (hLx : Lx ≤ 3072) {ad : Nat → Nat} {f a : Nat → Nat → Int} {TS : Nat → List Nat} {nb nr : Nat} {tm : Int} {vL : Int64} {vD : UInt64} {k n i : Nat} (hI : IS f a TS nb nr tm) (hi : i + 6 ≤ Lx) (hk : k + 4 ≤ 601024) (hn : n + 150 ≤ 7293034) (K : lw_K p l e s m args below meth c E base Q bS tm k n i) (hF : ∀ x y : Int32, 0 < y.toInt → vf_n32 (FP.fdiv (FP.i2f x) (FP.i2f y)) ∧ vf_n64 (FP.f2d (FP.fdiv (FP.i2f x) (FP.i2f y))) ∧ Op.cmpValue (FP.dcmp (FP.f2d (FP.fdiv (FP.i2f x) (FP.i2f y))) (FP.f2d (FP.fdiv (FP.i2f x) (FP.i2f y)))) .l = ii_n 0) : ab_W p l e (ab_rm 20 601024 7293034) s m args below meth c E base 8 Q ab_x4 ad (f, nb, nr, vL, vD) k n 2253 [(0, .ref bS), (1, .ref (ad 0)), (2, .ref (ad 40)), (3, .ref (ad 90)), (4, .ref (ad 91)), (5, ii_v ((i : Nat) : Int))] [] := by
  obtain ⟨v1, e1⟩ : ∃ v : Int, v = (xs (i + 1)).toInt := ⟨_, rfl⟩
  have z1 : -2147483648 ≤ v1 ∧ v1 < 2147483648 := by rw [e1]; exact ii_Bof _
  obtain ⟨kk, u, v, a2, TS2, nb2, nr2, hS2, hkv, hkl, hZ, hMz, hu, hcmp⟩ := z_occupancy (E := E) (base := base) (ad := ad) (ol := (vL, vD)) hl hI v1 z1 hF
  have hkl : kk ≤ 2 := hkl
  refine a_aload_n C dL_law_2253 rfl ?_
  refine a_aload_n C dL_law_2254 rfl ?_
  refine a_iload C dL_law_2255 rfl ?_
  refine a_iconst C dL_law_2257 ?_
  refine a_iadd C dL_law_2258 ?_
  refine a_siald (j := i + 1) C hX hbl hbA (by omega) (by omega) (by omega) dL_law_2259 ?_
  rw [← e1]
  refine a_aload C dL_law_2260 rfl ?_
  refine a_callSH (As := [.ref (ad 0), ii_v v1, .ref (ad 91)]) C hN (w_occupancy hl hkl hu hZ) co_L_occupancy in_L ml_L_252 sc_L_occupancy ar_L_occupancy ⟨by decide, by decide, by omega, by omega⟩ rfl (Nat.le_of_ble_eq_true rfl) dL_law_2262 (fun ov x1 ad1 z1 hp => ?_) (fun X x1 ad1 z1 hp => by cases hp.2.2.1)
  obtain ⟨h1, h2, h3, h4, h5, h6⟩ := hp
  obtain ⟨g, w9⟩ := z1
  cases h3
  cases h2
  subst h1
  dsimp only at h4 h5
  rw [← h6 0 (by decide), ← h6 40 (by decide), ← h6 90 (by decide), ← h6 91 (by decide)]
  refine a_istore (L' := [(0, .ref bS), (1, .ref (ad1 0)), (2, .ref (ad1 40)), (3, .ref (ad1 90)), (4, .ref (ad1 91)), (5, ii_v ((i : Nat) : Int)), (6, ii_v ((kk : Nat) : Int))]) C dL_law_2265 (by decide) rfl ?_
  refine a_aload_n C dL_law_2267 rfl ?_
  refine a_aload_n C dL_law_2268 rfl ?_
  refine a_iload C dL_law_2269 rfl ?_
  refine a_iconst C dL_law_2271 ?_
  refine a_iadd C dL_law_2272 ?_
  refine a_siald (j := i + 1) C hX hbl hbA (by omega) (by omega) (by omega) dL_law_2273 ?_
  rw [← e1]
  obtain ⟨d2, Post2, hd2, hM2, hP2⟩ := hMz ad1 g _ h4 (ML_k hI.2.1 h5)
  refine a_callV (o := 40) (As := [ii_v v1]) C hM2 co_X10_occupancy in_X10 ml_L_255 im_X10_occupancy se_X10_occupancy rfl rfl ar_X10_occupancy ⟨by omega, by decide, by omega, by omega⟩ rfl (Nat.le_of_ble_eq_true rfl) dL_law_2274 (fun ov x1 ad2 z1 hp => ?_) (fun X x1 ad2 z1 hp => by cases (hP2 _ _ _ _ hp).2.2.2.1)
  obtain ⟨m1, m2, m3, m4, m5, m6, m7⟩ := hP2 _ _ _ _ hp
  obtain ⟨h, w9⟩ := z1
  cases m4
  cases m3
  subst m1 m2
  dsimp only at m5 m6 m7
  refine a_fstore (L' := [(0, .ref bS), (1, .ref (ad2 0)), (2, .ref (ad2 40)), (3, .ref (ad2 90)), (4, .ref (ad2 91)), (5, ii_v ((i : Nat) : Int)), (6, ii_v ((kk : Nat) : Int)), (7, .float v)]) C dL_law_2277 (by decide) rfl ?_
  refine a_aload_n C dL_law_2279 rfl ?_
  refine a_callV (o := 40) (As := []) C (m_thrown hl h _) co_X10_thrown in_X10 ml_L_148 im_X10_thrown se_X10_thrown rfl rfl ar_X10_thrown ⟨by decide, by decide, by omega, by omega⟩ rfl (Nat.le_of_ble_eq_true rfl) dL_law_2280 (a_dR ?_) a_nR
  rw [m7]
  refine a_iload C dL_law_2283 rfl ?_
  refine a_icmp_eq (tgt := 2290) C dL_law_2285 rfl (by unfold ii_B; omega) (by unfold ii_B; omega) (fun _ => ?_) (fun hz => absurd rfl hz)
  refine a_iload C dL_law_2290 rfl ?_
  refine a_if_ne (tgt := 2328) C dL_law_2292 rfl (by unfold ii_B; omega) (fun hz => ?_) (fun hz => ?_)
  · skip
    refine a_goto (tgt := 2612) C dL_law_2328 rfl ?_
    refine a_pick [0, 1, 2, 3, 4, 5] (L2 := [(0, .ref bS), (1, .ref (ad2 0)), (2, .ref (ad2 40)), (3, .ref (ad2 90)), (4, .ref (ad2 91)), (5, ii_v ((i : Nat) : Int))]) rfl ?_
    exact K _ _ _ _ _ _ _ _ ⟨CL_k h4 m6, m5, hS2⟩ h6
  · have hk0 : kk = 0 := by omega
    subst hk0
    rw [if_pos rfl]
    have hvu := hkv rfl
    subst hvu
    refine a_aload C dL_law_2295 rfl ?_
    refine a_iconst C dL_law_2297 ?_
    refine a_dald C dL_law_2298 ?_
    refine a_fload C dL_law_2299 rfl ?_
    refine a_f2d C hu dL_law_2301 ?_
    refine a_dcmp C dL_law_2302 ?_
    rw [hcmp]
    refine a_if_eq (tgt := 2328) C dL_law_2303 rfl (by unfold ii_B; omega) (fun _ => ?_) (fun hz => absurd rfl hz)
    refine a_goto (tgt := 2612) C dL_law_2328 rfl ?_
    refine a_pick [0, 1, 2, 3, 4, 5] (L2 := [(0, .ref bS), (1, .ref (ad2 0)), (2, .ref (ad2 40)), (3, .ref (ad2 90)), (4, .ref (ad2 91)), (5, ii_v ((i : Nat) : Int))]) rfl ?_
    exact K _ _ _ _ _ _ _ _ ⟨CL_k h4 m6, m5, hS2⟩ h6
