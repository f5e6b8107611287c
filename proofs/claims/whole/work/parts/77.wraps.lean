/-! The law's wrappers. -/
theorem oX_l {xs : List String} {k : Nat} {u : Int} {v : Option Value} (h : Sum.inl v = oX xs k u) : k = 0 ∧ v = some (ii_v u) := by
  unfold oX at h
  split at h
  · rename_i e
    exact ⟨e, Sum.inl.inj h⟩
  · cases h
theorem oX_r {xs : List String} {k : Nat} {u : Int} {X : String} (h : Sum.inr X = oX xs k u) : k ≠ 0 ∧ X = xs.getD (k - 1) "" := by
  unfold oX at h
  split at h
  · cases h
  · rename_i e
    exact ⟨e, Sum.inr.inj h⟩
def oF (xs : List String) (k : Nat) (u : UInt32) : Option Value ⊕ String := if k = 0 then .inl (some (.float u)) else .inr (xs.getD (k - 1) "")
theorem oF_l {xs : List String} {k : Nat} {u : UInt32} {v : Option Value} (h : Sum.inl v = oF xs k u) : k = 0 ∧ v = some (.float u) := by
  unfold oF at h
  split at h
  · rename_i e
    exact ⟨e, Sum.inl.inj h⟩
  · cases h
theorem oF_r {xs : List String} {k : Nat} {u : UInt32} {X : String} (h : Sum.inr X = oF xs k u) : k ≠ 0 ∧ X = xs.getD (k - 1) "" := by
  unfold oF at h
  split at h
  · cases h
  · rename_i e
    exact ⟨e, Sum.inr.inj h⟩
theorem w_setDetour {l : Launch} {E : ab_E} {base : Nat} (hl : l.stackTraces = false) {ad : Nat → Nat} {f a2 : Nat → Nat → Int} {TS2 : Nat → List Nat} {nb nr nb2 nr2 : Nat} {vL : Int64} {vD : UInt64} {v0 : Int} {k : Nat} {u : Int} (hk : k ≤ 1) (hZ : Cz l E base yX9_setDetour cX9_setDetour 3 (some .int) (.ref (ad 0) :: [ii_v v0]) ad f (nb, nr, vL, vD) (nb2, nr2, vL, vD) (oX ["java/lang/IllegalArgumentException"] k u) a2 TS2) : ab_MH l E base yL_setDetour cL_setDetour 4 (some .int) [(0, 9, 12, 13)] 14 4 150 [.ref (ad 0), ii_v v0, .ref (ad 90)] ab_x4 ad (f, nb, nr, vL, vD) (zq ad f (nb2, nr2, (if k = 0 then (ii_n u).toInt64 else vL), vD) (.inl (some (ii_v (k : Int)))) a2 TS2) := by
  obtain ⟨d1, mc1, ms1, Post, hd, hM, hP⟩ := hZ
  refine ab_ofH RL [(0, .ref (ad 0)), (1, ii_v v0), (2, .ref (ad 90))] hl (by decide) rfl (Nat.le_of_ble_eq_true rfl) rfl ?_
  intro p e s m args below meth c C T hN
  refine a_aload_n C dL_setDetour_0 rfl ?_
  refine a_iconst C dL_setDetour_1 ?_
  refine a_aload_n C dL_setDetour_2 rfl ?_
  refine a_iload_n C dL_setDetour_3 rfl ?_
  refine a_callV (o := 0) (As := [ii_v v0]) C hM co_X9_setDetour in_X9 ml_L_7 im_X9_setDetour se_X9_setDetour rfl rfl ar_X9_setDetour ⟨by omega, by decide, by omega, by omega⟩ rfl (Nat.le_of_ble_eq_true rfl) dL_setDetour_4 ?_ ?_
  · intro v x1 ad1 z1 hp
    obtain ⟨h1, h2, h3, h4, h5, h6⟩ := hP _ _ _ _ hp
    obtain ⟨rfl, rfl⟩ := oX_l h3
    obtain ⟨g, w9⟩ := z1
    cases h2
    subst h1
    dsimp only at h4 h5
    rw [← h6 90 (by decide)]
    refine a_i2l C dL_setDetour_7 ?_
    refine a_last C dL_setDetour_8 ?_
    refine a_goto (tgt := 15) C dL_setDetour_9 rfl ?_
    refine a_iconst C dL_setDetour_15 ?_
    exact a_iret C ⟨rfl, rfl, rfl, h4, h5, h6⟩ (by omega) (by omega) dL_setDetour_16
  · intro X x1 ad1 z1 hp
    obtain ⟨h1, h2, h3, h4, h5, h6⟩ := hP _ _ _ _ hp
    obtain ⟨hk0, rfl⟩ := oX_r h3
    obtain ⟨g, w9⟩ := z1
    cases h2
    subst h1
    dsimp only at h4 h5
    rcases (show k = 1 by omega) with rfl
    · refine a_catch (hp := 12) (name := "java/lang/IllegalArgumentException") C [] ⟨0, 9, 12, 13⟩ [] (T.trans rfl) (fun q hq => (nomatch hq)) (by decide) (by decide) cl_L_13 ca_432 rfl (fun q => ?_)
      refine a_astore_n (L' := [(0, .ref (ad 0)), (1, ii_v v0), (2, .ref (ad 90)), (3, .ref q)]) C dL_setDetour_12 (by decide) rfl ?_
      refine a_iconst C dL_setDetour_13 ?_
      exact a_iret C ⟨rfl, rfl, rfl, h4, h5, h6⟩ (by omega) (by omega) dL_setDetour_14
theorem w_setWait {l : Launch} {E : ab_E} {base : Nat} (hl : l.stackTraces = false) {ad : Nat → Nat} {f a2 : Nat → Nat → Int} {TS2 : Nat → List Nat} {nb nr nb2 nr2 : Nat} {vL : Int64} {vD : UInt64} {v0 : Int} {k : Nat} {u : Int} (hk : k ≤ 1) (hZ : Cz l E base yX9_setWait cX9_setWait 3 (some .int) (.ref (ad 0) :: [ii_v v0]) ad f (nb, nr, vL, vD) (nb2, nr2, vL, vD) (oX ["java/lang/IllegalArgumentException"] k u) a2 TS2) : ab_MH l E base yL_setWait cL_setWait 4 (some .int) [(0, 9, 12, 13)] 14 4 150 [.ref (ad 0), ii_v v0, .ref (ad 90)] ab_x4 ad (f, nb, nr, vL, vD) (zq ad f (nb2, nr2, (if k = 0 then (ii_n u).toInt64 else vL), vD) (.inl (some (ii_v (k : Int)))) a2 TS2) := by
  obtain ⟨d1, mc1, ms1, Post, hd, hM, hP⟩ := hZ
  refine ab_ofH RL [(0, .ref (ad 0)), (1, ii_v v0), (2, .ref (ad 90))] hl (by decide) rfl (Nat.le_of_ble_eq_true rfl) rfl ?_
  intro p e s m args below meth c C T hN
  refine a_aload_n C dL_setWait_0 rfl ?_
  refine a_iconst C dL_setWait_1 ?_
  refine a_aload_n C dL_setWait_2 rfl ?_
  refine a_iload_n C dL_setWait_3 rfl ?_
  refine a_callV (o := 0) (As := [ii_v v0]) C hM co_X9_setWait in_X9 ml_L_15 im_X9_setWait se_X9_setWait rfl rfl ar_X9_setWait ⟨by omega, by decide, by omega, by omega⟩ rfl (Nat.le_of_ble_eq_true rfl) dL_setWait_4 ?_ ?_
  · intro v x1 ad1 z1 hp
    obtain ⟨h1, h2, h3, h4, h5, h6⟩ := hP _ _ _ _ hp
    obtain ⟨rfl, rfl⟩ := oX_l h3
    obtain ⟨g, w9⟩ := z1
    cases h2
    subst h1
    dsimp only at h4 h5
    rw [← h6 90 (by decide)]
    refine a_i2l C dL_setWait_7 ?_
    refine a_last C dL_setWait_8 ?_
    refine a_goto (tgt := 15) C dL_setWait_9 rfl ?_
    refine a_iconst C dL_setWait_15 ?_
    exact a_iret C ⟨rfl, rfl, rfl, h4, h5, h6⟩ (by omega) (by omega) dL_setWait_16
  · intro X x1 ad1 z1 hp
    obtain ⟨h1, h2, h3, h4, h5, h6⟩ := hP _ _ _ _ hp
    obtain ⟨hk0, rfl⟩ := oX_r h3
    obtain ⟨g, w9⟩ := z1
    cases h2
    subst h1
    dsimp only at h4 h5
    rcases (show k = 1 by omega) with rfl
    · refine a_catch (hp := 12) (name := "java/lang/IllegalArgumentException") C [] ⟨0, 9, 12, 13⟩ [] (T.trans rfl) (fun q hq => (nomatch hq)) (by decide) (by decide) cl_L_13 ca_432 rfl (fun q => ?_)
      refine a_astore_n (L' := [(0, .ref (ad 0)), (1, ii_v v0), (2, .ref (ad 90)), (3, .ref q)]) C dL_setWait_12 (by decide) rfl ?_
      refine a_iconst C dL_setWait_13 ?_
      exact a_iret C ⟨rfl, rfl, rfl, h4, h5, h6⟩ (by omega) (by omega) dL_setWait_14
theorem w_addBus {l : Launch} {E : ab_E} {base : Nat} (hl : l.stackTraces = false) {ad : Nat → Nat} {f a2 : Nat → Nat → Int} {TS2 : Nat → List Nat} {nb nr nb2 nr2 : Nat} {vL : Int64} {vD : UInt64} {v0 v1 v2 v3 : Int} {k : Nat} {u : Int} (hk : k ≤ 2) (hZ : Cz l E base yX9_addBus cX9_addBus 6 (some .int) (.ref (ad 0) :: [ii_v v0, ii_v v1, ii_v v2, ii_v v3]) ad f (nb, nr, vL, vD) (nb2, nr2, vL, vD) (oX ["java/lang/IllegalArgumentException", "java/lang/IllegalStateException"] k u) a2 TS2) : ab_MH l E base yL_addBus cL_addBus 7 (some .int) [(0, 14, 17, 13), (0, 14, 21, 22)] 14 4 150 [.ref (ad 0), ii_v v0, ii_v v1, ii_v v2, ii_v v3, .ref (ad 90)] ab_x4 ad (f, nb, nr, vL, vD) (zq ad f (nb2, nr2, (if k = 0 then (ii_n u).toInt64 else vL), vD) (.inl (some (ii_v (k : Int)))) a2 TS2) := by
  obtain ⟨d1, mc1, ms1, Post, hd, hM, hP⟩ := hZ
  refine ab_ofH RL [(0, .ref (ad 0)), (1, ii_v v0), (2, ii_v v1), (3, ii_v v2), (4, ii_v v3), (5, .ref (ad 90))] hl (by decide) rfl (Nat.le_of_ble_eq_true rfl) rfl ?_
  intro p e s m args below meth c C T hN
  refine a_aload C dL_addBus_0 rfl ?_
  refine a_iconst C dL_addBus_2 ?_
  refine a_aload_n C dL_addBus_3 rfl ?_
  refine a_iload_n C dL_addBus_4 rfl ?_
  refine a_iload_n C dL_addBus_5 rfl ?_
  refine a_iload_n C dL_addBus_6 rfl ?_
  refine a_iload C dL_addBus_7 rfl ?_
  refine a_callV (o := 0) (As := [ii_v v0, ii_v v1, ii_v v2, ii_v v3]) C hM co_X9_addBus in_X9 ml_L_18 im_X9_addBus se_X9_addBus rfl rfl ar_X9_addBus ⟨by omega, by decide, by omega, by omega⟩ rfl (Nat.le_of_ble_eq_true rfl) dL_addBus_9 ?_ ?_
  · intro v x1 ad1 z1 hp
    obtain ⟨h1, h2, h3, h4, h5, h6⟩ := hP _ _ _ _ hp
    obtain ⟨rfl, rfl⟩ := oX_l h3
    obtain ⟨g, w9⟩ := z1
    cases h2
    subst h1
    dsimp only at h4 h5
    rw [← h6 90 (by decide)]
    refine a_i2l C dL_addBus_12 ?_
    refine a_last C dL_addBus_13 ?_
    refine a_goto (tgt := 25) C dL_addBus_14 rfl ?_
    refine a_iconst C dL_addBus_25 ?_
    exact a_iret C ⟨rfl, rfl, rfl, h4, h5, h6⟩ (by omega) (by omega) dL_addBus_26
  · intro X x1 ad1 z1 hp
    obtain ⟨h1, h2, h3, h4, h5, h6⟩ := hP _ _ _ _ hp
    obtain ⟨hk0, rfl⟩ := oX_r h3
    obtain ⟨g, w9⟩ := z1
    cases h2
    subst h1
    dsimp only at h4 h5
    rcases (show k = 1 ∨ k = 2 by omega) with rfl | rfl
    · refine a_catch (hp := 17) (name := "java/lang/IllegalArgumentException") C [] ⟨0, 14, 17, 13⟩ [⟨0, 14, 21, 22⟩] (T.trans rfl) (fun q hq => (nomatch hq)) (by decide) (by decide) cl_L_13 ca_432 rfl (fun q => ?_)
      refine a_astore (L' := [(0, .ref (ad 0)), (1, ii_v v0), (2, ii_v v1), (3, ii_v v2), (4, ii_v v3), (5, .ref (ad 90)), (6, .ref q)]) C dL_addBus_17 (by decide) rfl ?_
      refine a_iconst C dL_addBus_19 ?_
      exact a_iret C ⟨rfl, rfl, rfl, h4, h5, h6⟩ (by omega) (by omega) dL_addBus_20
    · refine a_catch (hp := 21) (name := "java/lang/IllegalStateException") C [⟨0, 14, 17, 13⟩] ⟨0, 14, 21, 22⟩ [] (T.trans rfl) (fun q hq => by rw [List.mem_singleton.mp hq]; exact Or.inr ⟨by decide, _, C.2.2.2.2.2.1 _ cl_L_13, hN ("java/lang/IllegalStateException", "java/lang/IllegalArgumentException") (by simp [ab_ncs])⟩) (by decide) (by decide) cl_L_22 ca_523 rfl (fun q => ?_)
      refine a_astore (L' := [(0, .ref (ad 0)), (1, ii_v v0), (2, ii_v v1), (3, ii_v v2), (4, ii_v v3), (5, .ref (ad 90)), (6, .ref q)]) C dL_addBus_21 (by decide) rfl ?_
      refine a_iconst C dL_addBus_23 ?_
      exact a_iret C ⟨rfl, rfl, rfl, h4, h5, h6⟩ (by omega) (by omega) dL_addBus_24
theorem w_request {l : Launch} {E : ab_E} {base : Nat} (hl : l.stackTraces = false) {ad : Nat → Nat} {f a2 : Nat → Nat → Int} {TS2 : Nat → List Nat} {nb nr nb2 nr2 : Nat} {vL : Int64} {vD : UInt64} {v0 v1 v2 v3 v4 : Int} {k : Nat} {u : Int} (hk : k ≤ 3) (hZ : Cz l E base yX9_request cX9_request 9 (some .int) (.ref (ad 0) :: [ii_v v0, ii_v v1, ii_v v2, ii_v v3, ii_v v4]) ad f (nb, nr, vL, vD) (nb2, nr2, vL, vD) (oX ["java/lang/IllegalArgumentException", "java/lang/UnsupportedOperationException", "java/lang/IllegalStateException"] k u) a2 TS2) : ab_MH l E base yL_request cL_request 8 (some .int) [(0, 16, 19, 13), (0, 16, 23, 28), (0, 16, 27, 22)] 14 4 150 [.ref (ad 0), ii_v v0, ii_v v1, ii_v v2, ii_v v3, ii_v v4, .ref (ad 90)] ab_x4 ad (f, nb, nr, vL, vD) (zq ad f (nb2, nr2, (if k = 0 then (ii_n u).toInt64 else vL), vD) (.inl (some (ii_v (k : Int)))) a2 TS2) := by
  obtain ⟨d1, mc1, ms1, Post, hd, hM, hP⟩ := hZ
  refine ab_ofH RL [(0, .ref (ad 0)), (1, ii_v v0), (2, ii_v v1), (3, ii_v v2), (4, ii_v v3), (5, ii_v v4), (6, .ref (ad 90))] hl (by decide) rfl (Nat.le_of_ble_eq_true rfl) rfl ?_
  intro p e s m args below meth c C T hN
  refine a_aload C dL_request_0 rfl ?_
  refine a_iconst C dL_request_2 ?_
  refine a_aload_n C dL_request_3 rfl ?_
  refine a_iload_n C dL_request_4 rfl ?_
  refine a_iload_n C dL_request_5 rfl ?_
  refine a_iload_n C dL_request_6 rfl ?_
  refine a_iload C dL_request_7 rfl ?_
  refine a_iload C dL_request_9 rfl ?_
  refine a_callV (o := 0) (As := [ii_v v0, ii_v v1, ii_v v2, ii_v v3, ii_v v4]) C hM co_X9_request in_X9 ml_L_24 im_X9_request se_X9_request rfl rfl ar_X9_request ⟨by omega, by decide, by omega, by omega⟩ rfl (Nat.le_of_ble_eq_true rfl) dL_request_11 ?_ ?_
  · intro v x1 ad1 z1 hp
    obtain ⟨h1, h2, h3, h4, h5, h6⟩ := hP _ _ _ _ hp
    obtain ⟨rfl, rfl⟩ := oX_l h3
    obtain ⟨g, w9⟩ := z1
    cases h2
    subst h1
    dsimp only at h4 h5
    rw [← h6 90 (by decide)]
    refine a_i2l C dL_request_14 ?_
    refine a_last C dL_request_15 ?_
    refine a_goto (tgt := 31) C dL_request_16 rfl ?_
    refine a_iconst C dL_request_31 ?_
    exact a_iret C ⟨rfl, rfl, rfl, h4, h5, h6⟩ (by omega) (by omega) dL_request_32
  · intro X x1 ad1 z1 hp
    obtain ⟨h1, h2, h3, h4, h5, h6⟩ := hP _ _ _ _ hp
    obtain ⟨hk0, rfl⟩ := oX_r h3
    obtain ⟨g, w9⟩ := z1
    cases h2
    subst h1
    dsimp only at h4 h5
    rcases (show k = 1 ∨ k = 2 ∨ k = 3 by omega) with rfl | rfl | rfl
    · refine a_catch (hp := 19) (name := "java/lang/IllegalArgumentException") C [] ⟨0, 16, 19, 13⟩ [⟨0, 16, 23, 28⟩, ⟨0, 16, 27, 22⟩] (T.trans rfl) (fun q hq => (nomatch hq)) (by decide) (by decide) cl_L_13 ca_432 rfl (fun q => ?_)
      refine a_astore (L' := [(0, .ref (ad 0)), (1, ii_v v0), (2, ii_v v1), (3, ii_v v2), (4, ii_v v3), (5, ii_v v4), (6, .ref (ad 90)), (7, .ref q)]) C dL_request_19 (by decide) rfl ?_
      refine a_iconst C dL_request_21 ?_
      exact a_iret C ⟨rfl, rfl, rfl, h4, h5, h6⟩ (by omega) (by omega) dL_request_22
    · refine a_catch (hp := 23) (name := "java/lang/UnsupportedOperationException") C [⟨0, 16, 19, 13⟩] ⟨0, 16, 23, 28⟩ [⟨0, 16, 27, 22⟩] (T.trans rfl) (fun q hq => by rw [List.mem_singleton.mp hq]; exact Or.inr ⟨by decide, _, C.2.2.2.2.2.1 _ cl_L_13, hN ("java/lang/UnsupportedOperationException", "java/lang/IllegalArgumentException") (by simp [ab_ncs])⟩) (by decide) (by decide) cl_L_28 ca_696 rfl (fun q => ?_)
      refine a_astore (L' := [(0, .ref (ad 0)), (1, ii_v v0), (2, ii_v v1), (3, ii_v v2), (4, ii_v v3), (5, ii_v v4), (6, .ref (ad 90)), (7, .ref q)]) C dL_request_23 (by decide) rfl ?_
      refine a_iconst C dL_request_25 ?_
      exact a_iret C ⟨rfl, rfl, rfl, h4, h5, h6⟩ (by omega) (by omega) dL_request_26
    · refine a_catch (hp := 27) (name := "java/lang/IllegalStateException") C [⟨0, 16, 19, 13⟩, ⟨0, 16, 23, 28⟩] ⟨0, 16, 27, 22⟩ [] (T.trans rfl) (fun q hq => by rcases List.mem_cons.mp hq with rfl | hq; exact Or.inr ⟨by decide, _, C.2.2.2.2.2.1 _ cl_L_13, hN ("java/lang/IllegalStateException", "java/lang/IllegalArgumentException") (by simp [ab_ncs])⟩; rw [List.mem_singleton.mp hq]; exact Or.inr ⟨by decide, _, C.2.2.2.2.2.1 _ cl_L_28, hN ("java/lang/IllegalStateException", "java/lang/UnsupportedOperationException") (by simp [ab_ncs])⟩) (by decide) (by decide) cl_L_22 ca_523 rfl (fun q => ?_)
      refine a_astore (L' := [(0, .ref (ad 0)), (1, ii_v v0), (2, ii_v v1), (3, ii_v v2), (4, ii_v v3), (5, ii_v v4), (6, .ref (ad 90)), (7, .ref q)]) C dL_request_27 (by decide) rfl ?_
      refine a_iconst C dL_request_29 ?_
      exact a_iret C ⟨rfl, rfl, rfl, h4, h5, h6⟩ (by omega) (by omega) dL_request_30
theorem w_quote {l : Launch} {E : ab_E} {base : Nat} (hl : l.stackTraces = false) {ad : Nat → Nat} {f a2 : Nat → Nat → Int} {TS2 : Nat → List Nat} {nb nr nb2 nr2 : Nat} {vL : Int64} {vD : UInt64} {v0 v1 v2 v3 v4 : Int} {k : Nat} {u : Int} (hk : k ≤ 3) (hZ : Cz l E base yX9_quote cX9_quote 6 (some .int) (.ref (ad 0) :: [ii_v v0, ii_v v1, ii_v v2, ii_v v3, ii_v v4]) ad f (nb, nr, vL, vD) (nb2, nr2, vL, vD) (oX ["java/lang/IllegalArgumentException", "java/lang/UnsupportedOperationException", "java/util/NoSuchElementException"] k u) a2 TS2) : ab_MH l E base yL_quote cL_quote 8 (some .int) [(0, 16, 19, 13), (0, 16, 23, 28), (0, 16, 27, 33)] 14 4 150 [.ref (ad 0), ii_v v0, ii_v v1, ii_v v2, ii_v v3, ii_v v4, .ref (ad 90)] ab_x4 ad (f, nb, nr, vL, vD) (zq ad f (nb2, nr2, (if k = 0 then (ii_n u).toInt64 else vL), vD) (.inl (some (ii_v (k : Int)))) a2 TS2) := by
  obtain ⟨d1, mc1, ms1, Post, hd, hM, hP⟩ := hZ
  refine ab_ofH RL [(0, .ref (ad 0)), (1, ii_v v0), (2, ii_v v1), (3, ii_v v2), (4, ii_v v3), (5, ii_v v4), (6, .ref (ad 90))] hl (by decide) rfl (Nat.le_of_ble_eq_true rfl) rfl ?_
  intro p e s m args below meth c C T hN
  refine a_aload C dL_quote_0 rfl ?_
  refine a_iconst C dL_quote_2 ?_
  refine a_aload_n C dL_quote_3 rfl ?_
  refine a_iload_n C dL_quote_4 rfl ?_
  refine a_iload_n C dL_quote_5 rfl ?_
  refine a_iload_n C dL_quote_6 rfl ?_
  refine a_iload C dL_quote_7 rfl ?_
  refine a_iload C dL_quote_9 rfl ?_
  refine a_callV (o := 0) (As := [ii_v v0, ii_v v1, ii_v v2, ii_v v3, ii_v v4]) C hM co_X9_quote in_X9 ml_L_30 im_X9_quote se_X9_quote rfl rfl ar_X9_quote ⟨by omega, by decide, by omega, by omega⟩ rfl (Nat.le_of_ble_eq_true rfl) dL_quote_11 ?_ ?_
  · intro v x1 ad1 z1 hp
    obtain ⟨h1, h2, h3, h4, h5, h6⟩ := hP _ _ _ _ hp
    obtain ⟨rfl, rfl⟩ := oX_l h3
    obtain ⟨g, w9⟩ := z1
    cases h2
    subst h1
    dsimp only at h4 h5
    rw [← h6 90 (by decide)]
    refine a_i2l C dL_quote_14 ?_
    refine a_last C dL_quote_15 ?_
    refine a_goto (tgt := 31) C dL_quote_16 rfl ?_
    refine a_iconst C dL_quote_31 ?_
    exact a_iret C ⟨rfl, rfl, rfl, h4, h5, h6⟩ (by omega) (by omega) dL_quote_32
  · intro X x1 ad1 z1 hp
    obtain ⟨h1, h2, h3, h4, h5, h6⟩ := hP _ _ _ _ hp
    obtain ⟨hk0, rfl⟩ := oX_r h3
    obtain ⟨g, w9⟩ := z1
    cases h2
    subst h1
    dsimp only at h4 h5
    rcases (show k = 1 ∨ k = 2 ∨ k = 3 by omega) with rfl | rfl | rfl
    · refine a_catch (hp := 19) (name := "java/lang/IllegalArgumentException") C [] ⟨0, 16, 19, 13⟩ [⟨0, 16, 23, 28⟩, ⟨0, 16, 27, 33⟩] (T.trans rfl) (fun q hq => (nomatch hq)) (by decide) (by decide) cl_L_13 ca_432 rfl (fun q => ?_)
      refine a_astore (L' := [(0, .ref (ad 0)), (1, ii_v v0), (2, ii_v v1), (3, ii_v v2), (4, ii_v v3), (5, ii_v v4), (6, .ref (ad 90)), (7, .ref q)]) C dL_quote_19 (by decide) rfl ?_
      refine a_iconst C dL_quote_21 ?_
      exact a_iret C ⟨rfl, rfl, rfl, h4, h5, h6⟩ (by omega) (by omega) dL_quote_22
    · refine a_catch (hp := 23) (name := "java/lang/UnsupportedOperationException") C [⟨0, 16, 19, 13⟩] ⟨0, 16, 23, 28⟩ [⟨0, 16, 27, 33⟩] (T.trans rfl) (fun q hq => by rw [List.mem_singleton.mp hq]; exact Or.inr ⟨by decide, _, C.2.2.2.2.2.1 _ cl_L_13, hN ("java/lang/UnsupportedOperationException", "java/lang/IllegalArgumentException") (by simp [ab_ncs])⟩) (by decide) (by decide) cl_L_28 ca_696 rfl (fun q => ?_)
      refine a_astore (L' := [(0, .ref (ad 0)), (1, ii_v v0), (2, ii_v v1), (3, ii_v v2), (4, ii_v v3), (5, ii_v v4), (6, .ref (ad 90)), (7, .ref q)]) C dL_quote_23 (by decide) rfl ?_
      refine a_iconst C dL_quote_25 ?_
      exact a_iret C ⟨rfl, rfl, rfl, h4, h5, h6⟩ (by omega) (by omega) dL_quote_26
    · refine a_catch (hp := 27) (name := "java/util/NoSuchElementException") C [⟨0, 16, 19, 13⟩, ⟨0, 16, 23, 28⟩] ⟨0, 16, 27, 33⟩ [] (T.trans rfl) (fun q hq => by rcases List.mem_cons.mp hq with rfl | hq; exact Or.inr ⟨by decide, _, C.2.2.2.2.2.1 _ cl_L_13, hN ("java/util/NoSuchElementException", "java/lang/IllegalArgumentException") (by simp [ab_ncs])⟩; rw [List.mem_singleton.mp hq]; exact Or.inr ⟨by decide, _, C.2.2.2.2.2.1 _ cl_L_28, hN ("java/util/NoSuchElementException", "java/lang/UnsupportedOperationException") (by simp [ab_ncs])⟩) (by decide) (by decide) cl_L_33 ca_917 rfl (fun q => ?_)
      refine a_astore (L' := [(0, .ref (ad 0)), (1, ii_v v0), (2, ii_v v1), (3, ii_v v2), (4, ii_v v3), (5, ii_v v4), (6, .ref (ad 90)), (7, .ref q)]) C dL_quote_27 (by decide) rfl ?_
      refine a_iconst C dL_quote_29 ?_
      exact a_iret C ⟨rfl, rfl, rfl, h4, h5, h6⟩ (by omega) (by omega) dL_quote_30
theorem w_quoteByTrying {l : Launch} {E : ab_E} {base : Nat} (hl : l.stackTraces = false) {ad : Nat → Nat} {f a2 : Nat → Nat → Int} {TS2 : Nat → List Nat} {nb nr nb2 nr2 : Nat} {vL : Int64} {vD : UInt64} {v0 v1 v2 v3 v4 : Int} {k : Nat} {u : Int} (hk : k ≤ 3) (hZ : Cz l E base yX9_quoteByTrying cX9_quoteByTrying 6 (some .int) (.ref (ad 0) :: [ii_v v0, ii_v v1, ii_v v2, ii_v v3, ii_v v4]) ad f (nb, nr, vL, vD) (nb2, nr2, vL, vD) (oX ["java/lang/IllegalArgumentException", "java/lang/UnsupportedOperationException", "java/util/NoSuchElementException"] k u) a2 TS2) : ab_MH l E base yL_quoteByTrying cL_quoteByTrying 8 (some .int) [(0, 16, 19, 13), (0, 16, 23, 28), (0, 16, 27, 33)] 14 4 150 [.ref (ad 0), ii_v v0, ii_v v1, ii_v v2, ii_v v3, ii_v v4, .ref (ad 90)] ab_x4 ad (f, nb, nr, vL, vD) (zq ad f (nb2, nr2, (if k = 0 then (ii_n u).toInt64 else vL), vD) (.inl (some (ii_v (k : Int)))) a2 TS2) := by
  obtain ⟨d1, mc1, ms1, Post, hd, hM, hP⟩ := hZ
  refine ab_ofH RL [(0, .ref (ad 0)), (1, ii_v v0), (2, ii_v v1), (3, ii_v v2), (4, ii_v v3), (5, ii_v v4), (6, .ref (ad 90))] hl (by decide) rfl (Nat.le_of_ble_eq_true rfl) rfl ?_
  intro p e s m args below meth c C T hN
  refine a_aload C dL_quoteByTrying_0 rfl ?_
  refine a_iconst C dL_quoteByTrying_2 ?_
  refine a_aload_n C dL_quoteByTrying_3 rfl ?_
  refine a_iload_n C dL_quoteByTrying_4 rfl ?_
  refine a_iload_n C dL_quoteByTrying_5 rfl ?_
  refine a_iload_n C dL_quoteByTrying_6 rfl ?_
  refine a_iload C dL_quoteByTrying_7 rfl ?_
  refine a_iload C dL_quoteByTrying_9 rfl ?_
  refine a_callV (o := 0) (As := [ii_v v0, ii_v v1, ii_v v2, ii_v v3, ii_v v4]) C hM co_X9_quoteByTrying in_X9 ml_L_35 im_X9_quoteByTrying se_X9_quoteByTrying rfl rfl ar_X9_quoteByTrying ⟨by omega, by decide, by omega, by omega⟩ rfl (Nat.le_of_ble_eq_true rfl) dL_quoteByTrying_11 ?_ ?_
  · intro v x1 ad1 z1 hp
    obtain ⟨h1, h2, h3, h4, h5, h6⟩ := hP _ _ _ _ hp
    obtain ⟨rfl, rfl⟩ := oX_l h3
    obtain ⟨g, w9⟩ := z1
    cases h2
    subst h1
    dsimp only at h4 h5
    rw [← h6 90 (by decide)]
    refine a_i2l C dL_quoteByTrying_14 ?_
    refine a_last C dL_quoteByTrying_15 ?_
    refine a_goto (tgt := 31) C dL_quoteByTrying_16 rfl ?_
    refine a_iconst C dL_quoteByTrying_31 ?_
    exact a_iret C ⟨rfl, rfl, rfl, h4, h5, h6⟩ (by omega) (by omega) dL_quoteByTrying_32
  · intro X x1 ad1 z1 hp
    obtain ⟨h1, h2, h3, h4, h5, h6⟩ := hP _ _ _ _ hp
    obtain ⟨hk0, rfl⟩ := oX_r h3
    obtain ⟨g, w9⟩ := z1
    cases h2
    subst h1
    dsimp only at h4 h5
    rcases (show k = 1 ∨ k = 2 ∨ k = 3 by omega) with rfl | rfl | rfl
    · refine a_catch (hp := 19) (name := "java/lang/IllegalArgumentException") C [] ⟨0, 16, 19, 13⟩ [⟨0, 16, 23, 28⟩, ⟨0, 16, 27, 33⟩] (T.trans rfl) (fun q hq => (nomatch hq)) (by decide) (by decide) cl_L_13 ca_432 rfl (fun q => ?_)
      refine a_astore (L' := [(0, .ref (ad 0)), (1, ii_v v0), (2, ii_v v1), (3, ii_v v2), (4, ii_v v3), (5, ii_v v4), (6, .ref (ad 90)), (7, .ref q)]) C dL_quoteByTrying_19 (by decide) rfl ?_
      refine a_iconst C dL_quoteByTrying_21 ?_
      exact a_iret C ⟨rfl, rfl, rfl, h4, h5, h6⟩ (by omega) (by omega) dL_quoteByTrying_22
    · refine a_catch (hp := 23) (name := "java/lang/UnsupportedOperationException") C [⟨0, 16, 19, 13⟩] ⟨0, 16, 23, 28⟩ [⟨0, 16, 27, 33⟩] (T.trans rfl) (fun q hq => by rw [List.mem_singleton.mp hq]; exact Or.inr ⟨by decide, _, C.2.2.2.2.2.1 _ cl_L_13, hN ("java/lang/UnsupportedOperationException", "java/lang/IllegalArgumentException") (by simp [ab_ncs])⟩) (by decide) (by decide) cl_L_28 ca_696 rfl (fun q => ?_)
      refine a_astore (L' := [(0, .ref (ad 0)), (1, ii_v v0), (2, ii_v v1), (3, ii_v v2), (4, ii_v v3), (5, ii_v v4), (6, .ref (ad 90)), (7, .ref q)]) C dL_quoteByTrying_23 (by decide) rfl ?_
      refine a_iconst C dL_quoteByTrying_25 ?_
      exact a_iret C ⟨rfl, rfl, rfl, h4, h5, h6⟩ (by omega) (by omega) dL_quoteByTrying_26
    · refine a_catch (hp := 27) (name := "java/util/NoSuchElementException") C [⟨0, 16, 19, 13⟩, ⟨0, 16, 23, 28⟩] ⟨0, 16, 27, 33⟩ [] (T.trans rfl) (fun q hq => by rcases List.mem_cons.mp hq with rfl | hq; exact Or.inr ⟨by decide, _, C.2.2.2.2.2.1 _ cl_L_13, hN ("java/util/NoSuchElementException", "java/lang/IllegalArgumentException") (by simp [ab_ncs])⟩; rw [List.mem_singleton.mp hq]; exact Or.inr ⟨by decide, _, C.2.2.2.2.2.1 _ cl_L_28, hN ("java/util/NoSuchElementException", "java/lang/UnsupportedOperationException") (by simp [ab_ncs])⟩) (by decide) (by decide) cl_L_33 ca_917 rfl (fun q => ?_)
      refine a_astore (L' := [(0, .ref (ad 0)), (1, ii_v v0), (2, ii_v v1), (3, ii_v v2), (4, ii_v v3), (5, ii_v v4), (6, .ref (ad 90)), (7, .ref q)]) C dL_quoteByTrying_27 (by decide) rfl ?_
      refine a_iconst C dL_quoteByTrying_29 ?_
      exact a_iret C ⟨rfl, rfl, rfl, h4, h5, h6⟩ (by omega) (by omega) dL_quoteByTrying_30
theorem w_quotedBus {l : Launch} {E : ab_E} {base : Nat} (hl : l.stackTraces = false) {ad : Nat → Nat} {f a2 : Nat → Nat → Int} {TS2 : Nat → List Nat} {nb nr nb2 nr2 : Nat} {vL : Int64} {vD : UInt64} {v0 v1 v2 v3 v4 : Int} {k : Nat} {u : Int} (hk : k ≤ 3) (hZ : Cz l E base yX9_quotedBus cX9_quotedBus 6 (some .int) (.ref (ad 0) :: [ii_v v0, ii_v v1, ii_v v2, ii_v v3, ii_v v4]) ad f (nb, nr, vL, vD) (nb2, nr2, vL, vD) (oX ["java/lang/IllegalArgumentException", "java/lang/UnsupportedOperationException", "java/util/NoSuchElementException"] k u) a2 TS2) : ab_MH l E base yL_quotedBus cL_quotedBus 8 (some .int) [(0, 16, 19, 13), (0, 16, 23, 28), (0, 16, 27, 33)] 14 4 150 [.ref (ad 0), ii_v v0, ii_v v1, ii_v v2, ii_v v3, ii_v v4, .ref (ad 90)] ab_x4 ad (f, nb, nr, vL, vD) (zq ad f (nb2, nr2, (if k = 0 then (ii_n u).toInt64 else vL), vD) (.inl (some (ii_v (k : Int)))) a2 TS2) := by
  obtain ⟨d1, mc1, ms1, Post, hd, hM, hP⟩ := hZ
  refine ab_ofH RL [(0, .ref (ad 0)), (1, ii_v v0), (2, ii_v v1), (3, ii_v v2), (4, ii_v v3), (5, ii_v v4), (6, .ref (ad 90))] hl (by decide) rfl (Nat.le_of_ble_eq_true rfl) rfl ?_
  intro p e s m args below meth c C T hN
  refine a_aload C dL_quotedBus_0 rfl ?_
  refine a_iconst C dL_quotedBus_2 ?_
  refine a_aload_n C dL_quotedBus_3 rfl ?_
  refine a_iload_n C dL_quotedBus_4 rfl ?_
  refine a_iload_n C dL_quotedBus_5 rfl ?_
  refine a_iload_n C dL_quotedBus_6 rfl ?_
  refine a_iload C dL_quotedBus_7 rfl ?_
  refine a_iload C dL_quotedBus_9 rfl ?_
  refine a_callV (o := 0) (As := [ii_v v0, ii_v v1, ii_v v2, ii_v v3, ii_v v4]) C hM co_X9_quotedBus in_X9 ml_L_38 im_X9_quotedBus se_X9_quotedBus rfl rfl ar_X9_quotedBus ⟨by omega, by decide, by omega, by omega⟩ rfl (Nat.le_of_ble_eq_true rfl) dL_quotedBus_11 ?_ ?_
  · intro v x1 ad1 z1 hp
    obtain ⟨h1, h2, h3, h4, h5, h6⟩ := hP _ _ _ _ hp
    obtain ⟨rfl, rfl⟩ := oX_l h3
    obtain ⟨g, w9⟩ := z1
    cases h2
    subst h1
    dsimp only at h4 h5
    rw [← h6 90 (by decide)]
    refine a_i2l C dL_quotedBus_14 ?_
    refine a_last C dL_quotedBus_15 ?_
    refine a_goto (tgt := 31) C dL_quotedBus_16 rfl ?_
    refine a_iconst C dL_quotedBus_31 ?_
    exact a_iret C ⟨rfl, rfl, rfl, h4, h5, h6⟩ (by omega) (by omega) dL_quotedBus_32
  · intro X x1 ad1 z1 hp
    obtain ⟨h1, h2, h3, h4, h5, h6⟩ := hP _ _ _ _ hp
    obtain ⟨hk0, rfl⟩ := oX_r h3
    obtain ⟨g, w9⟩ := z1
    cases h2
    subst h1
    dsimp only at h4 h5
    rcases (show k = 1 ∨ k = 2 ∨ k = 3 by omega) with rfl | rfl | rfl
    · refine a_catch (hp := 19) (name := "java/lang/IllegalArgumentException") C [] ⟨0, 16, 19, 13⟩ [⟨0, 16, 23, 28⟩, ⟨0, 16, 27, 33⟩] (T.trans rfl) (fun q hq => (nomatch hq)) (by decide) (by decide) cl_L_13 ca_432 rfl (fun q => ?_)
      refine a_astore (L' := [(0, .ref (ad 0)), (1, ii_v v0), (2, ii_v v1), (3, ii_v v2), (4, ii_v v3), (5, ii_v v4), (6, .ref (ad 90)), (7, .ref q)]) C dL_quotedBus_19 (by decide) rfl ?_
      refine a_iconst C dL_quotedBus_21 ?_
      exact a_iret C ⟨rfl, rfl, rfl, h4, h5, h6⟩ (by omega) (by omega) dL_quotedBus_22
    · refine a_catch (hp := 23) (name := "java/lang/UnsupportedOperationException") C [⟨0, 16, 19, 13⟩] ⟨0, 16, 23, 28⟩ [⟨0, 16, 27, 33⟩] (T.trans rfl) (fun q hq => by rw [List.mem_singleton.mp hq]; exact Or.inr ⟨by decide, _, C.2.2.2.2.2.1 _ cl_L_13, hN ("java/lang/UnsupportedOperationException", "java/lang/IllegalArgumentException") (by simp [ab_ncs])⟩) (by decide) (by decide) cl_L_28 ca_696 rfl (fun q => ?_)
      refine a_astore (L' := [(0, .ref (ad 0)), (1, ii_v v0), (2, ii_v v1), (3, ii_v v2), (4, ii_v v3), (5, ii_v v4), (6, .ref (ad 90)), (7, .ref q)]) C dL_quotedBus_23 (by decide) rfl ?_
      refine a_iconst C dL_quotedBus_25 ?_
      exact a_iret C ⟨rfl, rfl, rfl, h4, h5, h6⟩ (by omega) (by omega) dL_quotedBus_26
    · refine a_catch (hp := 27) (name := "java/util/NoSuchElementException") C [⟨0, 16, 19, 13⟩, ⟨0, 16, 23, 28⟩] ⟨0, 16, 27, 33⟩ [] (T.trans rfl) (fun q hq => by rcases List.mem_cons.mp hq with rfl | hq; exact Or.inr ⟨by decide, _, C.2.2.2.2.2.1 _ cl_L_13, hN ("java/util/NoSuchElementException", "java/lang/IllegalArgumentException") (by simp [ab_ncs])⟩; rw [List.mem_singleton.mp hq]; exact Or.inr ⟨by decide, _, C.2.2.2.2.2.1 _ cl_L_28, hN ("java/util/NoSuchElementException", "java/lang/UnsupportedOperationException") (by simp [ab_ncs])⟩) (by decide) (by decide) cl_L_33 ca_917 rfl (fun q => ?_)
      refine a_astore (L' := [(0, .ref (ad 0)), (1, ii_v v0), (2, ii_v v1), (3, ii_v v2), (4, ii_v v3), (5, ii_v v4), (6, .ref (ad 90)), (7, .ref q)]) C dL_quotedBus_27 (by decide) rfl ?_
      refine a_iconst C dL_quotedBus_29 ?_
      exact a_iret C ⟨rfl, rfl, rfl, h4, h5, h6⟩ (by omega) (by omega) dL_quotedBus_30
theorem w_cancel {l : Launch} {E : ab_E} {base : Nat} (hl : l.stackTraces = false) {ad : Nat → Nat} {f a2 : Nat → Nat → Int} {TS2 : Nat → List Nat} {nb nr nb2 nr2 : Nat} {vL : Int64} {vD : UInt64} {v0 : Int} {k : Nat} {u : Int} (hk : k ≤ 2) (hZ : Cz l E base yX9_cancel cX9_cancel 4 (some .int) (.ref (ad 0) :: [ii_v v0]) ad f (nb, nr, vL, vD) (nb2, nr2, vL, vD) (oX ["java/lang/IndexOutOfBoundsException", "java/lang/IllegalStateException"] k u) a2 TS2) : ab_MH l E base yL_cancel cL_cancel 4 (some .int) [(0, 9, 12, 44), (0, 9, 15, 22)] 14 4 150 [.ref (ad 0), ii_v v0, .ref (ad 90)] ab_x4 ad (f, nb, nr, vL, vD) (zq ad f (nb2, nr2, (if k = 0 then (ii_n u).toInt64 else vL), vD) (.inl (some (ii_v (k : Int)))) a2 TS2) := by
  obtain ⟨d1, mc1, ms1, Post, hd, hM, hP⟩ := hZ
  refine ab_ofH RL [(0, .ref (ad 0)), (1, ii_v v0), (2, .ref (ad 90))] hl (by decide) rfl (Nat.le_of_ble_eq_true rfl) rfl ?_
  intro p e s m args below meth c C T hN
  refine a_aload_n C dL_cancel_0 rfl ?_
  refine a_iconst C dL_cancel_1 ?_
  refine a_aload_n C dL_cancel_2 rfl ?_
  refine a_iload_n C dL_cancel_3 rfl ?_
  refine a_callV (o := 0) (As := [ii_v v0]) C hM co_X9_cancel in_X9 ml_L_41 im_X9_cancel se_X9_cancel rfl rfl ar_X9_cancel ⟨by omega, by decide, by omega, by omega⟩ rfl (Nat.le_of_ble_eq_true rfl) dL_cancel_4 ?_ ?_
  · intro v x1 ad1 z1 hp
    obtain ⟨h1, h2, h3, h4, h5, h6⟩ := hP _ _ _ _ hp
    obtain ⟨rfl, rfl⟩ := oX_l h3
    obtain ⟨g, w9⟩ := z1
    cases h2
    subst h1
    dsimp only at h4 h5
    rw [← h6 90 (by decide)]
    refine a_i2l C dL_cancel_7 ?_
    refine a_last C dL_cancel_8 ?_
    refine a_goto (tgt := 18) C dL_cancel_9 rfl ?_
    refine a_iconst C dL_cancel_18 ?_
    exact a_iret C ⟨rfl, rfl, rfl, h4, h5, h6⟩ (by omega) (by omega) dL_cancel_19
  · intro X x1 ad1 z1 hp
    obtain ⟨h1, h2, h3, h4, h5, h6⟩ := hP _ _ _ _ hp
    obtain ⟨hk0, rfl⟩ := oX_r h3
    obtain ⟨g, w9⟩ := z1
    cases h2
    subst h1
    dsimp only at h4 h5
    rcases (show k = 1 ∨ k = 2 by omega) with rfl | rfl
    · refine a_catch (hp := 12) (name := "java/lang/IndexOutOfBoundsException") C [] ⟨0, 9, 12, 44⟩ [⟨0, 9, 15, 22⟩] (T.trans rfl) (fun q hq => (nomatch hq)) (by decide) (by decide) cl_L_44 ca_959 rfl (fun q => ?_)
      refine a_astore_n (L' := [(0, .ref (ad 0)), (1, ii_v v0), (2, .ref (ad 90)), (3, .ref q)]) C dL_cancel_12 (by decide) rfl ?_
      refine a_iconst C dL_cancel_13 ?_
      exact a_iret C ⟨rfl, rfl, rfl, h4, h5, h6⟩ (by omega) (by omega) dL_cancel_14
    · refine a_catch (hp := 15) (name := "java/lang/IllegalStateException") C [⟨0, 9, 12, 44⟩] ⟨0, 9, 15, 22⟩ [] (T.trans rfl) (fun q hq => by rw [List.mem_singleton.mp hq]; exact Or.inr ⟨by decide, _, C.2.2.2.2.2.1 _ cl_L_44, hN ("java/lang/IllegalStateException", "java/lang/IndexOutOfBoundsException") (by simp [ab_ncs])⟩) (by decide) (by decide) cl_L_22 ca_523 rfl (fun q => ?_)
      refine a_astore_n (L' := [(0, .ref (ad 0)), (1, ii_v v0), (2, .ref (ad 90)), (3, .ref q)]) C dL_cancel_15 (by decide) rfl ?_
      refine a_iconst C dL_cancel_16 ?_
      exact a_iret C ⟨rfl, rfl, rfl, h4, h5, h6⟩ (by omega) (by omega) dL_cancel_17
theorem w_status {l : Launch} {E : ab_E} {base : Nat} (hl : l.stackTraces = false) {ad : Nat → Nat} {f a2 : Nat → Nat → Int} {TS2 : Nat → List Nat} {nb nr nb2 nr2 : Nat} {vL : Int64} {vD : UInt64} {v0 : Int} {k : Nat} {u : Int} (hk : k ≤ 1) (hZ : Cz l E base yX9_status cX9_status 2 (some .char) (.ref (ad 0) :: [ii_v v0]) ad f (nb, nr, vL, vD) (nb2, nr2, vL, vD) (oX ["java/lang/IndexOutOfBoundsException"] k u) a2 TS2) : ab_MH l E base yL_status cL_status 4 (some .int) [(0, 9, 12, 44)] 14 4 150 [.ref (ad 0), ii_v v0, .ref (ad 90)] ab_x4 ad (f, nb, nr, vL, vD) (zq ad f (nb2, nr2, (if k = 0 then (ii_n u).toInt64 else vL), vD) (.inl (some (ii_v (k : Int)))) a2 TS2) := by
  obtain ⟨d1, mc1, ms1, Post, hd, hM, hP⟩ := hZ
  refine ab_ofH RL [(0, .ref (ad 0)), (1, ii_v v0), (2, .ref (ad 90))] hl (by decide) rfl (Nat.le_of_ble_eq_true rfl) rfl ?_
  intro p e s m args below meth c C T hN
  refine a_aload_n C dL_status_0 rfl ?_
  refine a_iconst C dL_status_1 ?_
  refine a_aload_n C dL_status_2 rfl ?_
  refine a_iload_n C dL_status_3 rfl ?_
  refine a_callV (o := 0) (As := [ii_v v0]) C hM co_X9_status in_X9 ml_L_46 im_X9_status se_X9_status rfl rfl ar_X9_status ⟨by omega, by decide, by omega, by omega⟩ rfl (Nat.le_of_ble_eq_true rfl) dL_status_4 ?_ ?_
  · intro v x1 ad1 z1 hp
    obtain ⟨h1, h2, h3, h4, h5, h6⟩ := hP _ _ _ _ hp
    obtain ⟨rfl, rfl⟩ := oX_l h3
    obtain ⟨g, w9⟩ := z1
    cases h2
    subst h1
    dsimp only at h4 h5
    rw [← h6 90 (by decide)]
    refine a_i2l C dL_status_7 ?_
    refine a_last C dL_status_8 ?_
    refine a_goto (tgt := 15) C dL_status_9 rfl ?_
    refine a_iconst C dL_status_15 ?_
    exact a_iret C ⟨rfl, rfl, rfl, h4, h5, h6⟩ (by omega) (by omega) dL_status_16
  · intro X x1 ad1 z1 hp
    obtain ⟨h1, h2, h3, h4, h5, h6⟩ := hP _ _ _ _ hp
    obtain ⟨hk0, rfl⟩ := oX_r h3
    obtain ⟨g, w9⟩ := z1
    cases h2
    subst h1
    dsimp only at h4 h5
    rcases (show k = 1 by omega) with rfl
    · refine a_catch (hp := 12) (name := "java/lang/IndexOutOfBoundsException") C [] ⟨0, 9, 12, 44⟩ [] (T.trans rfl) (fun q hq => (nomatch hq)) (by decide) (by decide) cl_L_44 ca_959 rfl (fun q => ?_)
      refine a_astore_n (L' := [(0, .ref (ad 0)), (1, ii_v v0), (2, .ref (ad 90)), (3, .ref q)]) C dL_status_12 (by decide) rfl ?_
      refine a_iconst C dL_status_13 ?_
      exact a_iret C ⟨rfl, rfl, rfl, h4, h5, h6⟩ (by omega) (by omega) dL_status_14
theorem w_reason {l : Launch} {E : ab_E} {base : Nat} (hl : l.stackTraces = false) {ad : Nat → Nat} {f a2 : Nat → Nat → Int} {TS2 : Nat → List Nat} {nb nr nb2 nr2 : Nat} {vL : Int64} {vD : UInt64} {v0 : Int} {k : Nat} {u : Int} (hk : k ≤ 2) (hZ : Cz l E base yX9_reason cX9_reason 3 (some .char) (.ref (ad 0) :: [ii_v v0]) ad f (nb, nr, vL, vD) (nb2, nr2, vL, vD) (oX ["java/lang/IndexOutOfBoundsException", "java/lang/IllegalStateException"] k u) a2 TS2) : ab_MH l E base yL_reason cL_reason 4 (some .int) [(0, 9, 12, 44), (0, 9, 15, 22)] 14 4 150 [.ref (ad 0), ii_v v0, .ref (ad 90)] ab_x4 ad (f, nb, nr, vL, vD) (zq ad f (nb2, nr2, (if k = 0 then (ii_n u).toInt64 else vL), vD) (.inl (some (ii_v (k : Int)))) a2 TS2) := by
  obtain ⟨d1, mc1, ms1, Post, hd, hM, hP⟩ := hZ
  refine ab_ofH RL [(0, .ref (ad 0)), (1, ii_v v0), (2, .ref (ad 90))] hl (by decide) rfl (Nat.le_of_ble_eq_true rfl) rfl ?_
  intro p e s m args below meth c C T hN
  refine a_aload_n C dL_reason_0 rfl ?_
  refine a_iconst C dL_reason_1 ?_
  refine a_aload_n C dL_reason_2 rfl ?_
  refine a_iload_n C dL_reason_3 rfl ?_
  refine a_callV (o := 0) (As := [ii_v v0]) C hM co_X9_reason in_X9 ml_L_50 im_X9_reason se_X9_reason rfl rfl ar_X9_reason ⟨by omega, by decide, by omega, by omega⟩ rfl (Nat.le_of_ble_eq_true rfl) dL_reason_4 ?_ ?_
  · intro v x1 ad1 z1 hp
    obtain ⟨h1, h2, h3, h4, h5, h6⟩ := hP _ _ _ _ hp
    obtain ⟨rfl, rfl⟩ := oX_l h3
    obtain ⟨g, w9⟩ := z1
    cases h2
    subst h1
    dsimp only at h4 h5
    rw [← h6 90 (by decide)]
    refine a_i2l C dL_reason_7 ?_
    refine a_last C dL_reason_8 ?_
    refine a_goto (tgt := 18) C dL_reason_9 rfl ?_
    refine a_iconst C dL_reason_18 ?_
    exact a_iret C ⟨rfl, rfl, rfl, h4, h5, h6⟩ (by omega) (by omega) dL_reason_19
  · intro X x1 ad1 z1 hp
    obtain ⟨h1, h2, h3, h4, h5, h6⟩ := hP _ _ _ _ hp
    obtain ⟨hk0, rfl⟩ := oX_r h3
    obtain ⟨g, w9⟩ := z1
    cases h2
    subst h1
    dsimp only at h4 h5
    rcases (show k = 1 ∨ k = 2 by omega) with rfl | rfl
    · refine a_catch (hp := 12) (name := "java/lang/IndexOutOfBoundsException") C [] ⟨0, 9, 12, 44⟩ [⟨0, 9, 15, 22⟩] (T.trans rfl) (fun q hq => (nomatch hq)) (by decide) (by decide) cl_L_44 ca_959 rfl (fun q => ?_)
      refine a_astore_n (L' := [(0, .ref (ad 0)), (1, ii_v v0), (2, .ref (ad 90)), (3, .ref q)]) C dL_reason_12 (by decide) rfl ?_
      refine a_iconst C dL_reason_13 ?_
      exact a_iret C ⟨rfl, rfl, rfl, h4, h5, h6⟩ (by omega) (by omega) dL_reason_14
    · refine a_catch (hp := 15) (name := "java/lang/IllegalStateException") C [⟨0, 9, 12, 44⟩] ⟨0, 9, 15, 22⟩ [] (T.trans rfl) (fun q hq => by rw [List.mem_singleton.mp hq]; exact Or.inr ⟨by decide, _, C.2.2.2.2.2.1 _ cl_L_44, hN ("java/lang/IllegalStateException", "java/lang/IndexOutOfBoundsException") (by simp [ab_ncs])⟩) (by decide) (by decide) cl_L_22 ca_523 rfl (fun q => ?_)
      refine a_astore_n (L' := [(0, .ref (ad 0)), (1, ii_v v0), (2, .ref (ad 90)), (3, .ref q)]) C dL_reason_15 (by decide) rfl ?_
      refine a_iconst C dL_reason_16 ?_
      exact a_iret C ⟨rfl, rfl, rfl, h4, h5, h6⟩ (by omega) (by omega) dL_reason_17
theorem w_busOf {l : Launch} {E : ab_E} {base : Nat} (hl : l.stackTraces = false) {ad : Nat → Nat} {f a2 : Nat → Nat → Int} {TS2 : Nat → List Nat} {nb nr nb2 nr2 : Nat} {vL : Int64} {vD : UInt64} {v0 : Int} {k : Nat} {u : Int} (hk : k ≤ 2) (hZ : Cz l E base yX9_busOf cX9_busOf 3 (some .int) (.ref (ad 0) :: [ii_v v0]) ad f (nb, nr, vL, vD) (nb2, nr2, vL, vD) (oX ["java/lang/IndexOutOfBoundsException", "java/lang/IllegalStateException"] k u) a2 TS2) : ab_MH l E base yL_busOf cL_busOf 4 (some .int) [(0, 9, 12, 44), (0, 9, 15, 22)] 14 4 150 [.ref (ad 0), ii_v v0, .ref (ad 90)] ab_x4 ad (f, nb, nr, vL, vD) (zq ad f (nb2, nr2, (if k = 0 then (ii_n u).toInt64 else vL), vD) (.inl (some (ii_v (k : Int)))) a2 TS2) := by
  obtain ⟨d1, mc1, ms1, Post, hd, hM, hP⟩ := hZ
  refine ab_ofH RL [(0, .ref (ad 0)), (1, ii_v v0), (2, .ref (ad 90))] hl (by decide) rfl (Nat.le_of_ble_eq_true rfl) rfl ?_
  intro p e s m args below meth c C T hN
  refine a_aload_n C dL_busOf_0 rfl ?_
  refine a_iconst C dL_busOf_1 ?_
  refine a_aload_n C dL_busOf_2 rfl ?_
  refine a_iload_n C dL_busOf_3 rfl ?_
  refine a_callV (o := 0) (As := [ii_v v0]) C hM co_X9_busOf in_X9 ml_L_53 im_X9_busOf se_X9_busOf rfl rfl ar_X9_busOf ⟨by omega, by decide, by omega, by omega⟩ rfl (Nat.le_of_ble_eq_true rfl) dL_busOf_4 ?_ ?_
  · intro v x1 ad1 z1 hp
    obtain ⟨h1, h2, h3, h4, h5, h6⟩ := hP _ _ _ _ hp
    obtain ⟨rfl, rfl⟩ := oX_l h3
    obtain ⟨g, w9⟩ := z1
    cases h2
    subst h1
    dsimp only at h4 h5
    rw [← h6 90 (by decide)]
    refine a_i2l C dL_busOf_7 ?_
    refine a_last C dL_busOf_8 ?_
    refine a_goto (tgt := 18) C dL_busOf_9 rfl ?_
    refine a_iconst C dL_busOf_18 ?_
    exact a_iret C ⟨rfl, rfl, rfl, h4, h5, h6⟩ (by omega) (by omega) dL_busOf_19
  · intro X x1 ad1 z1 hp
    obtain ⟨h1, h2, h3, h4, h5, h6⟩ := hP _ _ _ _ hp
    obtain ⟨hk0, rfl⟩ := oX_r h3
    obtain ⟨g, w9⟩ := z1
    cases h2
    subst h1
    dsimp only at h4 h5
    rcases (show k = 1 ∨ k = 2 by omega) with rfl | rfl
    · refine a_catch (hp := 12) (name := "java/lang/IndexOutOfBoundsException") C [] ⟨0, 9, 12, 44⟩ [⟨0, 9, 15, 22⟩] (T.trans rfl) (fun q hq => (nomatch hq)) (by decide) (by decide) cl_L_44 ca_959 rfl (fun q => ?_)
      refine a_astore_n (L' := [(0, .ref (ad 0)), (1, ii_v v0), (2, .ref (ad 90)), (3, .ref q)]) C dL_busOf_12 (by decide) rfl ?_
      refine a_iconst C dL_busOf_13 ?_
      exact a_iret C ⟨rfl, rfl, rfl, h4, h5, h6⟩ (by omega) (by omega) dL_busOf_14
    · refine a_catch (hp := 15) (name := "java/lang/IllegalStateException") C [⟨0, 9, 12, 44⟩] ⟨0, 9, 15, 22⟩ [] (T.trans rfl) (fun q hq => by rw [List.mem_singleton.mp hq]; exact Or.inr ⟨by decide, _, C.2.2.2.2.2.1 _ cl_L_44, hN ("java/lang/IllegalStateException", "java/lang/IndexOutOfBoundsException") (by simp [ab_ncs])⟩) (by decide) (by decide) cl_L_22 ca_523 rfl (fun q => ?_)
      refine a_astore_n (L' := [(0, .ref (ad 0)), (1, ii_v v0), (2, .ref (ad 90)), (3, .ref q)]) C dL_busOf_15 (by decide) rfl ?_
      refine a_iconst C dL_busOf_16 ?_
      exact a_iret C ⟨rfl, rfl, rfl, h4, h5, h6⟩ (by omega) (by omega) dL_busOf_17
theorem w_latestPickup {l : Launch} {E : ab_E} {base : Nat} (hl : l.stackTraces = false) {ad : Nat → Nat} {f a2 : Nat → Nat → Int} {TS2 : Nat → List Nat} {nb nr nb2 nr2 : Nat} {vL : Int64} {vD : UInt64} {v0 : Int} {k : Nat} {u : Int} (hk : k ≤ 1) (hZ : Cz l E base yX9_latestPickup cX9_latestPickup 2 (some .int) (.ref (ad 0) :: [ii_v v0]) ad f (nb, nr, vL, vD) (nb2, nr2, vL, vD) (oX ["java/lang/IndexOutOfBoundsException"] k u) a2 TS2) : ab_MH l E base yL_latestPickup cL_latestPickup 4 (some .int) [(0, 9, 12, 44)] 14 4 150 [.ref (ad 0), ii_v v0, .ref (ad 90)] ab_x4 ad (f, nb, nr, vL, vD) (zq ad f (nb2, nr2, (if k = 0 then (ii_n u).toInt64 else vL), vD) (.inl (some (ii_v (k : Int)))) a2 TS2) := by
  obtain ⟨d1, mc1, ms1, Post, hd, hM, hP⟩ := hZ
  refine ab_ofH RL [(0, .ref (ad 0)), (1, ii_v v0), (2, .ref (ad 90))] hl (by decide) rfl (Nat.le_of_ble_eq_true rfl) rfl ?_
  intro p e s m args below meth c C T hN
  refine a_aload_n C dL_latestPickup_0 rfl ?_
  refine a_iconst C dL_latestPickup_1 ?_
  refine a_aload_n C dL_latestPickup_2 rfl ?_
  refine a_iload_n C dL_latestPickup_3 rfl ?_
  refine a_callV (o := 0) (As := [ii_v v0]) C hM co_X9_latestPickup in_X9 ml_L_56 im_X9_latestPickup se_X9_latestPickup rfl rfl ar_X9_latestPickup ⟨by omega, by decide, by omega, by omega⟩ rfl (Nat.le_of_ble_eq_true rfl) dL_latestPickup_4 ?_ ?_
  · intro v x1 ad1 z1 hp
    obtain ⟨h1, h2, h3, h4, h5, h6⟩ := hP _ _ _ _ hp
    obtain ⟨rfl, rfl⟩ := oX_l h3
    obtain ⟨g, w9⟩ := z1
    cases h2
    subst h1
    dsimp only at h4 h5
    rw [← h6 90 (by decide)]
    refine a_i2l C dL_latestPickup_7 ?_
    refine a_last C dL_latestPickup_8 ?_
    refine a_goto (tgt := 15) C dL_latestPickup_9 rfl ?_
    refine a_iconst C dL_latestPickup_15 ?_
    exact a_iret C ⟨rfl, rfl, rfl, h4, h5, h6⟩ (by omega) (by omega) dL_latestPickup_16
  · intro X x1 ad1 z1 hp
    obtain ⟨h1, h2, h3, h4, h5, h6⟩ := hP _ _ _ _ hp
    obtain ⟨hk0, rfl⟩ := oX_r h3
    obtain ⟨g, w9⟩ := z1
    cases h2
    subst h1
    dsimp only at h4 h5
    rcases (show k = 1 by omega) with rfl
    · refine a_catch (hp := 12) (name := "java/lang/IndexOutOfBoundsException") C [] ⟨0, 9, 12, 44⟩ [] (T.trans rfl) (fun q hq => (nomatch hq)) (by decide) (by decide) cl_L_44 ca_959 rfl (fun q => ?_)
      refine a_astore_n (L' := [(0, .ref (ad 0)), (1, ii_v v0), (2, .ref (ad 90)), (3, .ref q)]) C dL_latestPickup_12 (by decide) rfl ?_
      refine a_iconst C dL_latestPickup_13 ?_
      exact a_iret C ⟨rfl, rfl, rfl, h4, h5, h6⟩ (by omega) (by omega) dL_latestPickup_14
theorem w_longestRide {l : Launch} {E : ab_E} {base : Nat} (hl : l.stackTraces = false) {ad : Nat → Nat} {f a2 : Nat → Nat → Int} {TS2 : Nat → List Nat} {nb nr nb2 nr2 : Nat} {vL : Int64} {vD : UInt64} {v0 : Int} {k : Nat} {u : Int} (hk : k ≤ 1) (hZ : Cz l E base yX9_longestRide cX9_longestRide 2 (some .int) (.ref (ad 0) :: [ii_v v0]) ad f (nb, nr, vL, vD) (nb2, nr2, vL, vD) (oX ["java/lang/IndexOutOfBoundsException"] k u) a2 TS2) : ab_MH l E base yL_longestRide cL_longestRide 4 (some .int) [(0, 9, 12, 44)] 14 4 150 [.ref (ad 0), ii_v v0, .ref (ad 90)] ab_x4 ad (f, nb, nr, vL, vD) (zq ad f (nb2, nr2, (if k = 0 then (ii_n u).toInt64 else vL), vD) (.inl (some (ii_v (k : Int)))) a2 TS2) := by
  obtain ⟨d1, mc1, ms1, Post, hd, hM, hP⟩ := hZ
  refine ab_ofH RL [(0, .ref (ad 0)), (1, ii_v v0), (2, .ref (ad 90))] hl (by decide) rfl (Nat.le_of_ble_eq_true rfl) rfl ?_
  intro p e s m args below meth c C T hN
  refine a_aload_n C dL_longestRide_0 rfl ?_
  refine a_iconst C dL_longestRide_1 ?_
  refine a_aload_n C dL_longestRide_2 rfl ?_
  refine a_iload_n C dL_longestRide_3 rfl ?_
  refine a_callV (o := 0) (As := [ii_v v0]) C hM co_X9_longestRide in_X9 ml_L_59 im_X9_longestRide se_X9_longestRide rfl rfl ar_X9_longestRide ⟨by omega, by decide, by omega, by omega⟩ rfl (Nat.le_of_ble_eq_true rfl) dL_longestRide_4 ?_ ?_
  · intro v x1 ad1 z1 hp
    obtain ⟨h1, h2, h3, h4, h5, h6⟩ := hP _ _ _ _ hp
    obtain ⟨rfl, rfl⟩ := oX_l h3
    obtain ⟨g, w9⟩ := z1
    cases h2
    subst h1
    dsimp only at h4 h5
    rw [← h6 90 (by decide)]
    refine a_i2l C dL_longestRide_7 ?_
    refine a_last C dL_longestRide_8 ?_
    refine a_goto (tgt := 15) C dL_longestRide_9 rfl ?_
    refine a_iconst C dL_longestRide_15 ?_
    exact a_iret C ⟨rfl, rfl, rfl, h4, h5, h6⟩ (by omega) (by omega) dL_longestRide_16
  · intro X x1 ad1 z1 hp
    obtain ⟨h1, h2, h3, h4, h5, h6⟩ := hP _ _ _ _ hp
    obtain ⟨hk0, rfl⟩ := oX_r h3
    obtain ⟨g, w9⟩ := z1
    cases h2
    subst h1
    dsimp only at h4 h5
    rcases (show k = 1 by omega) with rfl
    · refine a_catch (hp := 12) (name := "java/lang/IndexOutOfBoundsException") C [] ⟨0, 9, 12, 44⟩ [] (T.trans rfl) (fun q hq => (nomatch hq)) (by decide) (by decide) cl_L_44 ca_959 rfl (fun q => ?_)
      refine a_astore_n (L' := [(0, .ref (ad 0)), (1, ii_v v0), (2, .ref (ad 90)), (3, .ref q)]) C dL_longestRide_12 (by decide) rfl ?_
      refine a_iconst C dL_longestRide_13 ?_
      exact a_iret C ⟨rfl, rfl, rfl, h4, h5, h6⟩ (by omega) (by omega) dL_longestRide_14
theorem w_pickupTime {l : Launch} {E : ab_E} {base : Nat} (hl : l.stackTraces = false) {ad : Nat → Nat} {f a2 : Nat → Nat → Int} {TS2 : Nat → List Nat} {nb nr nb2 nr2 : Nat} {vL : Int64} {vD : UInt64} {v0 : Int} {k : Nat} {u : Int} (hk : k ≤ 2) (hZ : Cz l E base yX9_pickupTime cX9_pickupTime 3 (some .int) (.ref (ad 0) :: [ii_v v0]) ad f (nb, nr, vL, vD) (nb2, nr2, vL, vD) (oX ["java/lang/IndexOutOfBoundsException", "java/lang/IllegalStateException"] k u) a2 TS2) : ab_MH l E base yL_pickupTime cL_pickupTime 4 (some .int) [(0, 9, 12, 44), (0, 9, 15, 22)] 14 4 150 [.ref (ad 0), ii_v v0, .ref (ad 90)] ab_x4 ad (f, nb, nr, vL, vD) (zq ad f (nb2, nr2, (if k = 0 then (ii_n u).toInt64 else vL), vD) (.inl (some (ii_v (k : Int)))) a2 TS2) := by
  obtain ⟨d1, mc1, ms1, Post, hd, hM, hP⟩ := hZ
  refine ab_ofH RL [(0, .ref (ad 0)), (1, ii_v v0), (2, .ref (ad 90))] hl (by decide) rfl (Nat.le_of_ble_eq_true rfl) rfl ?_
  intro p e s m args below meth c C T hN
  refine a_aload_n C dL_pickupTime_0 rfl ?_
  refine a_iconst C dL_pickupTime_1 ?_
  refine a_aload_n C dL_pickupTime_2 rfl ?_
  refine a_iload_n C dL_pickupTime_3 rfl ?_
  refine a_callV (o := 0) (As := [ii_v v0]) C hM co_X9_pickupTime in_X9 ml_L_62 im_X9_pickupTime se_X9_pickupTime rfl rfl ar_X9_pickupTime ⟨by omega, by decide, by omega, by omega⟩ rfl (Nat.le_of_ble_eq_true rfl) dL_pickupTime_4 ?_ ?_
  · intro v x1 ad1 z1 hp
    obtain ⟨h1, h2, h3, h4, h5, h6⟩ := hP _ _ _ _ hp
    obtain ⟨rfl, rfl⟩ := oX_l h3
    obtain ⟨g, w9⟩ := z1
    cases h2
    subst h1
    dsimp only at h4 h5
    rw [← h6 90 (by decide)]
    refine a_i2l C dL_pickupTime_7 ?_
    refine a_last C dL_pickupTime_8 ?_
    refine a_goto (tgt := 18) C dL_pickupTime_9 rfl ?_
    refine a_iconst C dL_pickupTime_18 ?_
    exact a_iret C ⟨rfl, rfl, rfl, h4, h5, h6⟩ (by omega) (by omega) dL_pickupTime_19
  · intro X x1 ad1 z1 hp
    obtain ⟨h1, h2, h3, h4, h5, h6⟩ := hP _ _ _ _ hp
    obtain ⟨hk0, rfl⟩ := oX_r h3
    obtain ⟨g, w9⟩ := z1
    cases h2
    subst h1
    dsimp only at h4 h5
    rcases (show k = 1 ∨ k = 2 by omega) with rfl | rfl
    · refine a_catch (hp := 12) (name := "java/lang/IndexOutOfBoundsException") C [] ⟨0, 9, 12, 44⟩ [⟨0, 9, 15, 22⟩] (T.trans rfl) (fun q hq => (nomatch hq)) (by decide) (by decide) cl_L_44 ca_959 rfl (fun q => ?_)
      refine a_astore_n (L' := [(0, .ref (ad 0)), (1, ii_v v0), (2, .ref (ad 90)), (3, .ref q)]) C dL_pickupTime_12 (by decide) rfl ?_
      refine a_iconst C dL_pickupTime_13 ?_
      exact a_iret C ⟨rfl, rfl, rfl, h4, h5, h6⟩ (by omega) (by omega) dL_pickupTime_14
    · refine a_catch (hp := 15) (name := "java/lang/IllegalStateException") C [⟨0, 9, 12, 44⟩] ⟨0, 9, 15, 22⟩ [] (T.trans rfl) (fun q hq => by rw [List.mem_singleton.mp hq]; exact Or.inr ⟨by decide, _, C.2.2.2.2.2.1 _ cl_L_44, hN ("java/lang/IllegalStateException", "java/lang/IndexOutOfBoundsException") (by simp [ab_ncs])⟩) (by decide) (by decide) cl_L_22 ca_523 rfl (fun q => ?_)
      refine a_astore_n (L' := [(0, .ref (ad 0)), (1, ii_v v0), (2, .ref (ad 90)), (3, .ref q)]) C dL_pickupTime_15 (by decide) rfl ?_
      refine a_iconst C dL_pickupTime_16 ?_
      exact a_iret C ⟨rfl, rfl, rfl, h4, h5, h6⟩ (by omega) (by omega) dL_pickupTime_17
theorem w_dropTime {l : Launch} {E : ab_E} {base : Nat} (hl : l.stackTraces = false) {ad : Nat → Nat} {f a2 : Nat → Nat → Int} {TS2 : Nat → List Nat} {nb nr nb2 nr2 : Nat} {vL : Int64} {vD : UInt64} {v0 : Int} {k : Nat} {u : Int} (hk : k ≤ 2) (hZ : Cz l E base yX9_dropTime cX9_dropTime 3 (some .int) (.ref (ad 0) :: [ii_v v0]) ad f (nb, nr, vL, vD) (nb2, nr2, vL, vD) (oX ["java/lang/IndexOutOfBoundsException", "java/lang/IllegalStateException"] k u) a2 TS2) : ab_MH l E base yL_dropTime cL_dropTime 4 (some .int) [(0, 9, 12, 44), (0, 9, 15, 22)] 14 4 150 [.ref (ad 0), ii_v v0, .ref (ad 90)] ab_x4 ad (f, nb, nr, vL, vD) (zq ad f (nb2, nr2, (if k = 0 then (ii_n u).toInt64 else vL), vD) (.inl (some (ii_v (k : Int)))) a2 TS2) := by
  obtain ⟨d1, mc1, ms1, Post, hd, hM, hP⟩ := hZ
  refine ab_ofH RL [(0, .ref (ad 0)), (1, ii_v v0), (2, .ref (ad 90))] hl (by decide) rfl (Nat.le_of_ble_eq_true rfl) rfl ?_
  intro p e s m args below meth c C T hN
  refine a_aload_n C dL_dropTime_0 rfl ?_
  refine a_iconst C dL_dropTime_1 ?_
  refine a_aload_n C dL_dropTime_2 rfl ?_
  refine a_iload_n C dL_dropTime_3 rfl ?_
  refine a_callV (o := 0) (As := [ii_v v0]) C hM co_X9_dropTime in_X9 ml_L_65 im_X9_dropTime se_X9_dropTime rfl rfl ar_X9_dropTime ⟨by omega, by decide, by omega, by omega⟩ rfl (Nat.le_of_ble_eq_true rfl) dL_dropTime_4 ?_ ?_
  · intro v x1 ad1 z1 hp
    obtain ⟨h1, h2, h3, h4, h5, h6⟩ := hP _ _ _ _ hp
    obtain ⟨rfl, rfl⟩ := oX_l h3
    obtain ⟨g, w9⟩ := z1
    cases h2
    subst h1
    dsimp only at h4 h5
    rw [← h6 90 (by decide)]
    refine a_i2l C dL_dropTime_7 ?_
    refine a_last C dL_dropTime_8 ?_
    refine a_goto (tgt := 18) C dL_dropTime_9 rfl ?_
    refine a_iconst C dL_dropTime_18 ?_
    exact a_iret C ⟨rfl, rfl, rfl, h4, h5, h6⟩ (by omega) (by omega) dL_dropTime_19
  · intro X x1 ad1 z1 hp
    obtain ⟨h1, h2, h3, h4, h5, h6⟩ := hP _ _ _ _ hp
    obtain ⟨hk0, rfl⟩ := oX_r h3
    obtain ⟨g, w9⟩ := z1
    cases h2
    subst h1
    dsimp only at h4 h5
    rcases (show k = 1 ∨ k = 2 by omega) with rfl | rfl
    · refine a_catch (hp := 12) (name := "java/lang/IndexOutOfBoundsException") C [] ⟨0, 9, 12, 44⟩ [⟨0, 9, 15, 22⟩] (T.trans rfl) (fun q hq => (nomatch hq)) (by decide) (by decide) cl_L_44 ca_959 rfl (fun q => ?_)
      refine a_astore_n (L' := [(0, .ref (ad 0)), (1, ii_v v0), (2, .ref (ad 90)), (3, .ref q)]) C dL_dropTime_12 (by decide) rfl ?_
      refine a_iconst C dL_dropTime_13 ?_
      exact a_iret C ⟨rfl, rfl, rfl, h4, h5, h6⟩ (by omega) (by omega) dL_dropTime_14
    · refine a_catch (hp := 15) (name := "java/lang/IllegalStateException") C [⟨0, 9, 12, 44⟩] ⟨0, 9, 15, 22⟩ [] (T.trans rfl) (fun q hq => by rw [List.mem_singleton.mp hq]; exact Or.inr ⟨by decide, _, C.2.2.2.2.2.1 _ cl_L_44, hN ("java/lang/IllegalStateException", "java/lang/IndexOutOfBoundsException") (by simp [ab_ncs])⟩) (by decide) (by decide) cl_L_22 ca_523 rfl (fun q => ?_)
      refine a_astore_n (L' := [(0, .ref (ad 0)), (1, ii_v v0), (2, .ref (ad 90)), (3, .ref q)]) C dL_dropTime_15 (by decide) rfl ?_
      refine a_iconst C dL_dropTime_16 ?_
      exact a_iret C ⟨rfl, rfl, rfl, h4, h5, h6⟩ (by omega) (by omega) dL_dropTime_17
theorem w_stops {l : Launch} {E : ab_E} {base : Nat} (hl : l.stackTraces = false) {ad : Nat → Nat} {f a2 : Nat → Nat → Int} {TS2 : Nat → List Nat} {nb nr nb2 nr2 : Nat} {vL : Int64} {vD : UInt64} {v0 : Int} {k : Nat} {u : Int} (hk : k ≤ 1) (hZ : Cz l E base yX9_stops cX9_stops 2 (some .int) (.ref (ad 0) :: [ii_v v0]) ad f (nb, nr, vL, vD) (nb2, nr2, vL, vD) (oX ["java/lang/IndexOutOfBoundsException"] k u) a2 TS2) : ab_MH l E base yL_stops cL_stops 4 (some .int) [(0, 9, 12, 44)] 14 4 150 [.ref (ad 0), ii_v v0, .ref (ad 90)] ab_x4 ad (f, nb, nr, vL, vD) (zq ad f (nb2, nr2, (if k = 0 then (ii_n u).toInt64 else vL), vD) (.inl (some (ii_v (k : Int)))) a2 TS2) := by
  obtain ⟨d1, mc1, ms1, Post, hd, hM, hP⟩ := hZ
  refine ab_ofH RL [(0, .ref (ad 0)), (1, ii_v v0), (2, .ref (ad 90))] hl (by decide) rfl (Nat.le_of_ble_eq_true rfl) rfl ?_
  intro p e s m args below meth c C T hN
  refine a_aload_n C dL_stops_0 rfl ?_
  refine a_iconst C dL_stops_1 ?_
  refine a_aload_n C dL_stops_2 rfl ?_
  refine a_iload_n C dL_stops_3 rfl ?_
  refine a_callV (o := 0) (As := [ii_v v0]) C hM co_X9_stops in_X9 ml_L_68 im_X9_stops se_X9_stops rfl rfl ar_X9_stops ⟨by omega, by decide, by omega, by omega⟩ rfl (Nat.le_of_ble_eq_true rfl) dL_stops_4 ?_ ?_
  · intro v x1 ad1 z1 hp
    obtain ⟨h1, h2, h3, h4, h5, h6⟩ := hP _ _ _ _ hp
    obtain ⟨rfl, rfl⟩ := oX_l h3
    obtain ⟨g, w9⟩ := z1
    cases h2
    subst h1
    dsimp only at h4 h5
    rw [← h6 90 (by decide)]
    refine a_i2l C dL_stops_7 ?_
    refine a_last C dL_stops_8 ?_
    refine a_goto (tgt := 15) C dL_stops_9 rfl ?_
    refine a_iconst C dL_stops_15 ?_
    exact a_iret C ⟨rfl, rfl, rfl, h4, h5, h6⟩ (by omega) (by omega) dL_stops_16
  · intro X x1 ad1 z1 hp
    obtain ⟨h1, h2, h3, h4, h5, h6⟩ := hP _ _ _ _ hp
    obtain ⟨hk0, rfl⟩ := oX_r h3
    obtain ⟨g, w9⟩ := z1
    cases h2
    subst h1
    dsimp only at h4 h5
    rcases (show k = 1 by omega) with rfl
    · refine a_catch (hp := 12) (name := "java/lang/IndexOutOfBoundsException") C [] ⟨0, 9, 12, 44⟩ [] (T.trans rfl) (fun q hq => (nomatch hq)) (by decide) (by decide) cl_L_44 ca_959 rfl (fun q => ?_)
      refine a_astore_n (L' := [(0, .ref (ad 0)), (1, ii_v v0), (2, .ref (ad 90)), (3, .ref q)]) C dL_stops_12 (by decide) rfl ?_
      refine a_iconst C dL_stops_13 ?_
      exact a_iret C ⟨rfl, rfl, rfl, h4, h5, h6⟩ (by omega) (by omega) dL_stops_14
theorem w_stopRequest {l : Launch} {E : ab_E} {base : Nat} (hl : l.stackTraces = false) {ad : Nat → Nat} {f a2 : Nat → Nat → Int} {TS2 : Nat → List Nat} {nb nr nb2 nr2 : Nat} {vL : Int64} {vD : UInt64} {v0 v1 : Int} {k : Nat} {u : Int} (hk : k ≤ 2) (hZ : Cz l E base yX9_stopRequest cX9_stopRequest 4 (some .int) (.ref (ad 0) :: [ii_v v0, ii_v v1]) ad f (nb, nr, vL, vD) (nb2, nr2, vL, vD) (oX ["java/lang/IndexOutOfBoundsException", "java/util/NoSuchElementException"] k u) a2 TS2) : ab_MH l E base yL_stopRequest cL_stopRequest 5 (some .int) [(0, 10, 13, 44), (0, 10, 17, 33)] 14 4 150 [.ref (ad 0), ii_v v0, ii_v v1, .ref (ad 90)] ab_x4 ad (f, nb, nr, vL, vD) (zq ad f (nb2, nr2, (if k = 0 then (ii_n u).toInt64 else vL), vD) (.inl (some (ii_v (k : Int)))) a2 TS2) := by
  obtain ⟨d1, mc1, ms1, Post, hd, hM, hP⟩ := hZ
  refine ab_ofH RL [(0, .ref (ad 0)), (1, ii_v v0), (2, ii_v v1), (3, .ref (ad 90))] hl (by decide) rfl (Nat.le_of_ble_eq_true rfl) rfl ?_
  intro p e s m args below meth c C T hN
  refine a_aload_n C dL_stopRequest_0 rfl ?_
  refine a_iconst C dL_stopRequest_1 ?_
  refine a_aload_n C dL_stopRequest_2 rfl ?_
  refine a_iload_n C dL_stopRequest_3 rfl ?_
  refine a_iload_n C dL_stopRequest_4 rfl ?_
  refine a_callV (o := 0) (As := [ii_v v0, ii_v v1]) C hM co_X9_stopRequest in_X9 ml_L_71 im_X9_stopRequest se_X9_stopRequest rfl rfl ar_X9_stopRequest ⟨by omega, by decide, by omega, by omega⟩ rfl (Nat.le_of_ble_eq_true rfl) dL_stopRequest_5 ?_ ?_
  · intro v x1 ad1 z1 hp
    obtain ⟨h1, h2, h3, h4, h5, h6⟩ := hP _ _ _ _ hp
    obtain ⟨rfl, rfl⟩ := oX_l h3
    obtain ⟨g, w9⟩ := z1
    cases h2
    subst h1
    dsimp only at h4 h5
    rw [← h6 90 (by decide)]
    refine a_i2l C dL_stopRequest_8 ?_
    refine a_last C dL_stopRequest_9 ?_
    refine a_goto (tgt := 21) C dL_stopRequest_10 rfl ?_
    refine a_iconst C dL_stopRequest_21 ?_
    exact a_iret C ⟨rfl, rfl, rfl, h4, h5, h6⟩ (by omega) (by omega) dL_stopRequest_22
  · intro X x1 ad1 z1 hp
    obtain ⟨h1, h2, h3, h4, h5, h6⟩ := hP _ _ _ _ hp
    obtain ⟨hk0, rfl⟩ := oX_r h3
    obtain ⟨g, w9⟩ := z1
    cases h2
    subst h1
    dsimp only at h4 h5
    rcases (show k = 1 ∨ k = 2 by omega) with rfl | rfl
    · refine a_catch (hp := 13) (name := "java/lang/IndexOutOfBoundsException") C [] ⟨0, 10, 13, 44⟩ [⟨0, 10, 17, 33⟩] (T.trans rfl) (fun q hq => (nomatch hq)) (by decide) (by decide) cl_L_44 ca_959 rfl (fun q => ?_)
      refine a_astore (L' := [(0, .ref (ad 0)), (1, ii_v v0), (2, ii_v v1), (3, .ref (ad 90)), (4, .ref q)]) C dL_stopRequest_13 (by decide) rfl ?_
      refine a_iconst C dL_stopRequest_15 ?_
      exact a_iret C ⟨rfl, rfl, rfl, h4, h5, h6⟩ (by omega) (by omega) dL_stopRequest_16
    · refine a_catch (hp := 17) (name := "java/util/NoSuchElementException") C [⟨0, 10, 13, 44⟩] ⟨0, 10, 17, 33⟩ [] (T.trans rfl) (fun q hq => by rw [List.mem_singleton.mp hq]; exact Or.inr ⟨by decide, _, C.2.2.2.2.2.1 _ cl_L_44, hN ("java/util/NoSuchElementException", "java/lang/IndexOutOfBoundsException") (by simp [ab_ncs])⟩) (by decide) (by decide) cl_L_33 ca_917 rfl (fun q => ?_)
      refine a_astore (L' := [(0, .ref (ad 0)), (1, ii_v v0), (2, ii_v v1), (3, .ref (ad 90)), (4, .ref q)]) C dL_stopRequest_17 (by decide) rfl ?_
      refine a_iconst C dL_stopRequest_19 ?_
      exact a_iret C ⟨rfl, rfl, rfl, h4, h5, h6⟩ (by omega) (by omega) dL_stopRequest_20
theorem w_isPickup {l : Launch} {E : ab_E} {base : Nat} (hl : l.stackTraces = false) {ad : Nat → Nat} {f a2 : Nat → Nat → Int} {TS2 : Nat → List Nat} {nb nr nb2 nr2 : Nat} {vL : Int64} {vD : UInt64} {v0 v1 : Int} {k : Nat} {u : Int} (hk : k ≤ 2) (hu : u = 0 ∨ u = 1) (hZ : Cz l E base yX9_isPickup cX9_isPickup 4 (some .boolean) (.ref (ad 0) :: [ii_v v0, ii_v v1]) ad f (nb, nr, vL, vD) (nb2, nr2, vL, vD) (oX ["java/lang/IndexOutOfBoundsException", "java/util/NoSuchElementException"] k u) a2 TS2) : ab_MH l E base yL_isPickup cL_isPickup 5 (some .int) [(0, 17, 20, 44), (0, 17, 24, 33)] 14 4 150 [.ref (ad 0), ii_v v0, ii_v v1, .ref (ad 90)] ab_x4 ad (f, nb, nr, vL, vD) (zq ad f (nb2, nr2, (if k = 0 then (ii_n u).toInt64 else vL), vD) (.inl (some (ii_v (k : Int)))) a2 TS2) := by
  obtain ⟨d1, mc1, ms1, Post, hd, hM, hP⟩ := hZ
  refine ab_ofH RL [(0, .ref (ad 0)), (1, ii_v v0), (2, ii_v v1), (3, .ref (ad 90))] hl (by decide) rfl (Nat.le_of_ble_eq_true rfl) rfl ?_
  intro p e s m args below meth c C T hN
  refine a_aload_n C dL_isPickup_0 rfl ?_
  refine a_iconst C dL_isPickup_1 ?_
  refine a_aload_n C dL_isPickup_2 rfl ?_
  refine a_iload_n C dL_isPickup_3 rfl ?_
  refine a_iload_n C dL_isPickup_4 rfl ?_
  refine a_callV (o := 0) (As := [ii_v v0, ii_v v1]) C hM co_X9_isPickup in_X9 ml_L_75 im_X9_isPickup se_X9_isPickup rfl rfl ar_X9_isPickup ⟨by omega, by decide, by omega, by omega⟩ rfl (Nat.le_of_ble_eq_true rfl) dL_isPickup_5 ?_ ?_
  · intro v x1 ad1 z1 hp
    obtain ⟨h1, h2, h3, h4, h5, h6⟩ := hP _ _ _ _ hp
    obtain ⟨rfl, rfl⟩ := oX_l h3
    obtain ⟨g, w9⟩ := z1
    cases h2
    subst h1
    dsimp only at h4 h5
    rw [← h6 90 (by decide)]
    rcases hu with rfl | rfl
    · refine a_if_eq (tgt := 15) C dL_isPickup_8 rfl (by unfold ii_B; omega) (fun _ => ?_) (fun hz => absurd rfl hz)
      refine a_lconst C dL_isPickup_15 ?_
      refine a_last C dL_isPickup_16 ?_
      refine a_goto (tgt := 28) C dL_isPickup_17 rfl ?_
      refine a_iconst C dL_isPickup_28 ?_
      exact a_iret C ⟨rfl, rfl, rfl, h4, h5, h6⟩ (by omega) (by omega) dL_isPickup_29
    · refine a_if_eq (tgt := 15) C dL_isPickup_8 rfl (by unfold ii_B; omega) (fun hz => absurd hz (by decide)) (fun _ => ?_)
      refine a_lconst C dL_isPickup_11 ?_
      refine a_goto (tgt := 16) C dL_isPickup_12 rfl ?_
      refine a_last C dL_isPickup_16 ?_
      refine a_goto (tgt := 28) C dL_isPickup_17 rfl ?_
      refine a_iconst C dL_isPickup_28 ?_
      exact a_iret C ⟨rfl, rfl, rfl, h4, h5, h6⟩ (by omega) (by omega) dL_isPickup_29
  · intro X x1 ad1 z1 hp
    obtain ⟨h1, h2, h3, h4, h5, h6⟩ := hP _ _ _ _ hp
    obtain ⟨hk0, rfl⟩ := oX_r h3
    obtain ⟨g, w9⟩ := z1
    cases h2
    subst h1
    dsimp only at h4 h5
    rcases (show k = 1 ∨ k = 2 by omega) with rfl | rfl
    · refine a_catch (hp := 20) (name := "java/lang/IndexOutOfBoundsException") C [] ⟨0, 17, 20, 44⟩ [⟨0, 17, 24, 33⟩] (T.trans rfl) (fun q hq => (nomatch hq)) (by decide) (by decide) cl_L_44 ca_959 rfl (fun q => ?_)
      refine a_astore (L' := [(0, .ref (ad 0)), (1, ii_v v0), (2, ii_v v1), (3, .ref (ad 90)), (4, .ref q)]) C dL_isPickup_20 (by decide) rfl ?_
      refine a_iconst C dL_isPickup_22 ?_
      exact a_iret C ⟨rfl, rfl, rfl, h4, h5, h6⟩ (by omega) (by omega) dL_isPickup_23
    · refine a_catch (hp := 24) (name := "java/util/NoSuchElementException") C [⟨0, 17, 20, 44⟩] ⟨0, 17, 24, 33⟩ [] (T.trans rfl) (fun q hq => by rw [List.mem_singleton.mp hq]; exact Or.inr ⟨by decide, _, C.2.2.2.2.2.1 _ cl_L_44, hN ("java/util/NoSuchElementException", "java/lang/IndexOutOfBoundsException") (by simp [ab_ncs])⟩) (by decide) (by decide) cl_L_33 ca_917 rfl (fun q => ?_)
      refine a_astore (L' := [(0, .ref (ad 0)), (1, ii_v v0), (2, ii_v v1), (3, .ref (ad 90)), (4, .ref q)]) C dL_isPickup_24 (by decide) rfl ?_
      refine a_iconst C dL_isPickup_26 ?_
      exact a_iret C ⟨rfl, rfl, rfl, h4, h5, h6⟩ (by omega) (by omega) dL_isPickup_27
theorem w_stopTime {l : Launch} {E : ab_E} {base : Nat} (hl : l.stackTraces = false) {ad : Nat → Nat} {f a2 : Nat → Nat → Int} {TS2 : Nat → List Nat} {nb nr nb2 nr2 : Nat} {vL : Int64} {vD : UInt64} {v0 v1 : Int} {k : Nat} {u : Int} (hk : k ≤ 2) (hZ : Cz l E base yX9_stopTime cX9_stopTime 4 (some .int) (.ref (ad 0) :: [ii_v v0, ii_v v1]) ad f (nb, nr, vL, vD) (nb2, nr2, vL, vD) (oX ["java/lang/IndexOutOfBoundsException", "java/util/NoSuchElementException"] k u) a2 TS2) : ab_MH l E base yL_stopTime cL_stopTime 5 (some .int) [(0, 10, 13, 44), (0, 10, 17, 33)] 14 4 150 [.ref (ad 0), ii_v v0, ii_v v1, .ref (ad 90)] ab_x4 ad (f, nb, nr, vL, vD) (zq ad f (nb2, nr2, (if k = 0 then (ii_n u).toInt64 else vL), vD) (.inl (some (ii_v (k : Int)))) a2 TS2) := by
  obtain ⟨d1, mc1, ms1, Post, hd, hM, hP⟩ := hZ
  refine ab_ofH RL [(0, .ref (ad 0)), (1, ii_v v0), (2, ii_v v1), (3, .ref (ad 90))] hl (by decide) rfl (Nat.le_of_ble_eq_true rfl) rfl ?_
  intro p e s m args below meth c C T hN
  refine a_aload_n C dL_stopTime_0 rfl ?_
  refine a_iconst C dL_stopTime_1 ?_
  refine a_aload_n C dL_stopTime_2 rfl ?_
  refine a_iload_n C dL_stopTime_3 rfl ?_
  refine a_iload_n C dL_stopTime_4 rfl ?_
  refine a_callV (o := 0) (As := [ii_v v0, ii_v v1]) C hM co_X9_stopTime in_X9 ml_L_79 im_X9_stopTime se_X9_stopTime rfl rfl ar_X9_stopTime ⟨by omega, by decide, by omega, by omega⟩ rfl (Nat.le_of_ble_eq_true rfl) dL_stopTime_5 ?_ ?_
  · intro v x1 ad1 z1 hp
    obtain ⟨h1, h2, h3, h4, h5, h6⟩ := hP _ _ _ _ hp
    obtain ⟨rfl, rfl⟩ := oX_l h3
    obtain ⟨g, w9⟩ := z1
    cases h2
    subst h1
    dsimp only at h4 h5
    rw [← h6 90 (by decide)]
    refine a_i2l C dL_stopTime_8 ?_
    refine a_last C dL_stopTime_9 ?_
    refine a_goto (tgt := 21) C dL_stopTime_10 rfl ?_
    refine a_iconst C dL_stopTime_21 ?_
    exact a_iret C ⟨rfl, rfl, rfl, h4, h5, h6⟩ (by omega) (by omega) dL_stopTime_22
  · intro X x1 ad1 z1 hp
    obtain ⟨h1, h2, h3, h4, h5, h6⟩ := hP _ _ _ _ hp
    obtain ⟨hk0, rfl⟩ := oX_r h3
    obtain ⟨g, w9⟩ := z1
    cases h2
    subst h1
    dsimp only at h4 h5
    rcases (show k = 1 ∨ k = 2 by omega) with rfl | rfl
    · refine a_catch (hp := 13) (name := "java/lang/IndexOutOfBoundsException") C [] ⟨0, 10, 13, 44⟩ [⟨0, 10, 17, 33⟩] (T.trans rfl) (fun q hq => (nomatch hq)) (by decide) (by decide) cl_L_44 ca_959 rfl (fun q => ?_)
      refine a_astore (L' := [(0, .ref (ad 0)), (1, ii_v v0), (2, ii_v v1), (3, .ref (ad 90)), (4, .ref q)]) C dL_stopTime_13 (by decide) rfl ?_
      refine a_iconst C dL_stopTime_15 ?_
      exact a_iret C ⟨rfl, rfl, rfl, h4, h5, h6⟩ (by omega) (by omega) dL_stopTime_16
    · refine a_catch (hp := 17) (name := "java/util/NoSuchElementException") C [⟨0, 10, 13, 44⟩] ⟨0, 10, 17, 33⟩ [] (T.trans rfl) (fun q hq => by rw [List.mem_singleton.mp hq]; exact Or.inr ⟨by decide, _, C.2.2.2.2.2.1 _ cl_L_44, hN ("java/util/NoSuchElementException", "java/lang/IndexOutOfBoundsException") (by simp [ab_ncs])⟩) (by decide) (by decide) cl_L_33 ca_917 rfl (fun q => ?_)
      refine a_astore (L' := [(0, .ref (ad 0)), (1, ii_v v0), (2, ii_v v1), (3, .ref (ad 90)), (4, .ref q)]) C dL_stopTime_17 (by decide) rfl ?_
      refine a_iconst C dL_stopTime_19 ?_
      exact a_iret C ⟨rfl, rfl, rfl, h4, h5, h6⟩ (by omega) (by omega) dL_stopTime_20
theorem w_length {l : Launch} {E : ab_E} {base : Nat} (hl : l.stackTraces = false) {ad : Nat → Nat} {f a2 : Nat → Nat → Int} {TS2 : Nat → List Nat} {nb nr nb2 nr2 : Nat} {vL : Int64} {vD : UInt64} {v0 : Int} {k : Nat} {u : Int} (hk : k ≤ 1) (hZ : Cz l E base yX9_length cX9_length 3 (some .int) (.ref (ad 0) :: [ii_v v0]) ad f (nb, nr, vL, vD) (nb2, nr2, vL, vD) (oX ["java/lang/IndexOutOfBoundsException"] k u) a2 TS2) : ab_MH l E base yL_length cL_length 4 (some .int) [(0, 9, 12, 44)] 14 4 150 [.ref (ad 0), ii_v v0, .ref (ad 90)] ab_x4 ad (f, nb, nr, vL, vD) (zq ad f (nb2, nr2, (if k = 0 then (ii_n u).toInt64 else vL), vD) (.inl (some (ii_v (k : Int)))) a2 TS2) := by
  obtain ⟨d1, mc1, ms1, Post, hd, hM, hP⟩ := hZ
  refine ab_ofH RL [(0, .ref (ad 0)), (1, ii_v v0), (2, .ref (ad 90))] hl (by decide) rfl (Nat.le_of_ble_eq_true rfl) rfl ?_
  intro p e s m args below meth c C T hN
  refine a_aload_n C dL_length_0 rfl ?_
  refine a_iconst C dL_length_1 ?_
  refine a_aload_n C dL_length_2 rfl ?_
  refine a_iload_n C dL_length_3 rfl ?_
  refine a_callV (o := 0) (As := [ii_v v0]) C hM co_X9_length in_X9 ml_L_82 im_X9_length se_X9_length rfl rfl ar_X9_length ⟨by omega, by decide, by omega, by omega⟩ rfl (Nat.le_of_ble_eq_true rfl) dL_length_4 ?_ ?_
  · intro v x1 ad1 z1 hp
    obtain ⟨h1, h2, h3, h4, h5, h6⟩ := hP _ _ _ _ hp
    obtain ⟨rfl, rfl⟩ := oX_l h3
    obtain ⟨g, w9⟩ := z1
    cases h2
    subst h1
    dsimp only at h4 h5
    rw [← h6 90 (by decide)]
    refine a_i2l C dL_length_7 ?_
    refine a_last C dL_length_8 ?_
    refine a_goto (tgt := 15) C dL_length_9 rfl ?_
    refine a_iconst C dL_length_15 ?_
    exact a_iret C ⟨rfl, rfl, rfl, h4, h5, h6⟩ (by omega) (by omega) dL_length_16
  · intro X x1 ad1 z1 hp
    obtain ⟨h1, h2, h3, h4, h5, h6⟩ := hP _ _ _ _ hp
    obtain ⟨hk0, rfl⟩ := oX_r h3
    obtain ⟨g, w9⟩ := z1
    cases h2
    subst h1
    dsimp only at h4 h5
    rcases (show k = 1 by omega) with rfl
    · refine a_catch (hp := 12) (name := "java/lang/IndexOutOfBoundsException") C [] ⟨0, 9, 12, 44⟩ [] (T.trans rfl) (fun q hq => (nomatch hq)) (by decide) (by decide) cl_L_44 ca_959 rfl (fun q => ?_)
      refine a_astore_n (L' := [(0, .ref (ad 0)), (1, ii_v v0), (2, .ref (ad 90)), (3, .ref q)]) C dL_length_12 (by decide) rfl ?_
      refine a_iconst C dL_length_13 ?_
      exact a_iret C ⟨rfl, rfl, rfl, h4, h5, h6⟩ (by omega) (by omega) dL_length_14
theorem w_bestLength {l : Launch} {E : ab_E} {base : Nat} (hl : l.stackTraces = false) {ad : Nat → Nat} {f a2 : Nat → Nat → Int} {TS2 : Nat → List Nat} {nb nr nb2 nr2 : Nat} {vL : Int64} {vD : UInt64} {v0 : Int} {k : Nat} {u : Int} (hk : k ≤ 1) (hZ : Cz l E base yX9_bestLength cX9_bestLength 3 (some .int) (.ref (ad 0) :: [ii_v v0]) ad f (nb, nr, vL, vD) (nb2, nr2, vL, vD) (oX ["java/lang/IndexOutOfBoundsException"] k u) a2 TS2) : ab_MH l E base yL_bestLength cL_bestLength 4 (some .int) [(0, 9, 12, 44)] 14 4 150 [.ref (ad 0), ii_v v0, .ref (ad 90)] ab_x4 ad (f, nb, nr, vL, vD) (zq ad f (nb2, nr2, (if k = 0 then (ii_n u).toInt64 else vL), vD) (.inl (some (ii_v (k : Int)))) a2 TS2) := by
  obtain ⟨d1, mc1, ms1, Post, hd, hM, hP⟩ := hZ
  refine ab_ofH RL [(0, .ref (ad 0)), (1, ii_v v0), (2, .ref (ad 90))] hl (by decide) rfl (Nat.le_of_ble_eq_true rfl) rfl ?_
  intro p e s m args below meth c C T hN
  refine a_aload_n C dL_bestLength_0 rfl ?_
  refine a_iconst C dL_bestLength_1 ?_
  refine a_aload_n C dL_bestLength_2 rfl ?_
  refine a_iload_n C dL_bestLength_3 rfl ?_
  refine a_callV (o := 0) (As := [ii_v v0]) C hM co_X9_bestLength in_X9 ml_L_85 im_X9_bestLength se_X9_bestLength rfl rfl ar_X9_bestLength ⟨by omega, by decide, by omega, by omega⟩ rfl (Nat.le_of_ble_eq_true rfl) dL_bestLength_4 ?_ ?_
  · intro v x1 ad1 z1 hp
    obtain ⟨h1, h2, h3, h4, h5, h6⟩ := hP _ _ _ _ hp
    obtain ⟨rfl, rfl⟩ := oX_l h3
    obtain ⟨g, w9⟩ := z1
    cases h2
    subst h1
    dsimp only at h4 h5
    rw [← h6 90 (by decide)]
    refine a_i2l C dL_bestLength_7 ?_
    refine a_last C dL_bestLength_8 ?_
    refine a_goto (tgt := 15) C dL_bestLength_9 rfl ?_
    refine a_iconst C dL_bestLength_15 ?_
    exact a_iret C ⟨rfl, rfl, rfl, h4, h5, h6⟩ (by omega) (by omega) dL_bestLength_16
  · intro X x1 ad1 z1 hp
    obtain ⟨h1, h2, h3, h4, h5, h6⟩ := hP _ _ _ _ hp
    obtain ⟨hk0, rfl⟩ := oX_r h3
    obtain ⟨g, w9⟩ := z1
    cases h2
    subst h1
    dsimp only at h4 h5
    rcases (show k = 1 by omega) with rfl
    · refine a_catch (hp := 12) (name := "java/lang/IndexOutOfBoundsException") C [] ⟨0, 9, 12, 44⟩ [] (T.trans rfl) (fun q hq => (nomatch hq)) (by decide) (by decide) cl_L_44 ca_959 rfl (fun q => ?_)
      refine a_astore_n (L' := [(0, .ref (ad 0)), (1, ii_v v0), (2, .ref (ad 90)), (3, .ref q)]) C dL_bestLength_12 (by decide) rfl ?_
      refine a_iconst C dL_bestLength_13 ?_
      exact a_iret C ⟨rfl, rfl, rfl, h4, h5, h6⟩ (by omega) (by omega) dL_bestLength_14
theorem w_bestLengthByTrying {l : Launch} {E : ab_E} {base : Nat} (hl : l.stackTraces = false) {ad : Nat → Nat} {f a2 : Nat → Nat → Int} {TS2 : Nat → List Nat} {nb nr nb2 nr2 : Nat} {vL : Int64} {vD : UInt64} {v0 : Int} {k : Nat} {u : Int} (hk : k ≤ 1) (hZ : Cz l E base yX9_bestLengthByTrying cX9_bestLengthByTrying 3 (some .int) (.ref (ad 0) :: [ii_v v0]) ad f (nb, nr, vL, vD) (nb2, nr2, vL, vD) (oX ["java/lang/IndexOutOfBoundsException"] k u) a2 TS2) : ab_MH l E base yL_bestLengthByTrying cL_bestLengthByTrying 4 (some .int) [(0, 9, 12, 44)] 14 4 150 [.ref (ad 0), ii_v v0, .ref (ad 90)] ab_x4 ad (f, nb, nr, vL, vD) (zq ad f (nb2, nr2, (if k = 0 then (ii_n u).toInt64 else vL), vD) (.inl (some (ii_v (k : Int)))) a2 TS2) := by
  obtain ⟨d1, mc1, ms1, Post, hd, hM, hP⟩ := hZ
  refine ab_ofH RL [(0, .ref (ad 0)), (1, ii_v v0), (2, .ref (ad 90))] hl (by decide) rfl (Nat.le_of_ble_eq_true rfl) rfl ?_
  intro p e s m args below meth c C T hN
  refine a_aload_n C dL_bestLengthByTrying_0 rfl ?_
  refine a_iconst C dL_bestLengthByTrying_1 ?_
  refine a_aload_n C dL_bestLengthByTrying_2 rfl ?_
  refine a_iload_n C dL_bestLengthByTrying_3 rfl ?_
  refine a_callV (o := 0) (As := [ii_v v0]) C hM co_X9_bestLengthByTrying in_X9 ml_L_88 im_X9_bestLengthByTrying se_X9_bestLengthByTrying rfl rfl ar_X9_bestLengthByTrying ⟨by omega, by decide, by omega, by omega⟩ rfl (Nat.le_of_ble_eq_true rfl) dL_bestLengthByTrying_4 ?_ ?_
  · intro v x1 ad1 z1 hp
    obtain ⟨h1, h2, h3, h4, h5, h6⟩ := hP _ _ _ _ hp
    obtain ⟨rfl, rfl⟩ := oX_l h3
    obtain ⟨g, w9⟩ := z1
    cases h2
    subst h1
    dsimp only at h4 h5
    rw [← h6 90 (by decide)]
    refine a_i2l C dL_bestLengthByTrying_7 ?_
    refine a_last C dL_bestLengthByTrying_8 ?_
    refine a_goto (tgt := 15) C dL_bestLengthByTrying_9 rfl ?_
    refine a_iconst C dL_bestLengthByTrying_15 ?_
    exact a_iret C ⟨rfl, rfl, rfl, h4, h5, h6⟩ (by omega) (by omega) dL_bestLengthByTrying_16
  · intro X x1 ad1 z1 hp
    obtain ⟨h1, h2, h3, h4, h5, h6⟩ := hP _ _ _ _ hp
    obtain ⟨hk0, rfl⟩ := oX_r h3
    obtain ⟨g, w9⟩ := z1
    cases h2
    subst h1
    dsimp only at h4 h5
    rcases (show k = 1 by omega) with rfl
    · refine a_catch (hp := 12) (name := "java/lang/IndexOutOfBoundsException") C [] ⟨0, 9, 12, 44⟩ [] (T.trans rfl) (fun q hq => (nomatch hq)) (by decide) (by decide) cl_L_44 ca_959 rfl (fun q => ?_)
      refine a_astore_n (L' := [(0, .ref (ad 0)), (1, ii_v v0), (2, .ref (ad 90)), (3, .ref q)]) C dL_bestLengthByTrying_12 (by decide) rfl ?_
      refine a_iconst C dL_bestLengthByTrying_13 ?_
      exact a_iret C ⟨rfl, rfl, rfl, h4, h5, h6⟩ (by omega) (by omega) dL_bestLengthByTrying_14
theorem w_improve {l : Launch} {E : ab_E} {base : Nat} (hl : l.stackTraces = false) {ad : Nat → Nat} {f a2 : Nat → Nat → Int} {TS2 : Nat → List Nat} {nb nr nb2 nr2 : Nat} {vL : Int64} {vD : UInt64} {v0 : Int} {k : Nat} {u : Int} (hk : k ≤ 1) (hZ : Cz l E base yX9_improve cX9_improve 5 (some .int) (.ref (ad 0) :: [ii_v v0]) ad f (nb, nr, vL, vD) (nb2, nr2, vL, vD) (oX ["java/lang/IndexOutOfBoundsException"] k u) a2 TS2) : ab_MH l E base yL_improve cL_improve 4 (some .int) [(0, 9, 12, 44)] 14 4 150 [.ref (ad 0), ii_v v0, .ref (ad 90)] ab_x4 ad (f, nb, nr, vL, vD) (zq ad f (nb2, nr2, (if k = 0 then (ii_n u).toInt64 else vL), vD) (.inl (some (ii_v (k : Int)))) a2 TS2) := by
  obtain ⟨d1, mc1, ms1, Post, hd, hM, hP⟩ := hZ
  refine ab_ofH RL [(0, .ref (ad 0)), (1, ii_v v0), (2, .ref (ad 90))] hl (by decide) rfl (Nat.le_of_ble_eq_true rfl) rfl ?_
  intro p e s m args below meth c C T hN
  refine a_aload_n C dL_improve_0 rfl ?_
  refine a_iconst C dL_improve_1 ?_
  refine a_aload_n C dL_improve_2 rfl ?_
  refine a_iload_n C dL_improve_3 rfl ?_
  refine a_callV (o := 0) (As := [ii_v v0]) C hM co_X9_improve in_X9 ml_L_91 im_X9_improve se_X9_improve rfl rfl ar_X9_improve ⟨by omega, by decide, by omega, by omega⟩ rfl (Nat.le_of_ble_eq_true rfl) dL_improve_4 ?_ ?_
  · intro v x1 ad1 z1 hp
    obtain ⟨h1, h2, h3, h4, h5, h6⟩ := hP _ _ _ _ hp
    obtain ⟨rfl, rfl⟩ := oX_l h3
    obtain ⟨g, w9⟩ := z1
    cases h2
    subst h1
    dsimp only at h4 h5
    rw [← h6 90 (by decide)]
    refine a_i2l C dL_improve_7 ?_
    refine a_last C dL_improve_8 ?_
    refine a_goto (tgt := 15) C dL_improve_9 rfl ?_
    refine a_iconst C dL_improve_15 ?_
    exact a_iret C ⟨rfl, rfl, rfl, h4, h5, h6⟩ (by omega) (by omega) dL_improve_16
  · intro X x1 ad1 z1 hp
    obtain ⟨h1, h2, h3, h4, h5, h6⟩ := hP _ _ _ _ hp
    obtain ⟨hk0, rfl⟩ := oX_r h3
    obtain ⟨g, w9⟩ := z1
    cases h2
    subst h1
    dsimp only at h4 h5
    rcases (show k = 1 by omega) with rfl
    · refine a_catch (hp := 12) (name := "java/lang/IndexOutOfBoundsException") C [] ⟨0, 9, 12, 44⟩ [] (T.trans rfl) (fun q hq => (nomatch hq)) (by decide) (by decide) cl_L_44 ca_959 rfl (fun q => ?_)
      refine a_astore_n (L' := [(0, .ref (ad 0)), (1, ii_v v0), (2, .ref (ad 90)), (3, .ref q)]) C dL_improve_12 (by decide) rfl ?_
      refine a_iconst C dL_improve_13 ?_
      exact a_iret C ⟨rfl, rfl, rfl, h4, h5, h6⟩ (by omega) (by omega) dL_improve_14
theorem w_pass {l : Launch} {E : ab_E} {base : Nat} (hl : l.stackTraces = false) {ad : Nat → Nat} {f a2 : Nat → Nat → Int} {TS2 : Nat → List Nat} {nb nr nb2 nr2 : Nat} {vL : Int64} {vD : UInt64} {v0 : Int} {k : Nat} {u : Int} (hk : k ≤ 1) (hZ : Cz l E base yX9_pass cX9_pass 6 (some .int) (.ref (ad 0) :: [ii_v v0]) ad f (nb, nr, vL, vD) (nb2, nr2, vL, vD) (oX ["java/lang/IllegalArgumentException"] k u) a2 TS2) : ab_MH l E base yL_pass cL_pass 4 (some .int) [(0, 9, 12, 13)] 14 4 150 [.ref (ad 0), ii_v v0, .ref (ad 90)] ab_x4 ad (f, nb, nr, vL, vD) (zq ad f (nb2, nr2, (if k = 0 then (ii_n u).toInt64 else vL), vD) (.inl (some (ii_v (k : Int)))) a2 TS2) := by
  obtain ⟨d1, mc1, ms1, Post, hd, hM, hP⟩ := hZ
  refine ab_ofH RL [(0, .ref (ad 0)), (1, ii_v v0), (2, .ref (ad 90))] hl (by decide) rfl (Nat.le_of_ble_eq_true rfl) rfl ?_
  intro p e s m args below meth c C T hN
  refine a_aload_n C dL_pass_0 rfl ?_
  refine a_iconst C dL_pass_1 ?_
  refine a_aload_n C dL_pass_2 rfl ?_
  refine a_iload_n C dL_pass_3 rfl ?_
  refine a_callV (o := 0) (As := [ii_v v0]) C hM co_X9_pass in_X9 ml_L_94 im_X9_pass se_X9_pass rfl rfl ar_X9_pass ⟨by omega, by decide, by omega, by omega⟩ rfl (Nat.le_of_ble_eq_true rfl) dL_pass_4 ?_ ?_
  · intro v x1 ad1 z1 hp
    obtain ⟨h1, h2, h3, h4, h5, h6⟩ := hP _ _ _ _ hp
    obtain ⟨rfl, rfl⟩ := oX_l h3
    obtain ⟨g, w9⟩ := z1
    cases h2
    subst h1
    dsimp only at h4 h5
    rw [← h6 90 (by decide)]
    refine a_i2l C dL_pass_7 ?_
    refine a_last C dL_pass_8 ?_
    refine a_goto (tgt := 15) C dL_pass_9 rfl ?_
    refine a_iconst C dL_pass_15 ?_
    exact a_iret C ⟨rfl, rfl, rfl, h4, h5, h6⟩ (by omega) (by omega) dL_pass_16
  · intro X x1 ad1 z1 hp
    obtain ⟨h1, h2, h3, h4, h5, h6⟩ := hP _ _ _ _ hp
    obtain ⟨hk0, rfl⟩ := oX_r h3
    obtain ⟨g, w9⟩ := z1
    cases h2
    subst h1
    dsimp only at h4 h5
    rcases (show k = 1 by omega) with rfl
    · refine a_catch (hp := 12) (name := "java/lang/IllegalArgumentException") C [] ⟨0, 9, 12, 13⟩ [] (T.trans rfl) (fun q hq => (nomatch hq)) (by decide) (by decide) cl_L_13 ca_432 rfl (fun q => ?_)
      refine a_astore_n (L' := [(0, .ref (ad 0)), (1, ii_v v0), (2, .ref (ad 90)), (3, .ref q)]) C dL_pass_12 (by decide) rfl ?_
      refine a_iconst C dL_pass_13 ?_
      exact a_iret C ⟨rfl, rfl, rfl, h4, h5, h6⟩ (by omega) (by omega) dL_pass_14
theorem w_x {l : Launch} {E : ab_E} {base : Nat} (hl : l.stackTraces = false) {ad : Nat → Nat} {f a2 : Nat → Nat → Int} {TS2 : Nat → List Nat} {nb nr nb2 nr2 : Nat} {vL : Int64} {vD : UInt64} {v0 : Int} {k : Nat} {u : Int} (hk : k ≤ 1) (hZ : Cz l E base yX9_x cX9_x 2 (some .int) (.ref (ad 0) :: [ii_v v0]) ad f (nb, nr, vL, vD) (nb2, nr2, vL, vD) (oX ["java/lang/IndexOutOfBoundsException"] k u) a2 TS2) : ab_MH l E base yL_x cL_x 4 (some .int) [(0, 9, 12, 44)] 14 4 150 [.ref (ad 0), ii_v v0, .ref (ad 90)] ab_x4 ad (f, nb, nr, vL, vD) (zq ad f (nb2, nr2, (if k = 0 then (ii_n u).toInt64 else vL), vD) (.inl (some (ii_v (k : Int)))) a2 TS2) := by
  obtain ⟨d1, mc1, ms1, Post, hd, hM, hP⟩ := hZ
  refine ab_ofH RL [(0, .ref (ad 0)), (1, ii_v v0), (2, .ref (ad 90))] hl (by decide) rfl (Nat.le_of_ble_eq_true rfl) rfl ?_
  intro p e s m args below meth c C T hN
  refine a_aload_n C dL_x_0 rfl ?_
  refine a_iconst C dL_x_1 ?_
  refine a_aload_n C dL_x_2 rfl ?_
  refine a_iload_n C dL_x_3 rfl ?_
  refine a_callV (o := 0) (As := [ii_v v0]) C hM co_X9_x in_X9 ml_L_97 im_X9_x se_X9_x rfl rfl ar_X9_x ⟨by omega, by decide, by omega, by omega⟩ rfl (Nat.le_of_ble_eq_true rfl) dL_x_4 ?_ ?_
  · intro v x1 ad1 z1 hp
    obtain ⟨h1, h2, h3, h4, h5, h6⟩ := hP _ _ _ _ hp
    obtain ⟨rfl, rfl⟩ := oX_l h3
    obtain ⟨g, w9⟩ := z1
    cases h2
    subst h1
    dsimp only at h4 h5
    rw [← h6 90 (by decide)]
    refine a_i2l C dL_x_7 ?_
    refine a_last C dL_x_8 ?_
    refine a_goto (tgt := 15) C dL_x_9 rfl ?_
    refine a_iconst C dL_x_15 ?_
    exact a_iret C ⟨rfl, rfl, rfl, h4, h5, h6⟩ (by omega) (by omega) dL_x_16
  · intro X x1 ad1 z1 hp
    obtain ⟨h1, h2, h3, h4, h5, h6⟩ := hP _ _ _ _ hp
    obtain ⟨hk0, rfl⟩ := oX_r h3
    obtain ⟨g, w9⟩ := z1
    cases h2
    subst h1
    dsimp only at h4 h5
    rcases (show k = 1 by omega) with rfl
    · refine a_catch (hp := 12) (name := "java/lang/IndexOutOfBoundsException") C [] ⟨0, 9, 12, 44⟩ [] (T.trans rfl) (fun q hq => (nomatch hq)) (by decide) (by decide) cl_L_44 ca_959 rfl (fun q => ?_)
      refine a_astore_n (L' := [(0, .ref (ad 0)), (1, ii_v v0), (2, .ref (ad 90)), (3, .ref q)]) C dL_x_12 (by decide) rfl ?_
      refine a_iconst C dL_x_13 ?_
      exact a_iret C ⟨rfl, rfl, rfl, h4, h5, h6⟩ (by omega) (by omega) dL_x_14
theorem w_y {l : Launch} {E : ab_E} {base : Nat} (hl : l.stackTraces = false) {ad : Nat → Nat} {f a2 : Nat → Nat → Int} {TS2 : Nat → List Nat} {nb nr nb2 nr2 : Nat} {vL : Int64} {vD : UInt64} {v0 : Int} {k : Nat} {u : Int} (hk : k ≤ 1) (hZ : Cz l E base yX9_y cX9_y 2 (some .int) (.ref (ad 0) :: [ii_v v0]) ad f (nb, nr, vL, vD) (nb2, nr2, vL, vD) (oX ["java/lang/IndexOutOfBoundsException"] k u) a2 TS2) : ab_MH l E base yL_y cL_y 4 (some .int) [(0, 9, 12, 44)] 14 4 150 [.ref (ad 0), ii_v v0, .ref (ad 90)] ab_x4 ad (f, nb, nr, vL, vD) (zq ad f (nb2, nr2, (if k = 0 then (ii_n u).toInt64 else vL), vD) (.inl (some (ii_v (k : Int)))) a2 TS2) := by
  obtain ⟨d1, mc1, ms1, Post, hd, hM, hP⟩ := hZ
  refine ab_ofH RL [(0, .ref (ad 0)), (1, ii_v v0), (2, .ref (ad 90))] hl (by decide) rfl (Nat.le_of_ble_eq_true rfl) rfl ?_
  intro p e s m args below meth c C T hN
  refine a_aload_n C dL_y_0 rfl ?_
  refine a_iconst C dL_y_1 ?_
  refine a_aload_n C dL_y_2 rfl ?_
  refine a_iload_n C dL_y_3 rfl ?_
  refine a_callV (o := 0) (As := [ii_v v0]) C hM co_X9_y in_X9 ml_L_100 im_X9_y se_X9_y rfl rfl ar_X9_y ⟨by omega, by decide, by omega, by omega⟩ rfl (Nat.le_of_ble_eq_true rfl) dL_y_4 ?_ ?_
  · intro v x1 ad1 z1 hp
    obtain ⟨h1, h2, h3, h4, h5, h6⟩ := hP _ _ _ _ hp
    obtain ⟨rfl, rfl⟩ := oX_l h3
    obtain ⟨g, w9⟩ := z1
    cases h2
    subst h1
    dsimp only at h4 h5
    rw [← h6 90 (by decide)]
    refine a_i2l C dL_y_7 ?_
    refine a_last C dL_y_8 ?_
    refine a_goto (tgt := 15) C dL_y_9 rfl ?_
    refine a_iconst C dL_y_15 ?_
    exact a_iret C ⟨rfl, rfl, rfl, h4, h5, h6⟩ (by omega) (by omega) dL_y_16
  · intro X x1 ad1 z1 hp
    obtain ⟨h1, h2, h3, h4, h5, h6⟩ := hP _ _ _ _ hp
    obtain ⟨hk0, rfl⟩ := oX_r h3
    obtain ⟨g, w9⟩ := z1
    cases h2
    subst h1
    dsimp only at h4 h5
    rcases (show k = 1 by omega) with rfl
    · refine a_catch (hp := 12) (name := "java/lang/IndexOutOfBoundsException") C [] ⟨0, 9, 12, 44⟩ [] (T.trans rfl) (fun q hq => (nomatch hq)) (by decide) (by decide) cl_L_44 ca_959 rfl (fun q => ?_)
      refine a_astore_n (L' := [(0, .ref (ad 0)), (1, ii_v v0), (2, .ref (ad 90)), (3, .ref q)]) C dL_y_12 (by decide) rfl ?_
      refine a_iconst C dL_y_13 ?_
      exact a_iret C ⟨rfl, rfl, rfl, h4, h5, h6⟩ (by omega) (by omega) dL_y_14
theorem w_charge {l : Launch} {E : ab_E} {base : Nat} (hl : l.stackTraces = false) {ad : Nat → Nat} {f a2 : Nat → Nat → Int} {TS2 : Nat → List Nat} {nb nr nb2 nr2 : Nat} {vL : Int64} {vD : UInt64} {v0 : Int} {k : Nat} {u : Int} (hk : k ≤ 1) (hZ : Cz l E base yX9_charge cX9_charge 2 (some .int) (.ref (ad 0) :: [ii_v v0]) ad f (nb, nr, vL, vD) (nb2, nr2, vL, vD) (oX ["java/lang/IndexOutOfBoundsException"] k u) a2 TS2) : ab_MH l E base yL_charge cL_charge 4 (some .int) [(0, 9, 12, 44)] 14 4 150 [.ref (ad 0), ii_v v0, .ref (ad 90)] ab_x4 ad (f, nb, nr, vL, vD) (zq ad f (nb2, nr2, (if k = 0 then (ii_n u).toInt64 else vL), vD) (.inl (some (ii_v (k : Int)))) a2 TS2) := by
  obtain ⟨d1, mc1, ms1, Post, hd, hM, hP⟩ := hZ
  refine ab_ofH RL [(0, .ref (ad 0)), (1, ii_v v0), (2, .ref (ad 90))] hl (by decide) rfl (Nat.le_of_ble_eq_true rfl) rfl ?_
  intro p e s m args below meth c C T hN
  refine a_aload_n C dL_charge_0 rfl ?_
  refine a_iconst C dL_charge_1 ?_
  refine a_aload_n C dL_charge_2 rfl ?_
  refine a_iload_n C dL_charge_3 rfl ?_
  refine a_callV (o := 0) (As := [ii_v v0]) C hM co_X9_charge in_X9 ml_L_103 im_X9_charge se_X9_charge rfl rfl ar_X9_charge ⟨by omega, by decide, by omega, by omega⟩ rfl (Nat.le_of_ble_eq_true rfl) dL_charge_4 ?_ ?_
  · intro v x1 ad1 z1 hp
    obtain ⟨h1, h2, h3, h4, h5, h6⟩ := hP _ _ _ _ hp
    obtain ⟨rfl, rfl⟩ := oX_l h3
    obtain ⟨g, w9⟩ := z1
    cases h2
    subst h1
    dsimp only at h4 h5
    rw [← h6 90 (by decide)]
    refine a_i2l C dL_charge_7 ?_
    refine a_last C dL_charge_8 ?_
    refine a_goto (tgt := 15) C dL_charge_9 rfl ?_
    refine a_iconst C dL_charge_15 ?_
    exact a_iret C ⟨rfl, rfl, rfl, h4, h5, h6⟩ (by omega) (by omega) dL_charge_16
  · intro X x1 ad1 z1 hp
    obtain ⟨h1, h2, h3, h4, h5, h6⟩ := hP _ _ _ _ hp
    obtain ⟨hk0, rfl⟩ := oX_r h3
    obtain ⟨g, w9⟩ := z1
    cases h2
    subst h1
    dsimp only at h4 h5
    rcases (show k = 1 by omega) with rfl
    · refine a_catch (hp := 12) (name := "java/lang/IndexOutOfBoundsException") C [] ⟨0, 9, 12, 44⟩ [] (T.trans rfl) (fun q hq => (nomatch hq)) (by decide) (by decide) cl_L_44 ca_959 rfl (fun q => ?_)
      refine a_astore_n (L' := [(0, .ref (ad 0)), (1, ii_v v0), (2, .ref (ad 90)), (3, .ref q)]) C dL_charge_12 (by decide) rfl ?_
      refine a_iconst C dL_charge_13 ?_
      exact a_iret C ⟨rfl, rfl, rfl, h4, h5, h6⟩ (by omega) (by omega) dL_charge_14
theorem w_onBoard {l : Launch} {E : ab_E} {base : Nat} (hl : l.stackTraces = false) {ad : Nat → Nat} {f a2 : Nat → Nat → Int} {TS2 : Nat → List Nat} {nb nr nb2 nr2 : Nat} {vL : Int64} {vD : UInt64} {v0 : Int} {k : Nat} {u : Int} (hk : k ≤ 1) (hZ : Cz l E base yX9_onBoard cX9_onBoard 2 (some .int) (.ref (ad 0) :: [ii_v v0]) ad f (nb, nr, vL, vD) (nb2, nr2, vL, vD) (oX ["java/lang/IndexOutOfBoundsException"] k u) a2 TS2) : ab_MH l E base yL_onBoard cL_onBoard 4 (some .int) [(0, 9, 12, 44)] 14 4 150 [.ref (ad 0), ii_v v0, .ref (ad 90)] ab_x4 ad (f, nb, nr, vL, vD) (zq ad f (nb2, nr2, (if k = 0 then (ii_n u).toInt64 else vL), vD) (.inl (some (ii_v (k : Int)))) a2 TS2) := by
  obtain ⟨d1, mc1, ms1, Post, hd, hM, hP⟩ := hZ
  refine ab_ofH RL [(0, .ref (ad 0)), (1, ii_v v0), (2, .ref (ad 90))] hl (by decide) rfl (Nat.le_of_ble_eq_true rfl) rfl ?_
  intro p e s m args below meth c C T hN
  refine a_aload_n C dL_onBoard_0 rfl ?_
  refine a_iconst C dL_onBoard_1 ?_
  refine a_aload_n C dL_onBoard_2 rfl ?_
  refine a_iload_n C dL_onBoard_3 rfl ?_
  refine a_callV (o := 0) (As := [ii_v v0]) C hM co_X9_onBoard in_X9 ml_L_106 im_X9_onBoard se_X9_onBoard rfl rfl ar_X9_onBoard ⟨by omega, by decide, by omega, by omega⟩ rfl (Nat.le_of_ble_eq_true rfl) dL_onBoard_4 ?_ ?_
  · intro v x1 ad1 z1 hp
    obtain ⟨h1, h2, h3, h4, h5, h6⟩ := hP _ _ _ _ hp
    obtain ⟨rfl, rfl⟩ := oX_l h3
    obtain ⟨g, w9⟩ := z1
    cases h2
    subst h1
    dsimp only at h4 h5
    rw [← h6 90 (by decide)]
    refine a_i2l C dL_onBoard_7 ?_
    refine a_last C dL_onBoard_8 ?_
    refine a_goto (tgt := 15) C dL_onBoard_9 rfl ?_
    refine a_iconst C dL_onBoard_15 ?_
    exact a_iret C ⟨rfl, rfl, rfl, h4, h5, h6⟩ (by omega) (by omega) dL_onBoard_16
  · intro X x1 ad1 z1 hp
    obtain ⟨h1, h2, h3, h4, h5, h6⟩ := hP _ _ _ _ hp
    obtain ⟨hk0, rfl⟩ := oX_r h3
    obtain ⟨g, w9⟩ := z1
    cases h2
    subst h1
    dsimp only at h4 h5
    rcases (show k = 1 by omega) with rfl
    · refine a_catch (hp := 12) (name := "java/lang/IndexOutOfBoundsException") C [] ⟨0, 9, 12, 44⟩ [] (T.trans rfl) (fun q hq => (nomatch hq)) (by decide) (by decide) cl_L_44 ca_959 rfl (fun q => ?_)
      refine a_astore_n (L' := [(0, .ref (ad 0)), (1, ii_v v0), (2, .ref (ad 90)), (3, .ref q)]) C dL_onBoard_12 (by decide) rfl ?_
      refine a_iconst C dL_onBoard_13 ?_
      exact a_iret C ⟨rfl, rfl, rfl, h4, h5, h6⟩ (by omega) (by omega) dL_onBoard_14
theorem w_driven {l : Launch} {E : ab_E} {base : Nat} (hl : l.stackTraces = false) {ad : Nat → Nat} {f a2 : Nat → Nat → Int} {TS2 : Nat → List Nat} {nb nr nb2 nr2 : Nat} {vL : Int64} {vD : UInt64} {v0 : Int} {k : Nat} {u : Int} (hk : k ≤ 1) (hZ : Cz l E base yX9_driven cX9_driven 2 (some .int) (.ref (ad 0) :: [ii_v v0]) ad f (nb, nr, vL, vD) (nb2, nr2, vL, vD) (oX ["java/lang/IndexOutOfBoundsException"] k u) a2 TS2) : ab_MH l E base yL_driven cL_driven 4 (some .int) [(0, 9, 12, 44)] 14 4 150 [.ref (ad 0), ii_v v0, .ref (ad 90)] ab_x4 ad (f, nb, nr, vL, vD) (zq ad f (nb2, nr2, (if k = 0 then (ii_n u).toInt64 else vL), vD) (.inl (some (ii_v (k : Int)))) a2 TS2) := by
  obtain ⟨d1, mc1, ms1, Post, hd, hM, hP⟩ := hZ
  refine ab_ofH RL [(0, .ref (ad 0)), (1, ii_v v0), (2, .ref (ad 90))] hl (by decide) rfl (Nat.le_of_ble_eq_true rfl) rfl ?_
  intro p e s m args below meth c C T hN
  refine a_aload_n C dL_driven_0 rfl ?_
  refine a_iconst C dL_driven_1 ?_
  refine a_aload_n C dL_driven_2 rfl ?_
  refine a_iload_n C dL_driven_3 rfl ?_
  refine a_callV (o := 0) (As := [ii_v v0]) C hM co_X9_driven in_X9 ml_L_109 im_X9_driven se_X9_driven rfl rfl ar_X9_driven ⟨by omega, by decide, by omega, by omega⟩ rfl (Nat.le_of_ble_eq_true rfl) dL_driven_4 ?_ ?_
  · intro v x1 ad1 z1 hp
    obtain ⟨h1, h2, h3, h4, h5, h6⟩ := hP _ _ _ _ hp
    obtain ⟨rfl, rfl⟩ := oX_l h3
    obtain ⟨g, w9⟩ := z1
    cases h2
    subst h1
    dsimp only at h4 h5
    rw [← h6 90 (by decide)]
    refine a_i2l C dL_driven_7 ?_
    refine a_last C dL_driven_8 ?_
    refine a_goto (tgt := 15) C dL_driven_9 rfl ?_
    refine a_iconst C dL_driven_15 ?_
    exact a_iret C ⟨rfl, rfl, rfl, h4, h5, h6⟩ (by omega) (by omega) dL_driven_16
  · intro X x1 ad1 z1 hp
    obtain ⟨h1, h2, h3, h4, h5, h6⟩ := hP _ _ _ _ hp
    obtain ⟨hk0, rfl⟩ := oX_r h3
    obtain ⟨g, w9⟩ := z1
    cases h2
    subst h1
    dsimp only at h4 h5
    rcases (show k = 1 by omega) with rfl
    · refine a_catch (hp := 12) (name := "java/lang/IndexOutOfBoundsException") C [] ⟨0, 9, 12, 44⟩ [] (T.trans rfl) (fun q hq => (nomatch hq)) (by decide) (by decide) cl_L_44 ca_959 rfl (fun q => ?_)
      refine a_astore_n (L' := [(0, .ref (ad 0)), (1, ii_v v0), (2, .ref (ad 90)), (3, .ref q)]) C dL_driven_12 (by decide) rfl ?_
      refine a_iconst C dL_driven_13 ?_
      exact a_iret C ⟨rfl, rfl, rfl, h4, h5, h6⟩ (by omega) (by omega) dL_driven_14
theorem w_empty {l : Launch} {E : ab_E} {base : Nat} (hl : l.stackTraces = false) {ad : Nat → Nat} {f a2 : Nat → Nat → Int} {TS2 : Nat → List Nat} {nb nr nb2 nr2 : Nat} {vL : Int64} {vD : UInt64} {v0 : Int} {k : Nat} {u : Int} (hk : k ≤ 1) (hZ : Cz l E base yX9_empty cX9_empty 2 (some .int) (.ref (ad 0) :: [ii_v v0]) ad f (nb, nr, vL, vD) (nb2, nr2, vL, vD) (oX ["java/lang/IndexOutOfBoundsException"] k u) a2 TS2) : ab_MH l E base yL_empty cL_empty 4 (some .int) [(0, 9, 12, 44)] 14 4 150 [.ref (ad 0), ii_v v0, .ref (ad 90)] ab_x4 ad (f, nb, nr, vL, vD) (zq ad f (nb2, nr2, (if k = 0 then (ii_n u).toInt64 else vL), vD) (.inl (some (ii_v (k : Int)))) a2 TS2) := by
  obtain ⟨d1, mc1, ms1, Post, hd, hM, hP⟩ := hZ
  refine ab_ofH RL [(0, .ref (ad 0)), (1, ii_v v0), (2, .ref (ad 90))] hl (by decide) rfl (Nat.le_of_ble_eq_true rfl) rfl ?_
  intro p e s m args below meth c C T hN
  refine a_aload_n C dL_empty_0 rfl ?_
  refine a_iconst C dL_empty_1 ?_
  refine a_aload_n C dL_empty_2 rfl ?_
  refine a_iload_n C dL_empty_3 rfl ?_
  refine a_callV (o := 0) (As := [ii_v v0]) C hM co_X9_empty in_X9 ml_L_112 im_X9_empty se_X9_empty rfl rfl ar_X9_empty ⟨by omega, by decide, by omega, by omega⟩ rfl (Nat.le_of_ble_eq_true rfl) dL_empty_4 ?_ ?_
  · intro v x1 ad1 z1 hp
    obtain ⟨h1, h2, h3, h4, h5, h6⟩ := hP _ _ _ _ hp
    obtain ⟨rfl, rfl⟩ := oX_l h3
    obtain ⟨g, w9⟩ := z1
    cases h2
    subst h1
    dsimp only at h4 h5
    rw [← h6 90 (by decide)]
    refine a_i2l C dL_empty_7 ?_
    refine a_last C dL_empty_8 ?_
    refine a_goto (tgt := 15) C dL_empty_9 rfl ?_
    refine a_iconst C dL_empty_15 ?_
    exact a_iret C ⟨rfl, rfl, rfl, h4, h5, h6⟩ (by omega) (by omega) dL_empty_16
  · intro X x1 ad1 z1 hp
    obtain ⟨h1, h2, h3, h4, h5, h6⟩ := hP _ _ _ _ hp
    obtain ⟨hk0, rfl⟩ := oX_r h3
    obtain ⟨g, w9⟩ := z1
    cases h2
    subst h1
    dsimp only at h4 h5
    rcases (show k = 1 by omega) with rfl
    · refine a_catch (hp := 12) (name := "java/lang/IndexOutOfBoundsException") C [] ⟨0, 9, 12, 44⟩ [] (T.trans rfl) (fun q hq => (nomatch hq)) (by decide) (by decide) cl_L_44 ca_959 rfl (fun q => ?_)
      refine a_astore_n (L' := [(0, .ref (ad 0)), (1, ii_v v0), (2, .ref (ad 90)), (3, .ref q)]) C dL_empty_12 (by decide) rfl ?_
      refine a_iconst C dL_empty_13 ?_
      exact a_iret C ⟨rfl, rfl, rfl, h4, h5, h6⟩ (by omega) (by omega) dL_empty_14
theorem w_emptyByJournal {l : Launch} {E : ab_E} {base : Nat} (hl : l.stackTraces = false) {ad : Nat → Nat} {f a2 : Nat → Nat → Int} {TS2 : Nat → List Nat} {nb nr nb2 nr2 : Nat} {vL : Int64} {vD : UInt64} {v0 : Int} {k : Nat} {u : Int} (hk : k ≤ 1) (hZ : Cz l E base yX9_emptyByJournal cX9_emptyByJournal 3 (some .int) (.ref (ad 0) :: [ii_v v0]) ad f (nb, nr, vL, vD) (nb2, nr2, vL, vD) (oX ["java/lang/IndexOutOfBoundsException"] k u) a2 TS2) : ab_MH l E base yL_emptyByJournal cL_emptyByJournal 4 (some .int) [(0, 9, 12, 44)] 14 4 150 [.ref (ad 0), ii_v v0, .ref (ad 90)] ab_x4 ad (f, nb, nr, vL, vD) (zq ad f (nb2, nr2, (if k = 0 then (ii_n u).toInt64 else vL), vD) (.inl (some (ii_v (k : Int)))) a2 TS2) := by
  obtain ⟨d1, mc1, ms1, Post, hd, hM, hP⟩ := hZ
  refine ab_ofH RL [(0, .ref (ad 0)), (1, ii_v v0), (2, .ref (ad 90))] hl (by decide) rfl (Nat.le_of_ble_eq_true rfl) rfl ?_
  intro p e s m args below meth c C T hN
  refine a_aload_n C dL_emptyByJournal_0 rfl ?_
  refine a_iconst C dL_emptyByJournal_1 ?_
  refine a_aload_n C dL_emptyByJournal_2 rfl ?_
  refine a_iload_n C dL_emptyByJournal_3 rfl ?_
  refine a_callV (o := 0) (As := [ii_v v0]) C hM co_X9_emptyByJournal in_X9 ml_L_115 im_X9_emptyByJournal se_X9_emptyByJournal rfl rfl ar_X9_emptyByJournal ⟨by omega, by decide, by omega, by omega⟩ rfl (Nat.le_of_ble_eq_true rfl) dL_emptyByJournal_4 ?_ ?_
  · intro v x1 ad1 z1 hp
    obtain ⟨h1, h2, h3, h4, h5, h6⟩ := hP _ _ _ _ hp
    obtain ⟨rfl, rfl⟩ := oX_l h3
    obtain ⟨g, w9⟩ := z1
    cases h2
    subst h1
    dsimp only at h4 h5
    rw [← h6 90 (by decide)]
    refine a_i2l C dL_emptyByJournal_7 ?_
    refine a_last C dL_emptyByJournal_8 ?_
    refine a_goto (tgt := 15) C dL_emptyByJournal_9 rfl ?_
    refine a_iconst C dL_emptyByJournal_15 ?_
    exact a_iret C ⟨rfl, rfl, rfl, h4, h5, h6⟩ (by omega) (by omega) dL_emptyByJournal_16
  · intro X x1 ad1 z1 hp
    obtain ⟨h1, h2, h3, h4, h5, h6⟩ := hP _ _ _ _ hp
    obtain ⟨hk0, rfl⟩ := oX_r h3
    obtain ⟨g, w9⟩ := z1
    cases h2
    subst h1
    dsimp only at h4 h5
    rcases (show k = 1 by omega) with rfl
    · refine a_catch (hp := 12) (name := "java/lang/IndexOutOfBoundsException") C [] ⟨0, 9, 12, 44⟩ [] (T.trans rfl) (fun q hq => (nomatch hq)) (by decide) (by decide) cl_L_44 ca_959 rfl (fun q => ?_)
      refine a_astore_n (L' := [(0, .ref (ad 0)), (1, ii_v v0), (2, .ref (ad 90)), (3, .ref q)]) C dL_emptyByJournal_12 (by decide) rfl ?_
      refine a_iconst C dL_emptyByJournal_13 ?_
      exact a_iret C ⟨rfl, rfl, rfl, h4, h5, h6⟩ (by omega) (by omega) dL_emptyByJournal_14
theorem w_occupancy {l : Launch} {E : ab_E} {base : Nat} (hl : l.stackTraces = false) {ad : Nat → Nat} {f a2 : Nat → Nat → Int} {TS2 : Nat → List Nat} {nb nr nb2 nr2 : Nat} {vL : Int64} {vD : UInt64} {v0 : Int} {k : Nat} {u : UInt32} (hk : k ≤ 2) (hu : vf_n64 (FP.f2d u)) (hZ : Cz l E base yX9_occupancy cX9_occupancy 3 (some .float) (.ref (ad 0) :: [ii_v v0]) ad f (nb, nr, vL, vD) (nb2, nr2, vL, vD) (oF ["java/lang/IndexOutOfBoundsException", "java/util/NoSuchElementException"] k u) a2 TS2) : ab_MH l E base yL_occupancy cL_occupancy 4 (some .int) [(0, 9, 12, 44), (0, 9, 15, 33)] 14 4 150 [.ref (ad 0), ii_v v0, .ref (ad 91)] ab_x4 ad (f, nb, nr, vL, vD) (zq ad f (nb2, nr2, vL, (if k = 0 then FP.f2d u else vD)) (.inl (some (ii_v (k : Int)))) a2 TS2) := by
  obtain ⟨d1, mc1, ms1, Post, hd, hM, hP⟩ := hZ
  refine ab_ofH RL [(0, .ref (ad 0)), (1, ii_v v0), (2, .ref (ad 91))] hl (by decide) rfl (Nat.le_of_ble_eq_true rfl) rfl ?_
  intro p e s m args below meth c C T hN
  refine a_aload_n C dL_occupancy_0 rfl ?_
  refine a_iconst C dL_occupancy_1 ?_
  refine a_aload_n C dL_occupancy_2 rfl ?_
  refine a_iload_n C dL_occupancy_3 rfl ?_
  refine a_callV (o := 0) (As := [ii_v v0]) C hM co_X9_occupancy in_X9 ml_L_118 im_X9_occupancy se_X9_occupancy rfl rfl ar_X9_occupancy ⟨by omega, by decide, by omega, by omega⟩ rfl (Nat.le_of_ble_eq_true rfl) dL_occupancy_4 ?_ ?_
  · intro v x1 ad1 z1 hp
    obtain ⟨h1, h2, h3, h4, h5, h6⟩ := hP _ _ _ _ hp
    obtain ⟨rfl, rfl⟩ := oF_l h3
    obtain ⟨g, w9⟩ := z1
    cases h2
    subst h1
    dsimp only at h4 h5
    rw [← h6 91 (by decide)]
    refine a_f2d C hu dL_occupancy_7 ?_
    refine a_dast C dL_occupancy_8 ?_
    refine a_goto (tgt := 18) C dL_occupancy_9 rfl ?_
    refine a_iconst C dL_occupancy_18 ?_
    exact a_iret C ⟨rfl, rfl, rfl, h4, h5, h6⟩ (by omega) (by omega) dL_occupancy_19
  · intro X x1 ad1 z1 hp
    obtain ⟨h1, h2, h3, h4, h5, h6⟩ := hP _ _ _ _ hp
    obtain ⟨hk0, rfl⟩ := oF_r h3
    obtain ⟨g, w9⟩ := z1
    cases h2
    subst h1
    dsimp only at h4 h5
    rcases (show k = 1 ∨ k = 2 by omega) with rfl | rfl
    · refine a_catch (hp := 12) (name := "java/lang/IndexOutOfBoundsException") C [] ⟨0, 9, 12, 44⟩ [⟨0, 9, 15, 33⟩] (T.trans rfl) (fun q hq => (nomatch hq)) (by decide) (by decide) cl_L_44 ca_959 rfl (fun q => ?_)
      refine a_astore_n (L' := [(0, .ref (ad 0)), (1, ii_v v0), (2, .ref (ad 91)), (3, .ref q)]) C dL_occupancy_12 (by decide) rfl ?_
      refine a_iconst C dL_occupancy_13 ?_
      exact a_iret C ⟨rfl, rfl, rfl, h4, h5, h6⟩ (by omega) (by omega) dL_occupancy_14
    · refine a_catch (hp := 15) (name := "java/util/NoSuchElementException") C [⟨0, 9, 12, 44⟩] ⟨0, 9, 15, 33⟩ [] (T.trans rfl) (fun q hq => by rw [List.mem_singleton.mp hq]; exact Or.inr ⟨by decide, _, C.2.2.2.2.2.1 _ cl_L_44, hN ("java/util/NoSuchElementException", "java/lang/IndexOutOfBoundsException") (by simp [ab_ncs])⟩) (by decide) (by decide) cl_L_33 ca_917 rfl (fun q => ?_)
      refine a_astore_n (L' := [(0, .ref (ad 0)), (1, ii_v v0), (2, .ref (ad 91)), (3, .ref q)]) C dL_occupancy_15 (by decide) rfl ?_
      refine a_iconst C dL_occupancy_16 ?_
      exact a_iret C ⟨rfl, rfl, rfl, h4, h5, h6⟩ (by omega) (by omega) dL_occupancy_17
theorem w_entryBus {l : Launch} {E : ab_E} {base : Nat} (hl : l.stackTraces = false) {ad : Nat → Nat} {f a2 : Nat → Nat → Int} {TS2 : Nat → List Nat} {nb nr nb2 nr2 : Nat} {vL : Int64} {vD : UInt64} {v0 : Int} {k : Nat} {u : Int} (hk : k ≤ 1) (hZ : Cz l E base yX9_entryBus cX9_entryBus 2 (some .int) (.ref (ad 0) :: [ii_v v0]) ad f (nb, nr, vL, vD) (nb2, nr2, vL, vD) (oX ["java/lang/IndexOutOfBoundsException"] k u) a2 TS2) : ab_MH l E base yL_entryBus cL_entryBus 4 (some .int) [(0, 9, 12, 44)] 14 4 150 [.ref (ad 0), ii_v v0, .ref (ad 90)] ab_x4 ad (f, nb, nr, vL, vD) (zq ad f (nb2, nr2, (if k = 0 then (ii_n u).toInt64 else vL), vD) (.inl (some (ii_v (k : Int)))) a2 TS2) := by
  obtain ⟨d1, mc1, ms1, Post, hd, hM, hP⟩ := hZ
  refine ab_ofH RL [(0, .ref (ad 0)), (1, ii_v v0), (2, .ref (ad 90))] hl (by decide) rfl (Nat.le_of_ble_eq_true rfl) rfl ?_
  intro p e s m args below meth c C T hN
  refine a_aload_n C dL_entryBus_0 rfl ?_
  refine a_iconst C dL_entryBus_1 ?_
  refine a_aload_n C dL_entryBus_2 rfl ?_
  refine a_iload_n C dL_entryBus_3 rfl ?_
  refine a_callV (o := 0) (As := [ii_v v0]) C hM co_X9_entryBus in_X9 ml_L_122 im_X9_entryBus se_X9_entryBus rfl rfl ar_X9_entryBus ⟨by omega, by decide, by omega, by omega⟩ rfl (Nat.le_of_ble_eq_true rfl) dL_entryBus_4 ?_ ?_
  · intro v x1 ad1 z1 hp
    obtain ⟨h1, h2, h3, h4, h5, h6⟩ := hP _ _ _ _ hp
    obtain ⟨rfl, rfl⟩ := oX_l h3
    obtain ⟨g, w9⟩ := z1
    cases h2
    subst h1
    dsimp only at h4 h5
    rw [← h6 90 (by decide)]
    refine a_i2l C dL_entryBus_7 ?_
    refine a_last C dL_entryBus_8 ?_
    refine a_goto (tgt := 15) C dL_entryBus_9 rfl ?_
    refine a_iconst C dL_entryBus_15 ?_
    exact a_iret C ⟨rfl, rfl, rfl, h4, h5, h6⟩ (by omega) (by omega) dL_entryBus_16
  · intro X x1 ad1 z1 hp
    obtain ⟨h1, h2, h3, h4, h5, h6⟩ := hP _ _ _ _ hp
    obtain ⟨hk0, rfl⟩ := oX_r h3
    obtain ⟨g, w9⟩ := z1
    cases h2
    subst h1
    dsimp only at h4 h5
    rcases (show k = 1 by omega) with rfl
    · refine a_catch (hp := 12) (name := "java/lang/IndexOutOfBoundsException") C [] ⟨0, 9, 12, 44⟩ [] (T.trans rfl) (fun q hq => (nomatch hq)) (by decide) (by decide) cl_L_44 ca_959 rfl (fun q => ?_)
      refine a_astore_n (L' := [(0, .ref (ad 0)), (1, ii_v v0), (2, .ref (ad 90)), (3, .ref q)]) C dL_entryBus_12 (by decide) rfl ?_
      refine a_iconst C dL_entryBus_13 ?_
      exact a_iret C ⟨rfl, rfl, rfl, h4, h5, h6⟩ (by omega) (by omega) dL_entryBus_14
theorem w_entryRequest {l : Launch} {E : ab_E} {base : Nat} (hl : l.stackTraces = false) {ad : Nat → Nat} {f a2 : Nat → Nat → Int} {TS2 : Nat → List Nat} {nb nr nb2 nr2 : Nat} {vL : Int64} {vD : UInt64} {v0 : Int} {k : Nat} {u : Int} (hk : k ≤ 1) (hZ : Cz l E base yX9_entryRequest cX9_entryRequest 2 (some .int) (.ref (ad 0) :: [ii_v v0]) ad f (nb, nr, vL, vD) (nb2, nr2, vL, vD) (oX ["java/lang/IndexOutOfBoundsException"] k u) a2 TS2) : ab_MH l E base yL_entryRequest cL_entryRequest 4 (some .int) [(0, 9, 12, 44)] 14 4 150 [.ref (ad 0), ii_v v0, .ref (ad 90)] ab_x4 ad (f, nb, nr, vL, vD) (zq ad f (nb2, nr2, (if k = 0 then (ii_n u).toInt64 else vL), vD) (.inl (some (ii_v (k : Int)))) a2 TS2) := by
  obtain ⟨d1, mc1, ms1, Post, hd, hM, hP⟩ := hZ
  refine ab_ofH RL [(0, .ref (ad 0)), (1, ii_v v0), (2, .ref (ad 90))] hl (by decide) rfl (Nat.le_of_ble_eq_true rfl) rfl ?_
  intro p e s m args below meth c C T hN
  refine a_aload_n C dL_entryRequest_0 rfl ?_
  refine a_iconst C dL_entryRequest_1 ?_
  refine a_aload_n C dL_entryRequest_2 rfl ?_
  refine a_iload_n C dL_entryRequest_3 rfl ?_
  refine a_callV (o := 0) (As := [ii_v v0]) C hM co_X9_entryRequest in_X9 ml_L_125 im_X9_entryRequest se_X9_entryRequest rfl rfl ar_X9_entryRequest ⟨by omega, by decide, by omega, by omega⟩ rfl (Nat.le_of_ble_eq_true rfl) dL_entryRequest_4 ?_ ?_
  · intro v x1 ad1 z1 hp
    obtain ⟨h1, h2, h3, h4, h5, h6⟩ := hP _ _ _ _ hp
    obtain ⟨rfl, rfl⟩ := oX_l h3
    obtain ⟨g, w9⟩ := z1
    cases h2
    subst h1
    dsimp only at h4 h5
    rw [← h6 90 (by decide)]
    refine a_i2l C dL_entryRequest_7 ?_
    refine a_last C dL_entryRequest_8 ?_
    refine a_goto (tgt := 15) C dL_entryRequest_9 rfl ?_
    refine a_iconst C dL_entryRequest_15 ?_
    exact a_iret C ⟨rfl, rfl, rfl, h4, h5, h6⟩ (by omega) (by omega) dL_entryRequest_16
  · intro X x1 ad1 z1 hp
    obtain ⟨h1, h2, h3, h4, h5, h6⟩ := hP _ _ _ _ hp
    obtain ⟨hk0, rfl⟩ := oX_r h3
    obtain ⟨g, w9⟩ := z1
    cases h2
    subst h1
    dsimp only at h4 h5
    rcases (show k = 1 by omega) with rfl
    · refine a_catch (hp := 12) (name := "java/lang/IndexOutOfBoundsException") C [] ⟨0, 9, 12, 44⟩ [] (T.trans rfl) (fun q hq => (nomatch hq)) (by decide) (by decide) cl_L_44 ca_959 rfl (fun q => ?_)
      refine a_astore_n (L' := [(0, .ref (ad 0)), (1, ii_v v0), (2, .ref (ad 90)), (3, .ref q)]) C dL_entryRequest_12 (by decide) rfl ?_
      refine a_iconst C dL_entryRequest_13 ?_
      exact a_iret C ⟨rfl, rfl, rfl, h4, h5, h6⟩ (by omega) (by omega) dL_entryRequest_14
theorem w_entryTime {l : Launch} {E : ab_E} {base : Nat} (hl : l.stackTraces = false) {ad : Nat → Nat} {f a2 : Nat → Nat → Int} {TS2 : Nat → List Nat} {nb nr nb2 nr2 : Nat} {vL : Int64} {vD : UInt64} {v0 : Int} {k : Nat} {u : Int} (hk : k ≤ 1) (hZ : Cz l E base yX9_entryTime cX9_entryTime 2 (some .int) (.ref (ad 0) :: [ii_v v0]) ad f (nb, nr, vL, vD) (nb2, nr2, vL, vD) (oX ["java/lang/IndexOutOfBoundsException"] k u) a2 TS2) : ab_MH l E base yL_entryTime cL_entryTime 4 (some .int) [(0, 9, 12, 44)] 14 4 150 [.ref (ad 0), ii_v v0, .ref (ad 90)] ab_x4 ad (f, nb, nr, vL, vD) (zq ad f (nb2, nr2, (if k = 0 then (ii_n u).toInt64 else vL), vD) (.inl (some (ii_v (k : Int)))) a2 TS2) := by
  obtain ⟨d1, mc1, ms1, Post, hd, hM, hP⟩ := hZ
  refine ab_ofH RL [(0, .ref (ad 0)), (1, ii_v v0), (2, .ref (ad 90))] hl (by decide) rfl (Nat.le_of_ble_eq_true rfl) rfl ?_
  intro p e s m args below meth c C T hN
  refine a_aload_n C dL_entryTime_0 rfl ?_
  refine a_iconst C dL_entryTime_1 ?_
  refine a_aload_n C dL_entryTime_2 rfl ?_
  refine a_iload_n C dL_entryTime_3 rfl ?_
  refine a_callV (o := 0) (As := [ii_v v0]) C hM co_X9_entryTime in_X9 ml_L_128 im_X9_entryTime se_X9_entryTime rfl rfl ar_X9_entryTime ⟨by omega, by decide, by omega, by omega⟩ rfl (Nat.le_of_ble_eq_true rfl) dL_entryTime_4 ?_ ?_
  · intro v x1 ad1 z1 hp
    obtain ⟨h1, h2, h3, h4, h5, h6⟩ := hP _ _ _ _ hp
    obtain ⟨rfl, rfl⟩ := oX_l h3
    obtain ⟨g, w9⟩ := z1
    cases h2
    subst h1
    dsimp only at h4 h5
    rw [← h6 90 (by decide)]
    refine a_i2l C dL_entryTime_7 ?_
    refine a_last C dL_entryTime_8 ?_
    refine a_goto (tgt := 15) C dL_entryTime_9 rfl ?_
    refine a_iconst C dL_entryTime_15 ?_
    exact a_iret C ⟨rfl, rfl, rfl, h4, h5, h6⟩ (by omega) (by omega) dL_entryTime_16
  · intro X x1 ad1 z1 hp
    obtain ⟨h1, h2, h3, h4, h5, h6⟩ := hP _ _ _ _ hp
    obtain ⟨hk0, rfl⟩ := oX_r h3
    obtain ⟨g, w9⟩ := z1
    cases h2
    subst h1
    dsimp only at h4 h5
    rcases (show k = 1 by omega) with rfl
    · refine a_catch (hp := 12) (name := "java/lang/IndexOutOfBoundsException") C [] ⟨0, 9, 12, 44⟩ [] (T.trans rfl) (fun q hq => (nomatch hq)) (by decide) (by decide) cl_L_44 ca_959 rfl (fun q => ?_)
      refine a_astore_n (L' := [(0, .ref (ad 0)), (1, ii_v v0), (2, .ref (ad 90)), (3, .ref q)]) C dL_entryTime_12 (by decide) rfl ?_
      refine a_iconst C dL_entryTime_13 ?_
      exact a_iret C ⟨rfl, rfl, rfl, h4, h5, h6⟩ (by omega) (by omega) dL_entryTime_14
theorem w_entryDistance {l : Launch} {E : ab_E} {base : Nat} (hl : l.stackTraces = false) {ad : Nat → Nat} {f a2 : Nat → Nat → Int} {TS2 : Nat → List Nat} {nb nr nb2 nr2 : Nat} {vL : Int64} {vD : UInt64} {v0 : Int} {k : Nat} {u : Int} (hk : k ≤ 1) (hZ : Cz l E base yX9_entryDistance cX9_entryDistance 2 (some .int) (.ref (ad 0) :: [ii_v v0]) ad f (nb, nr, vL, vD) (nb2, nr2, vL, vD) (oX ["java/lang/IndexOutOfBoundsException"] k u) a2 TS2) : ab_MH l E base yL_entryDistance cL_entryDistance 4 (some .int) [(0, 9, 12, 44)] 14 4 150 [.ref (ad 0), ii_v v0, .ref (ad 90)] ab_x4 ad (f, nb, nr, vL, vD) (zq ad f (nb2, nr2, (if k = 0 then (ii_n u).toInt64 else vL), vD) (.inl (some (ii_v (k : Int)))) a2 TS2) := by
  obtain ⟨d1, mc1, ms1, Post, hd, hM, hP⟩ := hZ
  refine ab_ofH RL [(0, .ref (ad 0)), (1, ii_v v0), (2, .ref (ad 90))] hl (by decide) rfl (Nat.le_of_ble_eq_true rfl) rfl ?_
  intro p e s m args below meth c C T hN
  refine a_aload_n C dL_entryDistance_0 rfl ?_
  refine a_iconst C dL_entryDistance_1 ?_
  refine a_aload_n C dL_entryDistance_2 rfl ?_
  refine a_iload_n C dL_entryDistance_3 rfl ?_
  refine a_callV (o := 0) (As := [ii_v v0]) C hM co_X9_entryDistance in_X9 ml_L_131 im_X9_entryDistance se_X9_entryDistance rfl rfl ar_X9_entryDistance ⟨by omega, by decide, by omega, by omega⟩ rfl (Nat.le_of_ble_eq_true rfl) dL_entryDistance_4 ?_ ?_
  · intro v x1 ad1 z1 hp
    obtain ⟨h1, h2, h3, h4, h5, h6⟩ := hP _ _ _ _ hp
    obtain ⟨rfl, rfl⟩ := oX_l h3
    obtain ⟨g, w9⟩ := z1
    cases h2
    subst h1
    dsimp only at h4 h5
    rw [← h6 90 (by decide)]
    refine a_i2l C dL_entryDistance_7 ?_
    refine a_last C dL_entryDistance_8 ?_
    refine a_goto (tgt := 15) C dL_entryDistance_9 rfl ?_
    refine a_iconst C dL_entryDistance_15 ?_
    exact a_iret C ⟨rfl, rfl, rfl, h4, h5, h6⟩ (by omega) (by omega) dL_entryDistance_16
  · intro X x1 ad1 z1 hp
    obtain ⟨h1, h2, h3, h4, h5, h6⟩ := hP _ _ _ _ hp
    obtain ⟨hk0, rfl⟩ := oX_r h3
    obtain ⟨g, w9⟩ := z1
    cases h2
    subst h1
    dsimp only at h4 h5
    rcases (show k = 1 by omega) with rfl
    · refine a_catch (hp := 12) (name := "java/lang/IndexOutOfBoundsException") C [] ⟨0, 9, 12, 44⟩ [] (T.trans rfl) (fun q hq => (nomatch hq)) (by decide) (by decide) cl_L_44 ca_959 rfl (fun q => ?_)
      refine a_astore_n (L' := [(0, .ref (ad 0)), (1, ii_v v0), (2, .ref (ad 90)), (3, .ref q)]) C dL_entryDistance_12 (by decide) rfl ?_
      refine a_iconst C dL_entryDistance_13 ?_
      exact a_iret C ⟨rfl, rfl, rfl, h4, h5, h6⟩ (by omega) (by omega) dL_entryDistance_14
theorem w_worstRide {l : Launch} {E : ab_E} {base : Nat} (hl : l.stackTraces = false) {ad : Nat → Nat} {f a2 : Nat → Nat → Int} {TS2 : Nat → List Nat} {nb nr nb2 nr2 : Nat} {vL : Int64} {vD : UInt64} {k : Nat} {u : Int} (hk : k ≤ 1) (hZ : Cz l E base yX9_worstRide cX9_worstRide 4 (some .int) (.ref (ad 0) :: []) ad f (nb, nr, vL, vD) (nb2, nr2, vL, vD) (oX ["java/util/NoSuchElementException"] k u) a2 TS2) : ab_MH l E base yL_worstRide cL_worstRide 3 (some .int) [(0, 8, 11, 33)] 14 4 150 [.ref (ad 0), .ref (ad 90)] ab_x4 ad (f, nb, nr, vL, vD) (zq ad f (nb2, nr2, (if k = 0 then (ii_n u).toInt64 else vL), vD) (.inl (some (ii_v (k : Int)))) a2 TS2) := by
  obtain ⟨d1, mc1, ms1, Post, hd, hM, hP⟩ := hZ
  refine ab_ofH RL [(0, .ref (ad 0)), (1, .ref (ad 90))] hl (by decide) rfl (Nat.le_of_ble_eq_true rfl) rfl ?_
  intro p e s m args below meth c C T hN
  refine a_aload_n C dL_worstRide_0 rfl ?_
  refine a_iconst C dL_worstRide_1 ?_
  refine a_aload_n C dL_worstRide_2 rfl ?_
  refine a_callV (o := 0) (As := []) C hM co_X9_worstRide in_X9 ml_L_134 im_X9_worstRide se_X9_worstRide rfl rfl ar_X9_worstRide ⟨by omega, by decide, by omega, by omega⟩ rfl (Nat.le_of_ble_eq_true rfl) dL_worstRide_3 ?_ ?_
  · intro v x1 ad1 z1 hp
    obtain ⟨h1, h2, h3, h4, h5, h6⟩ := hP _ _ _ _ hp
    obtain ⟨rfl, rfl⟩ := oX_l h3
    obtain ⟨g, w9⟩ := z1
    cases h2
    subst h1
    dsimp only at h4 h5
    rw [← h6 90 (by decide)]
    refine a_i2l C dL_worstRide_6 ?_
    refine a_last C dL_worstRide_7 ?_
    refine a_goto (tgt := 14) C dL_worstRide_8 rfl ?_
    refine a_iconst C dL_worstRide_14 ?_
    exact a_iret C ⟨rfl, rfl, rfl, h4, h5, h6⟩ (by omega) (by omega) dL_worstRide_15
  · intro X x1 ad1 z1 hp
    obtain ⟨h1, h2, h3, h4, h5, h6⟩ := hP _ _ _ _ hp
    obtain ⟨hk0, rfl⟩ := oX_r h3
    obtain ⟨g, w9⟩ := z1
    cases h2
    subst h1
    dsimp only at h4 h5
    rcases (show k = 1 by omega) with rfl
    · refine a_catch (hp := 11) (name := "java/util/NoSuchElementException") C [] ⟨0, 8, 11, 33⟩ [] (T.trans rfl) (fun q hq => (nomatch hq)) (by decide) (by decide) cl_L_33 ca_917 rfl (fun q => ?_)
      refine a_astore_n (L' := [(0, .ref (ad 0)), (1, .ref (ad 90)), (2, .ref q)]) C dL_worstRide_11 (by decide) rfl ?_
      refine a_iconst C dL_worstRide_12 ?_
      exact a_iret C ⟨rfl, rfl, rfl, h4, h5, h6⟩ (by omega) (by omega) dL_worstRide_13
