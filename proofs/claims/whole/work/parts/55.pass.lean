/-! Minutes that pass; occupancy. -/
section FL
variable {p : Program} {l : Launch} {e : Env} {R : Room} {s : State} {m : MethodId} {args : Array Value} {below : List Frame} {meth : Method} {c : Code} {E : ab_E} {base nL : Nat} {Q : State → Prop}
variable {own : String} {cc : ByteArray} {ret : Option FieldType} {x : ab_X} {ad : Nat → Nat} {z : ab_H} {k n pc mc ms : Nat} {L : List (Nat × Value)} {st : List Value} {Post : ab_P}
theorem a_i2f {a : Int} (C : ab_C p l s m args meth c E base nL own cc ret) (d : decode cc pc = .ok (.i2f, 1)) (K : ab_W p l e R s m args below meth c E base nL Q x ad z k n (pc + 1) L (.float (FP.i2f (ii_n a)) :: st)) : ab_W p l e R s m args below meth c E base nL Q x ad z k n pc L (ii_v a :: st) :=
  fun H lo ls h1 h2 h3 => lv_i2f C.1 C.2.1 d (K H lo ls h1 h2 h3)
theorem a_fdiv {a b : UInt32} (C : ab_C p l s m args meth c E base nL own cc ret) (hn : vf_n32 (FP.fdiv a b)) (d : decode cc pc = .ok (.fdiv, 1)) (K : ab_W p l e R s m args below meth c E base nL Q x ad z k n (pc + 1) L (.float (FP.fdiv a b) :: st)) : ab_W p l e R s m args below meth c E base nL Q x ad z k n pc L (.float b :: .float a :: st) :=
  fun H lo ls h1 h2 h3 => lv_fdiv C.1 C.2.1 d hn (K H lo ls h1 h2 h3)
theorem a_fret {v : UInt32} (C : ab_C p l s m args meth c E base nL own cc (some .float)) (hP : Post (.inl (some (.float v))) x ad z) (hk : k ≤ mc) (hn : n ≤ ms) (d : decode cc pc = .ok (.freturn, 1)) : ab_W p l e R s m args below meth c E base nL (ab_Q below E base Post args s mc ms) x ad z k n pc L [.float v] :=
  fun H lo ls h1 h2 h3 => vx_ret (W.widen hk hn (W.fret C.1 C.2.1 C.2.2.1 (ab_end hP h1 h2) h2.2.2 d C.2.2.2.2.2.2.1))
end FL
/-- what a minute of the model's bus b wants -/
def mi_H (g v : Nat → Nat → Int) (n b : Nat) (S : List Nat) : Prop := pj_C g v ∧ pk_B g b ∧ -900 ≤ g 43 b ∧ (0 ≤ g 42 b ∧ g 42 b ≤ 1000) ∧ g 40 30 = (n : Int) ∧ n ≤ 30 ∧ (∀ r, r < n → (0 ≤ g 57 r ∧ g 57 r ≤ 6) ∧ st_ok (g 63 r) ∧ -1 ≤ g 60 r ∧ g 60 r ≤ 10) ∧ mt_I g b S ∧ S.length ≤ 6 ∧ (∀ j, j < S.length → S.getD j 0 / 2 ≤ 30) ∧ du_n v (g 44 b) (g 45 b) S = 0 ∧ ∃ e0 : Nat, g 40 31 = (e0 : Int) ∧ e0 + S.length ≤ 60
abbrev mi_d (g v : Nat → Nat → Int) (n b : Nat) (S : List Nat) : Nat := du_n v (sm_T g v n b S 44 b) (sm_T g v n b S 45 b) S
/-- and what it leaves -/
def mi_P (g v : Nat → Nat → Int) (n b : Nat) (S : List Nat) (g2 : Nat → Nat → Int) : Prop := mt_I g2 b (S.drop (mi_d g v n b S)) ∧ (∀ o2, o2 ≠ 51 → o2 ≠ 52 → g2 o2 = mm_D (sm_T g v n b S) b (S.take (mi_d g v n b S)) o2) ∧ (∀ i, i ≠ b → g2 51 i = g 51 i) ∧ ∀ i, i < 8 * b ∨ 8 * b + 8 ≤ i → g2 52 i = g 52 i
/-- what a minute of the bus b wants -/
def ci_H (g v : Nat → Nat → Int) (nr b : Nat) (S : List Nat) : Prop := pe_C g v nr ∧ pb_B g (200 + b) ∧ ts_I g (200 + b + 10) S ∧ (∀ j, j < S.length → S.getD j 0 / 2 ≤ nr) ∧ (0 ≤ g (200 + b) 2 ∧ g (200 + b) 2 ≤ 1000) ∧ pb_B (sp_T g v b S) (200 + b) ∧ ∃ n : Nat, g 4 4 = (n : Int) ∧ n + S.length ≤ 60
abbrev ci_d (g v : Nat → Nat → Int) (b : Nat) (S : List Nat) : Nat := du_n v (sp_T g v b S (200 + b) 6) (sp_T g v b S (200 + b) 7) S
/-- and what it leaves -/
def ci_P (g v : Nat → Nat → Int) (b : Nat) (S : List Nat) (g2 : Nat → Nat → Int) : Prop := ts_I g2 (200 + b + 10) (S.drop (ci_d g v b S)) ∧ ∀ o2, o2 ≠ 200 + b + 10 → o2 ≠ 200 + b + 10 + 10 → g2 o2 = md_T (sp_T g v b S) b (S.take (ci_d g v b S)) o2
theorem dr_row {f : Nat → Nat → Int} {o o2 : Nat} {x y : Int} (h : o2 ≠ o) : dr_T f o x y o2 = f o2 := by
  have h1 : dr_1 f o x y o2 = f o2 := by
    unfold dr_1
    split <;> exact ii_up_row _ _ h
  unfold dr_T
  split
  · rw [ii_up_row _ _ h, ii_up_row _ _ h, ii_up_row _ _ h, ii_up_row _ _ h, h1]
  · rw [ii_up_row _ _ h, ii_up_row _ _ h, ii_up_row _ _ h, h1]
theorem sp_row {f v : Nat → Nat → Int} {b o : Nat} {S : List Nat} (h : o ≠ 200 + b) : sp_T f v b S o = f o := by
  unfold sp_T
  split
  · split
    · exact dr_row h
    · exact ii_up_row _ _ h
  · exact dr_row h
set_option maxRecDepth 20000 in
set_option maxHeartbeats 2000000 in
theorem c_occupancy {l : Launch} {E : ab_E} {base : Nat} (hl : l.stackTraces = false) {ad : Nat → Nat} (f : Nat → Nat → Int) (w : Nat × Nat × Int64 × UInt64) {b : Nat} (hb : b < w.1) (h4 : w.1 ≤ 4) (hd : 0 < f (200 + b) 10 ∧ f (200 + b) 10 ≤ 1000000) (hN : vf_n32 (FP.fdiv (FP.i2f (ii_n (f (200 + b) 12))) (FP.i2f (ii_n (f (200 + b) 10))))) : ab_M l E base yX9_occupancy cX9_occupancy 3 (some .float) 8 0 0 [.ref (ad 0), ii_v ((b : Nat) : Int)] ab_x4 ad (f, w) (ab_R (.float (FP.fdiv (FP.i2f (ii_n (f (200 + b) 12))) (FP.i2f (ii_n (f (200 + b) 10))))) ab_x4 ad (f, w)) := by
  obtain ⟨Post, hPost⟩ : ∃ P : ab_P, P = (ab_R (.float (FP.fdiv (FP.i2f (ii_n (f (200 + b) 12))) (FP.i2f (ii_n (f (200 + b) 10))))) ab_x4 ad (f, w)) := ⟨_, rfl⟩
  rw [← hPost]
  refine ab_of RX9 [(0, .ref (ad 0)), (1, ii_v ((b : Nat) : Int))] hl (by decide) rfl (Nat.le_of_ble_eq_true rfl) rfl ?_
  intro p e s m args below meth c C T0 hnm
  refine a_aload_n C dX9_occupancy_0 rfl ?_
  refine a_iload_n C dX9_occupancy_1 rfl ?_
  refine a_callV (o := 0) (As := [ii_v ((b : Nat) : Int)]) C (c_keptBus hl f w hb h4) co_X9_keptBus in_X9 ml_X9_182 im_X9_keptBus se_X9_keptBus rfl rfl ar_X9_keptBus ⟨by decide, by decide, by decide, by decide⟩ rfl (Nat.le_of_ble_eq_true rfl) dX9_occupancy_2 (a_dR ?_) a_nR
  refine a_astore_n (L' := [(0, .ref (ad 0)), (1, ii_v ((b : Nat) : Int)), (2, .ref (ad (200 + b)))]) C dX9_occupancy_5 (by decide) rfl ?_
  refine a_aload_n C dX9_occupancy_6 rfl ?_
  refine a_getN (ci := 2) (i := 10) (v := ii_v (f (200 + b) 10)) C iw_X1 rfl (by decide) rfl fn_X9_269 (ob_bus hb h4) rfl dX9_occupancy_7 ?_
  refine a_if_gt (tgt := 24) C dX9_occupancy_10 rfl (by unfold ii_B; omega) (fun h10 => ?_) (fun h10 => ?_)
  · skip
    refine a_aload_n C dX9_occupancy_24 rfl ?_
    refine a_getN (ci := 2) (i := 12) (v := ii_v (f (200 + b) 12)) C iw_X1 rfl (by decide) rfl fn_X9_284 (ob_bus hb h4) rfl dX9_occupancy_25 ?_
    refine a_i2f C dX9_occupancy_28 ?_
    refine a_aload_n C dX9_occupancy_29 rfl ?_
    refine a_getN (ci := 2) (i := 10) (v := ii_v (f (200 + b) 10)) C iw_X1 rfl (by decide) rfl fn_X9_269 (ob_bus hb h4) rfl dX9_occupancy_30 ?_
    refine a_i2f C dX9_occupancy_33 ?_
    refine a_fdiv C hN dX9_occupancy_34 ?_
    refine a_fret C ?_ (by decide) (by decide) dX9_occupancy_35
    rw [hPost]
    exact ⟨rfl, rfl, rfl, rfl⟩
  · skip
    omega
set_option maxRecDepth 20000 in
set_option maxHeartbeats 2000000 in
theorem x_occupancy {l : Launch} {E : ab_E} {base : Nat} (hl : l.stackTraces = false) {ad : Nat → Nat} (f : Nat → Nat → Int) (w : Nat × Nat × Int64 × UInt64) (h4 : w.1 ≤ 4) (i : Int) (zi : -2147483648 ≤ i ∧ i < 2147483648) (h : i < 0 ∨ (w.1 : Int) ≤ i)  : ab_M l E base yX9_occupancy cX9_occupancy 3 (some .float) 8 1 6 [.ref (ad 0), ii_v i] ab_x4 ad (f, w) (ab_T "java/lang/IndexOutOfBoundsException" ab_x4 ad (f, w)) := by
  obtain ⟨Post, hPost⟩ : ∃ P : ab_P, P = (ab_T "java/lang/IndexOutOfBoundsException" ab_x4 ad (f, w)) := ⟨_, rfl⟩
  rw [← hPost]
  refine ab_of RX9 [(0, .ref (ad 0)), (1, ii_v i)] hl (by decide) rfl (Nat.le_of_ble_eq_true rfl) rfl ?_
  intro p e s m args below meth c C T0 hnm
  refine a_aload_n C dX9_occupancy_0 rfl ?_
  refine a_iload_n C dX9_occupancy_1 rfl ?_
  refine a_callV (o := 0) (As := [ii_v i]) C (x_keptBus hl f w h4 i zi h) co_X9_keptBus in_X9 ml_X9_182 im_X9_keptBus se_X9_keptBus rfl rfl ar_X9_keptBus ⟨by decide, by decide, by decide, by decide⟩ rfl (Nat.le_of_ble_eq_true rfl) dX9_occupancy_2 a_nT (a_dT ?_)
  refine a_out C T0 ?_ (by decide) (by decide)
  rw [hPost]
  exact ⟨rfl, rfl, rfl, rfl⟩
set_option maxRecDepth 20000 in
set_option maxHeartbeats 2000000 in
theorem x2_occupancy {l : Launch} {E : ab_E} {base : Nat} (hl : l.stackTraces = false) {ad : Nat → Nat} (f : Nat → Nat → Int) (w : Nat × Nat × Int64 × UInt64) {b : Nat} (hb : b < w.1) (h4 : w.1 ≤ 4) (hd : f (200 + b) 10 = 0) : ab_M l E base yX9_occupancy cX9_occupancy 3 (some .float) 8 1 6 [.ref (ad 0), ii_v ((b : Nat) : Int)] ab_x4 ad (f, w) (ab_T "java/util/NoSuchElementException" ab_x4 ad (f, w)) := by
  obtain ⟨Post, hPost⟩ : ∃ P : ab_P, P = (ab_T "java/util/NoSuchElementException" ab_x4 ad (f, w)) := ⟨_, rfl⟩
  rw [← hPost]
  refine ab_of RX9 [(0, .ref (ad 0)), (1, ii_v ((b : Nat) : Int))] hl (by decide) rfl (Nat.le_of_ble_eq_true rfl) rfl ?_
  intro p e s m args below meth c C T0 hnm
  refine a_aload_n C dX9_occupancy_0 rfl ?_
  refine a_iload_n C dX9_occupancy_1 rfl ?_
  refine a_callV (o := 0) (As := [ii_v ((b : Nat) : Int)]) C (c_keptBus hl f w hb h4) co_X9_keptBus in_X9 ml_X9_182 im_X9_keptBus se_X9_keptBus rfl rfl ar_X9_keptBus ⟨by decide, by decide, by decide, by decide⟩ rfl (Nat.le_of_ble_eq_true rfl) dX9_occupancy_2 (a_dR ?_) a_nR
  refine a_astore_n (L' := [(0, .ref (ad 0)), (1, ii_v ((b : Nat) : Int)), (2, .ref (ad (200 + b)))]) C dX9_occupancy_5 (by decide) rfl ?_
  refine a_aload_n C dX9_occupancy_6 rfl ?_
  refine a_getN (ci := 2) (i := 10) (v := ii_v (f (200 + b) 10)) C iw_X1 rfl (by decide) rfl fn_X9_269 (ob_bus hb h4) rfl dX9_occupancy_7 ?_
  refine a_if_gt (tgt := 24) C dX9_occupancy_10 rfl (by unfold ii_B; omega) (fun h10 => ?_) (fun h10 => ?_)
  · skip
    omega
  · skip
    refine a_throwN (is := 281) (text := "the bus has not driven") C T0 (by decide) dX9_occupancy_13 dX9_occupancy_16 dX9_occupancy_17 dX9_occupancy_20 dX9_occupancy_23 ?_ ⟨by decide, by decide, by decide⟩ (Nat.le_of_ble_eq_true rfl)
    rw [hPost]
    exact ⟨rfl, rfl, rfl, rfl⟩
set_option maxRecDepth 20000 in
set_option maxHeartbeats 2000000 in
theorem m_occupancy {l : Launch} {E : ab_E} {base : Nat} (hl : l.stackTraces = false) {ad : Nat → Nat} (f : Nat → Nat → Int) (w : Nat × Nat × Int64 × UInt64) (b : Nat) (hb : (b : Int) < f 40 29) (hm : 0 ≤ f 40 29 ∧ f 40 29 ≤ 4) (hd : 0 < f 48 b ∧ f 48 b ≤ 1000000) (hN : vf_n32 (FP.fdiv (FP.i2f (ii_n (f 50 b))) (FP.i2f (ii_n (f 48 b))))) : ab_M l E base yX10_occupancy cX10_occupancy 2 (some .float) 3 0 0 [.ref (ad 40), ii_v ((b : Nat) : Int)] ab_x4 ad (f, w) (ab_R (.float (FP.fdiv (FP.i2f (ii_n (f 50 b))) (FP.i2f (ii_n (f 48 b))))) ab_x4 ad (ii_up f 40 0 0, w)) := by
  obtain ⟨Post, hPost⟩ : ∃ P : ab_P, P = (ab_R (.float (FP.fdiv (FP.i2f (ii_n (f 50 b))) (FP.i2f (ii_n (f 48 b))))) ab_x4 ad (ii_up f 40 0 0, w)) := ⟨_, rfl⟩
  rw [← hPost]
  refine ab_of RX10 [(0, .ref (ad 40)), (1, ii_v ((b : Nat) : Int))] hl (by decide) rfl (Nat.le_of_ble_eq_true rfl) rfl ?_
  intro p e s m args below meth c C T0 hnm
  have hb4 : b < 4 := by omega
  refine a_aload_n C dX10_occupancy_0 rfl ?_
  refine a_iconst C dX10_occupancy_1 ?_
  refine a_put (ci := 11) (i := 0) C iw_X10 rfl (by decide) rfl tyX10 tyX10_ok nmX10 rfl rfl fl_X10_114 rfl rfl rfl rfl dX10_occupancy_2 ?_
  obtain ⟨g1, eg1⟩ : ∃ F : Nat → Nat → Int, F = ii_up f 40 0 0 := ⟨_, rfl⟩
  rw [← eg1]
  refine a_aload_n C dX10_occupancy_5 rfl ?_
  refine a_iload_n C dX10_occupancy_6 rfl ?_
  refine a_callV (o := 40) (As := [ii_v ((b : Nat) : Int)]) C (m_isBus hl g1 w ((b : Nat) : Int) (by omega) (by rw [show g1 40 29 = f 40 29 from by rw [eg1]; exact ii_up_k _ _ (by decide)]; omega)) co_X10_isBus in_X10 ml_X10_235 im_X10_isBus se_X10_isBus rfl rfl ar_X10_isBus ⟨by decide, by decide, by decide, by decide⟩ rfl (Nat.le_of_ble_eq_true rfl) dX10_occupancy_7 (a_dR ?_) a_nR
  rw [show g1 40 29 = f 40 29 from by rw [eg1]; exact ii_up_k _ _ (by decide)]
  refine a_bif_ne (tgt := 20) C dX10_occupancy_10 rfl (fun h10 => ?_) (fun h10 => ?_)
  · skip
    refine a_aload_n C dX10_occupancy_20 rfl ?_
    refine a_get (ci := 11) (i := 8) (v := .ref (ad 48)) C iw_X10 rfl (by decide) rfl fl_X10_31 rfl rfl dX10_occupancy_21 ?_
    refine a_iload_n C dX10_occupancy_24 rfl ?_
    refine a_iald (o := 48) (N := 4) b C dX10_occupancy_25 rfl (by omega) (by omega) (by decide) ?_
    refine a_top (w := ii_v (g1 48 b)) rfl ?_
    refine a_top (w := ii_v (f 48 b)) (congrArg (fun q => ii_v q) (show g1 48 b = (f 48 b) by rw [eg1, ii_up_o _ _ _ (by omega)])) ?_
    refine a_if_ne (tgt := 36) C dX10_occupancy_26 rfl (by unfold ii_B; omega) (fun h26 => ?_) (fun h26 => ?_)
    · skip
      refine a_aload_n C dX10_occupancy_36 rfl ?_
      refine a_get (ci := 11) (i := 10) (v := .ref (ad 50)) C iw_X10 rfl (by decide) rfl fl_X10_37 rfl rfl dX10_occupancy_37 ?_
      refine a_iload_n C dX10_occupancy_40 rfl ?_
      refine a_iald (o := 50) (N := 4) b C dX10_occupancy_41 rfl (by omega) (by omega) (by decide) ?_
      refine a_top (w := ii_v (g1 50 b)) rfl ?_
      refine a_top (w := ii_v (f 50 b)) (congrArg (fun q => ii_v q) (show g1 50 b = (f 50 b) by rw [eg1, ii_up_o _ _ _ (by omega)])) ?_
      refine a_i2f C dX10_occupancy_42 ?_
      refine a_aload_n C dX10_occupancy_43 rfl ?_
      refine a_get (ci := 11) (i := 8) (v := .ref (ad 48)) C iw_X10 rfl (by decide) rfl fl_X10_31 rfl rfl dX10_occupancy_44 ?_
      refine a_iload_n C dX10_occupancy_47 rfl ?_
      refine a_iald (o := 48) (N := 4) b C dX10_occupancy_48 rfl (by omega) (by omega) (by decide) ?_
      refine a_top (w := ii_v (g1 48 b)) rfl ?_
      refine a_top (w := ii_v (f 48 b)) (congrArg (fun q => ii_v q) (show g1 48 b = (f 48 b) by rw [eg1, ii_up_o _ _ _ (by omega)])) ?_
      refine a_i2f C dX10_occupancy_49 ?_
      refine a_fdiv C hN dX10_occupancy_50 ?_
      refine a_fret C ?_ (by decide) (by decide) dX10_occupancy_51
      rw [hPost]
      subst eg1
      exact ⟨rfl, rfl, rfl, rfl⟩
    · skip
      omega
  · skip
    omega
set_option maxRecDepth 20000 in
set_option maxHeartbeats 2000000 in
theorem n2_occupancy {l : Launch} {E : ab_E} {base : Nat} (hl : l.stackTraces = false) {ad : Nat → Nat} (f : Nat → Nat → Int) (w : Nat × Nat × Int64 × UInt64) (b : Nat) (hb : (b : Int) < f 40 29) (hm : 0 ≤ f 40 29 ∧ f 40 29 ≤ 4) (hd : f 48 b = 0) : ab_M l E base yX10_occupancy cX10_occupancy 2 (some .float) 3 0 0 [.ref (ad 40), ii_v ((b : Nat) : Int)] ab_x4 ad (f, w) (ab_R (.float (FP.i2f (ii_n 0))) ab_x4 ad (ii_up f 40 0 2, w)) := by
  obtain ⟨Post, hPost⟩ : ∃ P : ab_P, P = (ab_R (.float (FP.i2f (ii_n 0))) ab_x4 ad (ii_up f 40 0 2, w)) := ⟨_, rfl⟩
  rw [← hPost]
  refine ab_of RX10 [(0, .ref (ad 40)), (1, ii_v ((b : Nat) : Int))] hl (by decide) rfl (Nat.le_of_ble_eq_true rfl) rfl ?_
  intro p e s m args below meth c C T0 hnm
  have hb4 : b < 4 := by omega
  refine a_aload_n C dX10_occupancy_0 rfl ?_
  refine a_iconst C dX10_occupancy_1 ?_
  refine a_put (ci := 11) (i := 0) C iw_X10 rfl (by decide) rfl tyX10 tyX10_ok nmX10 rfl rfl fl_X10_114 rfl rfl rfl rfl dX10_occupancy_2 ?_
  obtain ⟨g1, eg1⟩ : ∃ F : Nat → Nat → Int, F = ii_up f 40 0 0 := ⟨_, rfl⟩
  rw [← eg1]
  refine a_aload_n C dX10_occupancy_5 rfl ?_
  refine a_iload_n C dX10_occupancy_6 rfl ?_
  refine a_callV (o := 40) (As := [ii_v ((b : Nat) : Int)]) C (m_isBus hl g1 w ((b : Nat) : Int) (by omega) (by rw [show g1 40 29 = f 40 29 from by rw [eg1]; exact ii_up_k _ _ (by decide)]; omega)) co_X10_isBus in_X10 ml_X10_235 im_X10_isBus se_X10_isBus rfl rfl ar_X10_isBus ⟨by decide, by decide, by decide, by decide⟩ rfl (Nat.le_of_ble_eq_true rfl) dX10_occupancy_7 (a_dR ?_) a_nR
  rw [show g1 40 29 = f 40 29 from by rw [eg1]; exact ii_up_k _ _ (by decide)]
  refine a_bif_ne (tgt := 20) C dX10_occupancy_10 rfl (fun h10 => ?_) (fun h10 => ?_)
  · skip
    refine a_aload_n C dX10_occupancy_20 rfl ?_
    refine a_get (ci := 11) (i := 8) (v := .ref (ad 48)) C iw_X10 rfl (by decide) rfl fl_X10_31 rfl rfl dX10_occupancy_21 ?_
    refine a_iload_n C dX10_occupancy_24 rfl ?_
    refine a_iald (o := 48) (N := 4) b C dX10_occupancy_25 rfl (by omega) (by omega) (by decide) ?_
    refine a_top (w := ii_v (g1 48 b)) rfl ?_
    refine a_top (w := ii_v (f 48 b)) (congrArg (fun q => ii_v q) (show g1 48 b = (f 48 b) by rw [eg1, ii_up_o _ _ _ (by omega)])) ?_
    refine a_if_ne (tgt := 36) C dX10_occupancy_26 rfl (by unfold ii_B; omega) (fun h26 => ?_) (fun h26 => ?_)
    · skip
      omega
    · skip
      refine a_aload_n C dX10_occupancy_29 rfl ?_
      refine a_iconst C dX10_occupancy_30 ?_
      refine a_callV (o := 40) (As := [ii_v 2]) C (m_fails hl g1 w 2) co_X10_fails in_X10 ml_X10_127 im_X10_fails se_X10_fails rfl rfl ar_X10_fails ⟨by decide, by decide, by decide, by decide⟩ rfl (Nat.le_of_ble_eq_true rfl) dX10_occupancy_31 (a_dR ?_) a_nR
      obtain ⟨g2, eg2⟩ : ∃ F : Nat → Nat → Int, F = ii_up g1 40 0 2 := ⟨_, rfl⟩
      rw [← eg2]
      refine a_i2f C dX10_occupancy_34 ?_
      refine a_fret C ?_ (by decide) (by decide) dX10_occupancy_35
      rw [hPost]
      subst eg2 eg1
      exact ⟨rfl, rfl, rfl, by first | rfl | rw [ii_up_up]⟩
  · skip
    omega
set_option maxRecDepth 20000 in
set_option maxHeartbeats 2000000 in
theorem n_occupancy {l : Launch} {E : ab_E} {base : Nat} (hl : l.stackTraces = false) {ad : Nat → Nat} (f : Nat → Nat → Int) (w : Nat × Nat × Int64 × UInt64) (i : Int) (zi : -2147483648 ≤ i ∧ i < 2147483648) (h : ¬ (0 ≤ i ∧ i < f 40 29)) (hm : 0 ≤ f 40 29 ∧ f 40 29 ≤ 4)  : ab_M l E base yX10_occupancy cX10_occupancy 2 (some .float) 3 0 0 [.ref (ad 40), ii_v i] ab_x4 ad (f, w) (ab_R (.float (FP.i2f (ii_n 0))) ab_x4 ad (ii_up f 40 0 1, w)) := by
  obtain ⟨Post, hPost⟩ : ∃ P : ab_P, P = (ab_R (.float (FP.i2f (ii_n 0))) ab_x4 ad (ii_up f 40 0 1, w)) := ⟨_, rfl⟩
  rw [← hPost]
  refine ab_of RX10 [(0, .ref (ad 40)), (1, ii_v i)] hl (by decide) rfl (Nat.le_of_ble_eq_true rfl) rfl ?_
  intro p e s m args below meth c C T0 hnm
  refine a_aload_n C dX10_occupancy_0 rfl ?_
  refine a_iconst C dX10_occupancy_1 ?_
  refine a_put (ci := 11) (i := 0) C iw_X10 rfl (by decide) rfl tyX10 tyX10_ok nmX10 rfl rfl fl_X10_114 rfl rfl rfl rfl dX10_occupancy_2 ?_
  obtain ⟨g1, eg1⟩ : ∃ F : Nat → Nat → Int, F = ii_up f 40 0 0 := ⟨_, rfl⟩
  rw [← eg1]
  refine a_aload_n C dX10_occupancy_5 rfl ?_
  refine a_iload_n C dX10_occupancy_6 rfl ?_
  refine a_callV (o := 40) (As := [ii_v i]) C (m_isBus hl g1 w i (by omega) (by rw [show g1 40 29 = f 40 29 from by rw [eg1]; exact ii_up_k _ _ (by decide)]; omega)) co_X10_isBus in_X10 ml_X10_235 im_X10_isBus se_X10_isBus rfl rfl ar_X10_isBus ⟨by decide, by decide, by decide, by decide⟩ rfl (Nat.le_of_ble_eq_true rfl) dX10_occupancy_7 (a_dR ?_) a_nR
  rw [show g1 40 29 = f 40 29 from by rw [eg1]; exact ii_up_k _ _ (by decide)]
  refine a_bif_ne (tgt := 20) C dX10_occupancy_10 rfl (fun h10 => ?_) (fun h10 => ?_)
  · skip
    omega
  · skip
    refine a_aload_n C dX10_occupancy_13 rfl ?_
    refine a_iconst C dX10_occupancy_14 ?_
    refine a_callV (o := 40) (As := [ii_v 1]) C (m_fails hl g1 w 1) co_X10_fails in_X10 ml_X10_127 im_X10_fails se_X10_fails rfl rfl ar_X10_fails ⟨by decide, by decide, by decide, by decide⟩ rfl (Nat.le_of_ble_eq_true rfl) dX10_occupancy_15 (a_dR ?_) a_nR
    obtain ⟨g2, eg2⟩ : ∃ F : Nat → Nat → Int, F = ii_up g1 40 0 1 := ⟨_, rfl⟩
    rw [← eg2]
    refine a_i2f C dX10_occupancy_18 ?_
    refine a_fret C ?_ (by decide) (by decide) dX10_occupancy_19
    rw [hPost]
    subst eg2 eg1
    exact ⟨rfl, rfl, rfl, by first | rfl | rw [ii_up_up]⟩
set_option maxRecDepth 20000 in
set_option maxHeartbeats 2000000 in
theorem m_pass {l : Launch} {E : ab_E} {base : Nat} (hl : l.stackTraces = false) {ad : Nat → Nat} (f : Nat → Nat → Int) (w : Nat × Nat × Int64 × UInt64) (mi : Int) (zmi : -2147483648 ≤ mi ∧ mi < 2147483648) (h : 1 ≤ mi ∧ mi ≤ 60) (nb : Nat) (hnb4 : nb ≤ 4) (J : Nat → Nat → Int → (Nat → Nat → Int) → Prop) (hnow : 0 ≤ f 40 32 ∧ f 40 32 ≤ 99999) (hJ0 : J 0 0 0 (ii_up (ii_up f 40 0 0) 40 32 (f 40 32 + 1))) (hJb : ∀ k b t g, J k b t g → g 40 29 = (nb : Int) ∧ (0 ≤ g 40 32 ∧ g 40 32 ≤ 99999) ∧ 0 ≤ t ∧ t ≤ 100000) (hJs : ∀ k b t g, b < nb → J k b t g → ∃ v n S, mi_H g v n b S ∧ ∀ g2, mi_P g v n b S g2 → J k (b + 1) (t + ((mi_d g v n b S : Nat) : Int)) g2) (hJn : ∀ (k : Nat) (t : Int) (g : Nat → Nat → Int), (k : Int) + 1 < mi → J k nb t g → J (k + 1) 0 t (ii_up g 40 32 (g 40 32 + 1)))  : ab_M l E base yX10_pass cX10_pass 5 (some .int) 5 0 0 [.ref (ad 40), ii_v mi] ab_x4 ad (f, w) (ab_F ad w (fun ov g => ∃ t, ov = some (ii_v t) ∧ J (mi.toNat - 1) nb t g)) := by
  obtain ⟨Post, hPost⟩ : ∃ P : ab_P, P = (ab_F ad w (fun ov g => ∃ t, ov = some (ii_v t) ∧ J (mi.toNat - 1) nb t g)) := ⟨_, rfl⟩
  rw [← hPost]
  refine ab_of RX10 [(0, .ref (ad 40)), (1, ii_v mi)] hl (by decide) rfl (Nat.le_of_ble_eq_true rfl) rfl ?_
  intro p e s m args below meth c C T0 hnm
  refine a_aload_n C dX10_pass_0 rfl ?_
  refine a_iconst C dX10_pass_1 ?_
  refine a_put (ci := 11) (i := 0) C iw_X10 rfl (by decide) rfl tyX10 tyX10_ok nmX10 rfl rfl fl_X10_114 rfl rfl rfl rfl dX10_pass_2 ?_
  obtain ⟨g1, eg1⟩ : ∃ F : Nat → Nat → Int, F = ii_up f 40 0 0 := ⟨_, rfl⟩
  rw [← eg1]
  refine a_iload_n C dX10_pass_5 rfl ?_
  refine a_iconst C dX10_pass_6 ?_
  refine a_bipush C dX10_pass_7 (by decide) ?_
  refine a_callS (As := [ii_v mi, ii_v 1, ii_v 60]) C (m_isBetween hl g1 w mi 1 60 (by omega) (by omega) (by omega)) co_X10_isBetween in_X10 ml_X10_120 sc_X10_isBetween ar_X10_isBetween ⟨by decide, by decide, by decide, by decide⟩ rfl (Nat.le_of_ble_eq_true rfl) dX10_pass_9 (a_dR ?_) a_nR
  refine a_bif_ne (tgt := 21) C dX10_pass_12 rfl (fun h12 => ?_) (fun h12 => ?_)
  · skip
    refine a_iconst C dX10_pass_21 ?_
    refine a_istore_n (L' := [(0, .ref (ad 40)), (1, ii_v mi), (2, ii_v 0)]) C dX10_pass_22 (by decide) rfl ?_
    refine a_iconst C dX10_pass_23 ?_
    refine a_istore_n (L' := [(0, .ref (ad 40)), (1, ii_v mi), (2, ii_v 0), (3, ii_v 0)]) C dX10_pass_24 (by decide) rfl ?_
    have loop25 : ∀ (NN25 : Nat) (k : Nat) (t : Int) (g : Nat → Nat → Int), mi.toNat - k < NN25 → ((k : Int) ≤ mi) → ((k = 0 ∧ t = 0 ∧ g = ii_up f 40 0 0) ∨ (0 < k ∧ J (k - 1) nb t g)) → ab_W p l e (ab_rm 5 0 0) s m args below meth c E base 5 (ab_Q below E base Post args s 0 0) ab_x4 ad (g, w) 0 0 25 [(0, .ref (ad 40)), (1, ii_v mi), (2, ii_v t), (3, ii_v ((k : Nat) : Int))] [] := by
      intro NN25
      induction NN25 with
      | zero => intro k t g hNN; exact absurd hNN (Nat.not_lt_zero _)
      | succ NN25 ih25 =>
        intro k t g hNN hk hI
        refine a_iload_n C dX10_pass_25 rfl ?_
        refine a_iload_n C dX10_pass_26 rfl ?_
        refine a_icmp_ge (tgt := 73) C dX10_pass_27 rfl (by unfold ii_B; omega) (by unfold ii_B; omega) (fun h27 => ?_) (fun h27 => ?_)
        · skip
          refine a_iload_n C dX10_pass_73 rfl ?_
          refine a_iret C ?_ (by decide) (by decide) dX10_pass_74
          rw [hPost]
          have hke : (k : Int) = mi := by omega
          rcases hI with ⟨rfl, -, -⟩ | ⟨hk0, hj⟩
          · exfalso; omega
          · exact ab_F_of ⟨t, rfl, by rw [show mi.toNat - 1 = k - 1 by omega]; exact hj⟩
        · skip
          have hgn : 0 ≤ g 40 32 ∧ g 40 32 ≤ 99999 := by rcases hI with ⟨_, _, rfl⟩ | ⟨_, hj⟩; exact (show 0 ≤ ii_up f 40 0 0 40 32 ∧ _ by rw [ii_up_k _ _ (by decide)]; exact hnow); exact (hJb _ _ _ _ hj).2.1
          refine a_aload_n C dX10_pass_30 rfl ?_
          refine a_dup C dX10_pass_31 rfl ?_
          refine a_get (ci := 11) (i := 32) (v := ii_v (g 40 32)) C iw_X10 rfl (by decide) rfl fl_X10_157 rfl rfl dX10_pass_32 ?_
          refine a_iconst C dX10_pass_35 ?_
          refine a_iadd C dX10_pass_36 ?_
          refine a_put (ci := 11) (i := 32) C iw_X10 rfl (by decide) rfl tyX10 tyX10_ok nmX10 rfl rfl fl_X10_157 rfl rfl rfl rfl dX10_pass_37 ?_
          obtain ⟨g2, eg2⟩ : ∃ F : Nat → Nat → Int, F = ii_up g 40 32 ((g 40 32) + 1) := ⟨_, rfl⟩
          rw [← eg2]
          refine a_iconst C dX10_pass_40 ?_
          refine a_istore (L' := [(0, .ref (ad 40)), (1, ii_v mi), (2, ii_v t), (3, ii_v ((k : Nat) : Int)), (4, ii_v 0)]) C dX10_pass_41 (by decide) rfl ?_
          have loop43 : ∀ (NN43 : Nat) (b : Nat) (t2 : Int) (g2 : Nat → Nat → Int), nb - b < NN43 → (b ≤ nb) → (J k b t2 g2) → ab_W p l e (ab_rm 5 0 0) s m args below meth c E base 5 (ab_Q below E base Post args s 0 0) ab_x4 ad (g2, w) 0 0 43 [(0, .ref (ad 40)), (1, ii_v mi), (2, ii_v t2), (3, ii_v ((k : Nat) : Int)), (4, ii_v ((b : Nat) : Int))] [] := by
            intro NN43
            induction NN43 with
            | zero => intro b t2 g2 hNN; exact absurd hNN (Nat.not_lt_zero _)
            | succ NN43 ih43 =>
              intro b t2 g2 hNN hbn hJ
              obtain ⟨hB1, hB2, hB3⟩ := hJb _ _ _ _ hJ
              refine a_iload C dX10_pass_43 rfl ?_
              refine a_aload_n C dX10_pass_45 rfl ?_
              refine a_get (ci := 11) (i := 29) (v := ii_v (g2 40 29)) C iw_X10 rfl (by decide) rfl fl_X10_117 rfl rfl dX10_pass_46 ?_
              refine a_top (w := ii_v ((nb : Nat) : Int)) (congrArg (fun q => ii_v q) hB1) ?_
              refine a_icmp_ge (tgt := 67) C dX10_pass_49 rfl (by unfold ii_B; omega) (by unfold ii_B; omega) (fun h49 => ?_) (fun h49 => ?_)
              · skip
                refine a_iinc (L' := [(0, .ref (ad 40)), (1, ii_v mi), (2, ii_v t2), (3, ii_v (((k : Nat) : Int) + 1)), (4, ii_v ((b : Nat) : Int))]) C dX10_pass_67 rfl (by decide) rfl ?_
                refine a_goto (tgt := 25) C dX10_pass_70 rfl ?_
                refine a_pick [0, 1, 2, 3] (L2 := [(0, .ref (ad 40)), (1, ii_v mi), (2, ii_v t2), (3, ii_v (((k : Nat) : Int) + 1))]) rfl ?_
                exact ih25 (k + 1) t2 g2 (by omega) (by omega) (Or.inr ⟨Nat.succ_pos k, by have hbe : b = nb := (by omega); rw [← hbe]; exact hJ⟩)
              · skip
                obtain ⟨v, n, S, hH, hJs2⟩ := hJs k b t2 g2 (by omega) hJ
                obtain ⟨q1, q2, q3, q4, q5, q6, q7, q8, q9, q10, q11, e0, q12, q13⟩ := hH
                refine a_iload_n C dX10_pass_52 rfl ?_
                refine a_aload_n C dX10_pass_53 rfl ?_
                refine a_iload C dX10_pass_54 rfl ?_
                refine a_callV (o := 40) (As := [ii_v ((b : Nat) : Int)]) C (m_minute hl g2 w b (by omega) q1 q2 q3 q4 n q5 q6 q7 q8 q9 q10 q11 ⟨by omega, by omega⟩ e0 q12 q13) co_X10_minute in_X10 ml_X10_269 im_X10_minute se_X10_minute rfl rfl ar_X10_minute ⟨by decide, by decide, by decide, by decide⟩ rfl (Nat.le_of_ble_eq_true rfl) dX10_pass_56 (a_dF ?_) a_nF
                intro vg3 g3 hvg3
                obtain ⟨rfl, hPg3⟩ := hvg3
                have hJ2 := hJs2 g3 hPg3
                refine a_iadd C dX10_pass_59 ?_
                refine a_istore_n (L' := [(0, .ref (ad 40)), (1, ii_v mi), (2, ii_v (t2 + ((mi_d g2 v n b S : Nat) : Int))), (3, ii_v ((k : Nat) : Int)), (4, ii_v ((b : Nat) : Int))]) C dX10_pass_60 (by decide) rfl ?_
                refine a_iinc (L' := [(0, .ref (ad 40)), (1, ii_v mi), (2, ii_v (t2 + ((mi_d g2 v n b S : Nat) : Int))), (3, ii_v ((k : Nat) : Int)), (4, ii_v (((b : Nat) : Int) + 1))]) C dX10_pass_61 rfl (by decide) rfl ?_
                refine a_goto (tgt := 43) C dX10_pass_64 rfl ?_
                exact ih43 (b + 1) (t2 + ((mi_d g2 v n b S : Nat) : Int)) g3 (by omega) (by omega) hJ2
          exact loop43 (_ + 1) 0 t g2 (Nat.lt_succ_self _) (Nat.zero_le _) (by rw [eg2]; rcases hI with ⟨rfl, rfl, rfl⟩ | ⟨hk0, hj⟩; exact (show J 0 0 0 (ii_up (ii_up f 40 0 0) 40 32 (ii_up f 40 0 0 40 32 + 1)) by rw [ii_up_k _ _ (by decide)]; exact hJ0); exact (show k = k - 1 + 1 by omega) ▸ hJn (k - 1) t g (by omega) hj)
    exact loop25 (_ + 1) 0 0 g1 (Nat.lt_succ_self _) (by omega) (Or.inl ⟨rfl, rfl, eg1⟩)
  · skip
    exact absurd h h12
set_option maxRecDepth 20000 in
set_option maxHeartbeats 2000000 in
theorem n_pass {l : Launch} {E : ab_E} {base : Nat} (hl : l.stackTraces = false) {ad : Nat → Nat} (f : Nat → Nat → Int) (w : Nat × Nat × Int64 × UInt64) (mi : Int) (zmi : -2147483648 ≤ mi ∧ mi < 2147483648) (h : ¬ (1 ≤ mi ∧ mi ≤ 60)) : ab_M l E base yX10_pass cX10_pass 5 (some .int) 3 0 0 [.ref (ad 40), ii_v mi] ab_x4 ad (f, w) (ab_R (ii_v (0)) ab_x4 ad (ii_up f 40 0 1, w)) := by
  obtain ⟨Post, hPost⟩ : ∃ P : ab_P, P = (ab_R (ii_v (0)) ab_x4 ad (ii_up f 40 0 1, w)) := ⟨_, rfl⟩
  rw [← hPost]
  refine ab_of RX10 [(0, .ref (ad 40)), (1, ii_v mi)] hl (by decide) rfl (Nat.le_of_ble_eq_true rfl) rfl ?_
  intro p e s m args below meth c C T0 hnm
  refine a_aload_n C dX10_pass_0 rfl ?_
  refine a_iconst C dX10_pass_1 ?_
  refine a_put (ci := 11) (i := 0) C iw_X10 rfl (by decide) rfl tyX10 tyX10_ok nmX10 rfl rfl fl_X10_114 rfl rfl rfl rfl dX10_pass_2 ?_
  obtain ⟨g1, eg1⟩ : ∃ F : Nat → Nat → Int, F = ii_up f 40 0 0 := ⟨_, rfl⟩
  rw [← eg1]
  refine a_iload_n C dX10_pass_5 rfl ?_
  refine a_iconst C dX10_pass_6 ?_
  refine a_bipush C dX10_pass_7 (by decide) ?_
  refine a_callS (As := [ii_v mi, ii_v 1, ii_v 60]) C (m_isBetween hl g1 w mi 1 60 (by omega) (by omega) (by omega)) co_X10_isBetween in_X10 ml_X10_120 sc_X10_isBetween ar_X10_isBetween ⟨by decide, by decide, by decide, by decide⟩ rfl (Nat.le_of_ble_eq_true rfl) dX10_pass_9 (a_dR ?_) a_nR
  refine a_bif_ne (tgt := 21) C dX10_pass_12 rfl (fun h12 => ?_) (fun h12 => ?_)
  · skip
    exact absurd h12 h
  · skip
    refine a_aload_n C dX10_pass_15 rfl ?_
    refine a_iconst C dX10_pass_16 ?_
    refine a_callV (o := 40) (As := [ii_v 1]) C (m_fails hl g1 w 1) co_X10_fails in_X10 ml_X10_127 im_X10_fails se_X10_fails rfl rfl ar_X10_fails ⟨by decide, by decide, by decide, by decide⟩ rfl (Nat.le_of_ble_eq_true rfl) dX10_pass_17 (a_dR ?_) a_nR
    obtain ⟨g2, eg2⟩ : ∃ F : Nat → Nat → Int, F = ii_up g1 40 0 1 := ⟨_, rfl⟩
    rw [← eg2]
    refine a_iret C ?_ (by decide) (by decide) dX10_pass_20
    rw [hPost]
    subst eg2 eg1
    exact ⟨rfl, rfl, rfl, by first | rfl | rw [ii_up_up]⟩
set_option maxRecDepth 20000 in
set_option maxHeartbeats 2000000 in
theorem c_pass {l : Launch} {E : ab_E} {base : Nat} (hl : l.stackTraces = false) {ad : Nat → Nat} (f : Nat → Nat → Int) (w : Nat × Nat × Int64 × UInt64) (mi : Int) (zmi : -2147483648 ≤ mi ∧ mi < 2147483648) (h : 1 ≤ mi ∧ mi ≤ 60) (h4 : w.1 ≤ 4) (hr : w.2.1 ≤ 30) (J : Nat → Nat → Int → (Nat → Nat → Int) → Prop) (hnow : 0 ≤ f 0 6 ∧ f 0 6 ≤ 99999) (hJ0 : J 0 0 0 (ii_up f 0 6 (f 0 6 + 1))) (hJb : ∀ k b t g, J k b t g → (0 ≤ g 0 6 ∧ g 0 6 ≤ 99999) ∧ 0 ≤ t ∧ t ≤ 100000) (hJs : ∀ k b t g, b < w.1 → J k b t g → ∃ v S, ci_H g v w.2.1 b S ∧ ∀ g2, ci_P g v b S g2 → J k (b + 1) (t + ((ci_d g v b S : Nat) : Int)) g2) (hJn : ∀ (k : Nat) (t : Int) (g : Nat → Nat → Int), (k : Int) + 1 < mi → J k w.1 t g → J (k + 1) 0 t (ii_up g 0 6 (g 0 6 + 1)))  : ab_M l E base yX9_pass cX9_pass 6 (some .int) 9 0 0 [.ref (ad 0), ii_v mi] ab_x4 ad (f, w) (ab_F ad w (fun ov g => ∃ t, ov = some (ii_v t) ∧ J (mi.toNat - 1) w.1 t g)) := by
  obtain ⟨Post, hPost⟩ : ∃ P : ab_P, P = (ab_F ad w (fun ov g => ∃ t, ov = some (ii_v t) ∧ J (mi.toNat - 1) w.1 t g)) := ⟨_, rfl⟩
  rw [← hPost]
  refine ab_of RX9 [(0, .ref (ad 0)), (1, ii_v mi)] hl (by decide) rfl (Nat.le_of_ble_eq_true rfl) rfl ?_
  intro p e s m args below meth c C T0 hnm
  refine a_iload_n C dX9_pass_0 rfl ?_
  refine a_iconst C dX9_pass_1 ?_
  refine a_bipush C dX9_pass_2 (by decide) ?_
  refine a_callS (As := [ii_v mi, ii_v 1, ii_v 60]) C (c_isBetween hl f w mi 1 60 (by omega) (by omega) (by omega)) co_X9_isBetween in_X9 ml_X9_68 sc_X9_isBetween ar_X9_isBetween ⟨by decide, by decide, by decide, by decide⟩ rfl (Nat.le_of_ble_eq_true rfl) dX9_pass_4 (a_dR ?_) a_nR
  refine a_bif_ne (tgt := 20) C dX9_pass_7 rfl (fun h7 => ?_) (fun h7 => ?_)
  · skip
    refine a_iconst C dX9_pass_20 ?_
    refine a_istore_n (L' := [(0, .ref (ad 0)), (1, ii_v mi), (2, ii_v 0)]) C dX9_pass_21 (by decide) rfl ?_
    refine a_iconst C dX9_pass_22 ?_
    refine a_istore_n (L' := [(0, .ref (ad 0)), (1, ii_v mi), (2, ii_v 0), (3, ii_v 0)]) C dX9_pass_23 (by decide) rfl ?_
    have loop24 : ∀ (NN24 : Nat) (k : Nat) (t : Int) (g : Nat → Nat → Int), mi.toNat - k < NN24 → ((k : Int) ≤ mi) → ((k = 0 ∧ t = 0 ∧ g = f) ∨ (0 < k ∧ J (k - 1) w.1 t g)) → ab_W p l e (ab_rm 9 0 0) s m args below meth c E base 6 (ab_Q below E base Post args s 0 0) ab_x4 ad (g, w) 0 0 24 [(0, .ref (ad 0)), (1, ii_v mi), (2, ii_v t), (3, ii_v ((k : Nat) : Int))] [] := by
      intro NN24
      induction NN24 with
      | zero => intro k t g hNN; exact absurd hNN (Nat.not_lt_zero _)
      | succ NN24 ih24 =>
        intro k t g hNN hk hI
        refine a_iload_n C dX9_pass_24 rfl ?_
        refine a_iload_n C dX9_pass_25 rfl ?_
        refine a_icmp_ge (tgt := 95) C dX9_pass_26 rfl (by unfold ii_B; omega) (by unfold ii_B; omega) (fun h26 => ?_) (fun h26 => ?_)
        · skip
          refine a_iload_n C dX9_pass_95 rfl ?_
          refine a_iret C ?_ (by decide) (by decide) dX9_pass_96
          rw [hPost]
          have hke : (k : Int) = mi := by omega
          rcases hI with ⟨rfl, -, -⟩ | ⟨hk0, hj⟩
          · exfalso; omega
          · exact ab_F_of ⟨t, rfl, by rw [show mi.toNat - 1 = k - 1 by omega]; exact hj⟩
        · skip
          have hgn : 0 ≤ g 0 6 ∧ g 0 6 ≤ 99999 := by rcases hI with ⟨_, _, rfl⟩ | ⟨_, hj⟩; exact hnow; exact (hJb _ _ _ _ hj).1
          refine a_aload_n C dX9_pass_29 rfl ?_
          refine a_dup C dX9_pass_30 rfl ?_
          refine a_get (ci := 10) (i := 6) (v := ii_v (g 0 6)) C iw_X9 rfl (by decide) rfl fl_X9_58 rfl rfl dX9_pass_31 ?_
          refine a_iconst C dX9_pass_34 ?_
          refine a_iadd C dX9_pass_35 ?_
          refine a_put (ci := 10) (i := 6) C iw_X9 rfl (by decide) rfl tyX9 tyX9_ok nmX9 rfl rfl fl_X9_58 rfl rfl rfl rfl dX9_pass_36 ?_
          obtain ⟨g1, eg1⟩ : ∃ F : Nat → Nat → Int, F = ii_up g 0 6 ((g 0 6) + 1) := ⟨_, rfl⟩
          rw [← eg1]
          refine a_iconst C dX9_pass_39 ?_
          refine a_istore (L' := [(0, .ref (ad 0)), (1, ii_v mi), (2, ii_v t), (3, ii_v ((k : Nat) : Int)), (4, ii_v 0)]) C dX9_pass_40 (by decide) rfl ?_
          have loop42 : ∀ (NN42 : Nat) (b : Nat) (t2 : Int) (gb : Nat → Nat → Int), w.1 - b < NN42 → (b ≤ w.1) → (J k b t2 gb) → ab_W p l e (ab_rm 9 0 0) s m args below meth c E base 6 (ab_Q below E base Post args s 0 0) ab_x4 ad (gb, w) 0 0 42 [(0, .ref (ad 0)), (1, ii_v mi), (2, ii_v t2), (3, ii_v ((k : Nat) : Int)), (4, ii_v ((b : Nat) : Int))] [] := by
            intro NN42
            induction NN42 with
            | zero => intro b t2 gb hNN; exact absurd hNN (Nat.not_lt_zero _)
            | succ NN42 ih42 =>
              intro b t2 gb hNN hbn hJ
              obtain ⟨hB2, hB3⟩ := hJb _ _ _ _ hJ
              refine a_iload C dX9_pass_42 rfl ?_
              refine a_aload_n C dX9_pass_44 rfl ?_
              refine a_get (ci := 10) (i := 0) (v := .ref (ad 1)) C iw_X9 rfl (by decide) rfl fl_X9_12 rfl rfl dX9_pass_45 ?_
              refine a_callL (o := 1) (As := []) C (c_lsize hl gb w (Or.inl ⟨rfl, rfl, rfl⟩) (by omega)) co_Jx4a65c_size_8abf5 in_Jx4a65c ml_X9_87 im_Jx4a65c_size_8abf5 se_Jx4a65c_size_8abf5 rfl (Or.inl rfl) (by decide) ar_Jx4a65c_size_8abf5 ⟨by decide, by decide, by decide, by decide⟩ rfl (Nat.le_of_ble_eq_true rfl) dX9_pass_48 (a_dR ?_) a_nR
              refine a_icmp_ge (tgt := 89) C dX9_pass_51 rfl (by unfold ii_B; omega) (by unfold ii_B; omega) (fun h51 => ?_) (fun h51 => ?_)
              · skip
                refine a_iinc (L' := [(0, .ref (ad 0)), (1, ii_v mi), (2, ii_v t2), (3, ii_v (((k : Nat) : Int) + 1)), (4, ii_v ((b : Nat) : Int))]) C dX9_pass_89 rfl (by decide) rfl ?_
                refine a_goto (tgt := 24) C dX9_pass_92 rfl ?_
                refine a_pick [0, 1, 2, 3] (L2 := [(0, .ref (ad 0)), (1, ii_v mi), (2, ii_v t2), (3, ii_v (((k : Nat) : Int) + 1))]) rfl ?_
                exact ih24 (k + 1) t2 gb (by omega) (by omega) (Or.inr ⟨Nat.succ_pos k, by have hbe : b = w.1 := (by omega); rw [← hbe]; exact hJ⟩)
              · skip
                have hb : b < w.1 := by omega
                obtain ⟨v, S, hH, hJs2⟩ := hJs k b t2 gb hb hJ
                obtain ⟨q1, q2, q3, q4, q5, q6, n, q7, q8⟩ := hH
                refine a_aload_n C dX9_pass_54 rfl ?_
                refine a_get (ci := 10) (i := 0) (v := .ref (ad 1)) C iw_X9 rfl (by decide) rfl fl_X9_12 rfl rfl dX9_pass_55 ?_
                refine a_iload C dX9_pass_58 rfl ?_
                refine a_callL (o := 1) (As := [ii_v ((b : Nat) : Int)]) C (c_lget hl gb w (Or.inl ⟨rfl, rfl, rfl⟩) (by omega) ((b : Nat) : Int) b (by omega) (by omega)) co_Jx4a65c_get_915e3 in_Jx4a65c ml_X9_128 im_Jx4a65c_get_915e3 se_Jx4a65c_get_915e3 rfl (Or.inl rfl) (by decide) ar_Jx4a65c_get_915e3 ⟨by decide, by decide, by decide, by decide⟩ rfl (Nat.le_of_ble_eq_true rfl) dX9_pass_60 (a_dR ?_) a_nR
                refine a_ccast (ci := 2) C rfl (ob_bus hb h4) cl_X9_96 dX9_pass_63 ?_
                refine a_astore (L' := [(0, .ref (ad 0)), (1, ii_v mi), (2, ii_v t2), (3, ii_v ((k : Nat) : Int)), (4, ii_v ((b : Nat) : Int)), (5, .ref (ad (200 + b)))]) C dX9_pass_66 (by decide) rfl ?_
                refine a_aload_n C dX9_pass_68 rfl ?_
                refine a_aload C dX9_pass_69 rfl ?_
                refine a_callV (o := 0) (As := [.ref (ad (200 + b))]) C (c_spend hl gb w hr q1 hb h4 q2 q3 q4 q5) co_X9_spendMinute in_X9 ml_X9_253 im_X9_spendMinute se_X9_spendMinute rfl rfl ar_X9_spendMinute ⟨by decide, by decide, by decide, by decide⟩ rfl (Nat.le_of_ble_eq_true rfl) dX9_pass_71 (a_dV ?_) a_nV
                obtain ⟨g2, eg2⟩ : ∃ F : Nat → Nat → Int, F = sp_T gb v b S := ⟨_, rfl⟩
                rw [← eg2]
                have hsr : ∀ o, o ≠ 200 + b → g2 o = gb o := fun o ho => by rw [eg2]; exact sp_row ho
                refine a_iload_n C dX9_pass_74 rfl ?_
                refine a_aload_n C dX9_pass_75 rfl ?_
                refine a_aload C dX9_pass_76 rfl ?_
                refine a_callV (o := 0) (As := [.ref (ad (200 + b))]) C (c_due hl g2 w hr (pe_same q1 (fun o2 h => hsr o2 (by omega))) hb h4 (by rw [eg2]; exact q6) (ts_same q3 (hsr _ (by omega)) (hsr _ (by omega))) q4 (by rw [hsr 0 (by omega)]; exact ⟨by omega, by omega⟩) n (by rw [hsr 4 (by omega)]; exact q7) q8) co_X9_makeDueStops in_X9 ml_X9_159 im_X9_makeDueStops se_X9_makeDueStops rfl rfl ar_X9_makeDueStops ⟨by decide, by decide, by decide, by decide⟩ rfl (Nat.le_of_ble_eq_true rfl) dX9_pass_78 (a_dF ?_) a_nF
                intro vg3 g3 hvg3
                rw [eg2] at hvg3
                obtain ⟨rfl, hPg3⟩ := hvg3
                have hJ2 := hJs2 g3 hPg3
                refine a_iadd C dX9_pass_81 ?_
                refine a_istore_n (L' := [(0, .ref (ad 0)), (1, ii_v mi), (2, ii_v (t2 + ((ci_d gb v b S : Nat) : Int))), (3, ii_v ((k : Nat) : Int)), (4, ii_v ((b : Nat) : Int)), (5, .ref (ad (200 + b)))]) C dX9_pass_82 (by decide) rfl ?_
                refine a_iinc (L' := [(0, .ref (ad 0)), (1, ii_v mi), (2, ii_v (t2 + ((ci_d gb v b S : Nat) : Int))), (3, ii_v ((k : Nat) : Int)), (4, ii_v (((b : Nat) : Int) + 1)), (5, .ref (ad (200 + b)))]) C dX9_pass_83 rfl (by decide) rfl ?_
                refine a_goto (tgt := 42) C dX9_pass_86 rfl ?_
                refine a_pick [0, 1, 2, 3, 4] (L2 := [(0, .ref (ad 0)), (1, ii_v mi), (2, ii_v (t2 + ((ci_d gb v b S : Nat) : Int))), (3, ii_v ((k : Nat) : Int)), (4, ii_v (((b : Nat) : Int) + 1))]) rfl ?_
                exact ih42 (b + 1) (t2 + ((ci_d gb v b S : Nat) : Int)) g3 (by omega) (by omega) hJ2
          exact loop42 (_ + 1) 0 t g1 (Nat.lt_succ_self _) (Nat.zero_le _) (by rw [eg1]; rcases hI with ⟨rfl, rfl, rfl⟩ | ⟨hk0, hj⟩; exact hJ0; exact (show k = k - 1 + 1 by omega) ▸ hJn (k - 1) t g (by omega) hj)
    exact loop24 (_ + 1) 0 0 f (Nat.lt_succ_self _) (by omega) (Or.inl ⟨rfl, rfl, rfl⟩)
  · skip
    exact absurd h h7
set_option maxRecDepth 20000 in
set_option maxHeartbeats 2000000 in
theorem x_pass {l : Launch} {E : ab_E} {base : Nat} (hl : l.stackTraces = false) {ad : Nat → Nat} (f : Nat → Nat → Int) (w : Nat × Nat × Int64 × UInt64) (mi : Int) (zmi : -2147483648 ≤ mi ∧ mi < 2147483648) (h : ¬ (1 ≤ mi ∧ mi ≤ 60)) : ab_M l E base yX9_pass cX9_pass 6 (some .int) 7 1 6 [.ref (ad 0), ii_v mi] ab_x4 ad (f, w) (ab_T "java/lang/IllegalArgumentException" ab_x4 ad (f, w)) := by
  obtain ⟨Post, hPost⟩ : ∃ P : ab_P, P = (ab_T "java/lang/IllegalArgumentException" ab_x4 ad (f, w)) := ⟨_, rfl⟩
  rw [← hPost]
  refine ab_of RX9 [(0, .ref (ad 0)), (1, ii_v mi)] hl (by decide) rfl (Nat.le_of_ble_eq_true rfl) rfl ?_
  intro p e s m args below meth c C T0 hnm
  refine a_iload_n C dX9_pass_0 rfl ?_
  refine a_iconst C dX9_pass_1 ?_
  refine a_bipush C dX9_pass_2 (by decide) ?_
  refine a_callS (As := [ii_v mi, ii_v 1, ii_v 60]) C (c_isBetween hl f w mi 1 60 (by omega) (by omega) (by omega)) co_X9_isBetween in_X9 ml_X9_68 sc_X9_isBetween ar_X9_isBetween ⟨by decide, by decide, by decide, by decide⟩ rfl (Nat.le_of_ble_eq_true rfl) dX9_pass_4 (a_dR ?_) a_nR
  refine a_bif_ne (tgt := 20) C dX9_pass_7 rfl (fun h7 => ?_) (fun h7 => ?_)
  · skip
    exact absurd h7 h
  · skip
    refine a_throw C T0 (by decide) cl_X9_72 in_IAE xw_IAE (is := 251) (text := "the minutes are not between 1 and 60") (by decide) dX9_pass_10 dX9_pass_13 dX9_pass_14 dX9_pass_16 dX9_pass_19 ?_ ⟨by decide, by decide, by decide⟩ (Nat.le_of_ble_eq_true rfl)
    rw [hPost]
    exact ⟨rfl, rfl, rfl, rfl⟩
