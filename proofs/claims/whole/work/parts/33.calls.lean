/-! The row's own calls, but those that make objects, and pass. -/
/-- a status: waiting, riding, dropped, cancelled, refused -/
def st_ok (u : Int) : Prop := u = 119 ∨ u = 114 ∨ u = 100 ∨ u = 99 ∨ u = 120
theorem st_b {u : Int} (h : st_ok u) : 0 ≤ u ∧ u ≤ 65535 := by
  unfold st_ok at h
  omega
theorem st_nc {u : Int} (h : st_ok u) : narrow .char (ii_v u) = ii_v u := by
  rcases h with rfl | rfl | rfl | rfl | rfl <;> decide
theorem sg_nc (u : Int) : narrow .char (ii_v (sg_f u)) = ii_v (sg_f u) := by
  unfold sg_f
  repeat' split
  all_goals decide
set_option maxRecDepth 20000 in
set_option maxHeartbeats 2000000 in
theorem c_setDetour {l : Launch} {E : ab_E} {base : Nat} (hl : l.stackTraces = false) {ad : Nat → Nat} (f : Nat → Nat → Int) (w : Nat × Nat × Int64 × UInt64) (i : Int) (zi : -2147483648 ≤ i ∧ i < 2147483648) (h : 0 ≤ i ∧ i ≤ 200) : ab_M l E base yX9_setDetour cX9_setDetour 3 (some .int) 7 0 0 [.ref (ad 0), ii_v i] ab_x4 ad (f, w) (ab_R (ii_v (f 0 7)) ab_x4 ad (ii_up f 0 7 i, w)) := by
  obtain ⟨Post, hPost⟩ : ∃ P : ab_P, P = (ab_R (ii_v (f 0 7)) ab_x4 ad (ii_up f 0 7 i, w)) := ⟨_, rfl⟩
  rw [← hPost]
  refine ab_of RX9 [(0, .ref (ad 0)), (1, ii_v i)] hl (by decide) rfl (Nat.le_of_ble_eq_true rfl) rfl ?_
  intro p e s m args below meth c C T0 hnm
  refine a_iload_n C dX9_setDetour_0 rfl ?_
  refine a_iconst C dX9_setDetour_1 ?_
  refine a_sipush C dX9_setDetour_2 (by decide) ?_
  refine a_callS (As := [ii_v i, ii_v 0, ii_v 200]) C (c_isBetween hl f w i 0 200 (by omega) (by omega) (by omega)) co_X9_isBetween in_X9 ml_X9_68 sc_X9_isBetween ar_X9_isBetween ⟨by decide, by decide, by decide, by decide⟩ rfl (Nat.le_of_ble_eq_true rfl) dX9_setDetour_5 (a_dR ?_) a_nR
  refine a_bif_ne (tgt := 21) C dX9_setDetour_8 rfl (fun h8 => ?_) (fun h8 => ?_)
  · skip
    refine a_aload_n C dX9_setDetour_21 rfl ?_
    refine a_get (ci := 10) (i := 7) (v := ii_v (f 0 7)) C iw_X9 rfl (by decide) rfl fl_X9_62 rfl rfl dX9_setDetour_22 ?_
    refine a_istore_n (L' := [(0, .ref (ad 0)), (1, ii_v i), (2, ii_v (f 0 7))]) C dX9_setDetour_25 (by decide) rfl ?_
    refine a_aload_n C dX9_setDetour_26 rfl ?_
    refine a_iload_n C dX9_setDetour_27 rfl ?_
    refine a_put (ci := 10) (i := 7) C iw_X9 rfl (by decide) rfl tyX9 tyX9_ok nmX9 rfl rfl fl_X9_62 rfl rfl rfl rfl dX9_setDetour_28 ?_
    obtain ⟨g1, eg1⟩ : ∃ F : Nat → Nat → Int, F = ii_up f 0 7 i := ⟨_, rfl⟩
    rw [← eg1]
    refine a_iload_n C dX9_setDetour_31 rfl ?_
    refine a_iret C ?_ (by decide) (by decide) dX9_setDetour_32
    rw [hPost]
    rw [eg1]
    exact ⟨rfl, rfl, rfl, rfl⟩
  · skip
    exact absurd h h8
set_option maxRecDepth 20000 in
set_option maxHeartbeats 2000000 in
theorem x_setDetour {l : Launch} {E : ab_E} {base : Nat} (hl : l.stackTraces = false) {ad : Nat → Nat} (f : Nat → Nat → Int) (w : Nat × Nat × Int64 × UInt64) (i : Int) (zi : -2147483648 ≤ i ∧ i < 2147483648) (h : ¬ (0 ≤ i ∧ i ≤ 200)) : ab_M l E base yX9_setDetour cX9_setDetour 3 (some .int) 7 1 6 [.ref (ad 0), ii_v i] ab_x4 ad (f, w) (ab_T "java/lang/IllegalArgumentException" ab_x4 ad (f, w)) := by
  obtain ⟨Post, hPost⟩ : ∃ P : ab_P, P = (ab_T "java/lang/IllegalArgumentException" ab_x4 ad (f, w)) := ⟨_, rfl⟩
  rw [← hPost]
  refine ab_of RX9 [(0, .ref (ad 0)), (1, ii_v i)] hl (by decide) rfl (Nat.le_of_ble_eq_true rfl) rfl ?_
  intro p e s m args below meth c C T0 hnm
  refine a_iload_n C dX9_setDetour_0 rfl ?_
  refine a_iconst C dX9_setDetour_1 ?_
  refine a_sipush C dX9_setDetour_2 (by decide) ?_
  refine a_callS (As := [ii_v i, ii_v 0, ii_v 200]) C (c_isBetween hl f w i 0 200 (by omega) (by omega) (by omega)) co_X9_isBetween in_X9 ml_X9_68 sc_X9_isBetween ar_X9_isBetween ⟨by decide, by decide, by decide, by decide⟩ rfl (Nat.le_of_ble_eq_true rfl) dX9_setDetour_5 (a_dR ?_) a_nR
  refine a_bif_ne (tgt := 21) C dX9_setDetour_8 rfl (fun h8 => ?_) (fun h8 => ?_)
  · skip
    exact absurd h8 h
  · skip
    refine a_throw C T0 (by decide) cl_X9_72 in_IAE xw_IAE (is := 74) (text := "the detour is not between 0 and 200") (by decide) dX9_setDetour_11 dX9_setDetour_14 dX9_setDetour_15 dX9_setDetour_17 dX9_setDetour_20 ?_ ⟨by decide, by decide, by decide⟩ (Nat.le_of_ble_eq_true rfl)
    rw [hPost]
    exact ⟨rfl, rfl, rfl, rfl⟩
set_option maxRecDepth 20000 in
set_option maxHeartbeats 2000000 in
theorem c_setWait {l : Launch} {E : ab_E} {base : Nat} (hl : l.stackTraces = false) {ad : Nat → Nat} (f : Nat → Nat → Int) (w : Nat × Nat × Int64 × UInt64) (i : Int) (zi : -2147483648 ≤ i ∧ i < 2147483648) (h : 0 ≤ i ∧ i ≤ 60) : ab_M l E base yX9_setWait cX9_setWait 3 (some .int) 7 0 0 [.ref (ad 0), ii_v i] ab_x4 ad (f, w) (ab_R (ii_v (f 0 8)) ab_x4 ad (ii_up f 0 8 i, w)) := by
  obtain ⟨Post, hPost⟩ : ∃ P : ab_P, P = (ab_R (ii_v (f 0 8)) ab_x4 ad (ii_up f 0 8 i, w)) := ⟨_, rfl⟩
  rw [← hPost]
  refine ab_of RX9 [(0, .ref (ad 0)), (1, ii_v i)] hl (by decide) rfl (Nat.le_of_ble_eq_true rfl) rfl ?_
  intro p e s m args below meth c C T0 hnm
  refine a_iload_n C dX9_setWait_0 rfl ?_
  refine a_iconst C dX9_setWait_1 ?_
  refine a_bipush C dX9_setWait_2 (by decide) ?_
  refine a_callS (As := [ii_v i, ii_v 0, ii_v 60]) C (c_isBetween hl f w i 0 60 (by omega) (by omega) (by omega)) co_X9_isBetween in_X9 ml_X9_68 sc_X9_isBetween ar_X9_isBetween ⟨by decide, by decide, by decide, by decide⟩ rfl (Nat.le_of_ble_eq_true rfl) dX9_setWait_4 (a_dR ?_) a_nR
  refine a_bif_ne (tgt := 20) C dX9_setWait_7 rfl (fun h7 => ?_) (fun h7 => ?_)
  · skip
    refine a_aload_n C dX9_setWait_20 rfl ?_
    refine a_get (ci := 10) (i := 8) (v := ii_v (f 0 8)) C iw_X9 rfl (by decide) rfl fl_X9_65 rfl rfl dX9_setWait_21 ?_
    refine a_istore_n (L' := [(0, .ref (ad 0)), (1, ii_v i), (2, ii_v (f 0 8))]) C dX9_setWait_24 (by decide) rfl ?_
    refine a_aload_n C dX9_setWait_25 rfl ?_
    refine a_iload_n C dX9_setWait_26 rfl ?_
    refine a_put (ci := 10) (i := 8) C iw_X9 rfl (by decide) rfl tyX9 tyX9_ok nmX9 rfl rfl fl_X9_65 rfl rfl rfl rfl dX9_setWait_27 ?_
    obtain ⟨g1, eg1⟩ : ∃ F : Nat → Nat → Int, F = ii_up f 0 8 i := ⟨_, rfl⟩
    rw [← eg1]
    refine a_iload_n C dX9_setWait_30 rfl ?_
    refine a_iret C ?_ (by decide) (by decide) dX9_setWait_31
    rw [hPost]
    rw [eg1]
    exact ⟨rfl, rfl, rfl, rfl⟩
  · skip
    exact absurd h h7
set_option maxRecDepth 20000 in
set_option maxHeartbeats 2000000 in
theorem x_setWait {l : Launch} {E : ab_E} {base : Nat} (hl : l.stackTraces = false) {ad : Nat → Nat} (f : Nat → Nat → Int) (w : Nat × Nat × Int64 × UInt64) (i : Int) (zi : -2147483648 ≤ i ∧ i < 2147483648) (h : ¬ (0 ≤ i ∧ i ≤ 60)) : ab_M l E base yX9_setWait cX9_setWait 3 (some .int) 7 1 6 [.ref (ad 0), ii_v i] ab_x4 ad (f, w) (ab_T "java/lang/IllegalArgumentException" ab_x4 ad (f, w)) := by
  obtain ⟨Post, hPost⟩ : ∃ P : ab_P, P = (ab_T "java/lang/IllegalArgumentException" ab_x4 ad (f, w)) := ⟨_, rfl⟩
  rw [← hPost]
  refine ab_of RX9 [(0, .ref (ad 0)), (1, ii_v i)] hl (by decide) rfl (Nat.le_of_ble_eq_true rfl) rfl ?_
  intro p e s m args below meth c C T0 hnm
  refine a_iload_n C dX9_setWait_0 rfl ?_
  refine a_iconst C dX9_setWait_1 ?_
  refine a_bipush C dX9_setWait_2 (by decide) ?_
  refine a_callS (As := [ii_v i, ii_v 0, ii_v 60]) C (c_isBetween hl f w i 0 60 (by omega) (by omega) (by omega)) co_X9_isBetween in_X9 ml_X9_68 sc_X9_isBetween ar_X9_isBetween ⟨by decide, by decide, by decide, by decide⟩ rfl (Nat.le_of_ble_eq_true rfl) dX9_setWait_4 (a_dR ?_) a_nR
  refine a_bif_ne (tgt := 20) C dX9_setWait_7 rfl (fun h7 => ?_) (fun h7 => ?_)
  · skip
    exact absurd h7 h
  · skip
    refine a_throw C T0 (by decide) cl_X9_72 in_IAE xw_IAE (is := 79) (text := "the wait is not between 0 and 60") (by decide) dX9_setWait_10 dX9_setWait_13 dX9_setWait_14 dX9_setWait_16 dX9_setWait_19 ?_ ⟨by decide, by decide, by decide⟩ (Nat.le_of_ble_eq_true rfl)
    rw [hPost]
    exact ⟨rfl, rfl, rfl, rfl⟩
set_option maxRecDepth 20000 in
set_option maxHeartbeats 2000000 in
theorem c_bus_x {l : Launch} {E : ab_E} {base : Nat} (hl : l.stackTraces = false) {ad : Nat → Nat} (f : Nat → Nat → Int) (w : Nat × Nat × Int64 × UInt64) {b : Nat} (hb : b < w.1) (h4 : w.1 ≤ 4)  : ab_M l E base yX9_x cX9_x 2 (some .int) 8 0 0 [.ref (ad 0), ii_v ((b : Nat) : Int)] ab_x4 ad (f, w) (ab_R (ii_v (f (200 + b) 6)) ab_x4 ad (f, w)) := by
  obtain ⟨Post, hPost⟩ : ∃ P : ab_P, P = (ab_R (ii_v (f (200 + b) 6)) ab_x4 ad (f, w)) := ⟨_, rfl⟩
  rw [← hPost]
  refine ab_of RX9 [(0, .ref (ad 0)), (1, ii_v ((b : Nat) : Int))] hl (by decide) rfl (Nat.le_of_ble_eq_true rfl) rfl ?_
  intro p e s m args below meth c C T0 hnm
  refine a_aload_n C dX9_x_0 rfl ?_
  refine a_iload_n C dX9_x_1 rfl ?_
  refine a_callV (o := 0) (As := [ii_v ((b : Nat) : Int)]) C (c_keptBus hl f w hb h4) co_X9_keptBus in_X9 ml_X9_182 im_X9_keptBus se_X9_keptBus rfl rfl ar_X9_keptBus ⟨by decide, by decide, by decide, by decide⟩ rfl (Nat.le_of_ble_eq_true rfl) dX9_x_2 (a_dR ?_) a_nR
  refine a_getN (ci := 2) (i := 6) (v := ii_v (f (200 + b) 6)) C iw_X1 rfl (by decide) rfl fn_X9_257 (ob_bus hb h4) rfl dX9_x_5 ?_
  refine a_iret C ?_ (by decide) (by decide) dX9_x_8
  rw [hPost]
  exact ⟨rfl, rfl, rfl, rfl⟩
set_option maxRecDepth 20000 in
set_option maxHeartbeats 2000000 in
theorem x_bus_x {l : Launch} {E : ab_E} {base : Nat} (hl : l.stackTraces = false) {ad : Nat → Nat} (f : Nat → Nat → Int) (w : Nat × Nat × Int64 × UInt64) (h4 : w.1 ≤ 4) (i : Int) (zi : -2147483648 ≤ i ∧ i < 2147483648) (h : i < 0 ∨ (w.1 : Int) ≤ i)  : ab_M l E base yX9_x cX9_x 2 (some .int) 8 1 6 [.ref (ad 0), ii_v i] ab_x4 ad (f, w) (ab_T "java/lang/IndexOutOfBoundsException" ab_x4 ad (f, w)) := by
  obtain ⟨Post, hPost⟩ : ∃ P : ab_P, P = (ab_T "java/lang/IndexOutOfBoundsException" ab_x4 ad (f, w)) := ⟨_, rfl⟩
  rw [← hPost]
  refine ab_of RX9 [(0, .ref (ad 0)), (1, ii_v i)] hl (by decide) rfl (Nat.le_of_ble_eq_true rfl) rfl ?_
  intro p e s m args below meth c C T0 hnm
  refine a_aload_n C dX9_x_0 rfl ?_
  refine a_iload_n C dX9_x_1 rfl ?_
  refine a_callV (o := 0) (As := [ii_v i]) C (x_keptBus hl f w h4 i zi h) co_X9_keptBus in_X9 ml_X9_182 im_X9_keptBus se_X9_keptBus rfl rfl ar_X9_keptBus ⟨by decide, by decide, by decide, by decide⟩ rfl (Nat.le_of_ble_eq_true rfl) dX9_x_2 a_nT (a_dT ?_)
  refine a_out C T0 ?_ (by decide) (by decide)
  rw [hPost]
  exact ⟨rfl, rfl, rfl, rfl⟩
set_option maxRecDepth 20000 in
set_option maxHeartbeats 2000000 in
theorem c_bus_y {l : Launch} {E : ab_E} {base : Nat} (hl : l.stackTraces = false) {ad : Nat → Nat} (f : Nat → Nat → Int) (w : Nat × Nat × Int64 × UInt64) {b : Nat} (hb : b < w.1) (h4 : w.1 ≤ 4)  : ab_M l E base yX9_y cX9_y 2 (some .int) 8 0 0 [.ref (ad 0), ii_v ((b : Nat) : Int)] ab_x4 ad (f, w) (ab_R (ii_v (f (200 + b) 7)) ab_x4 ad (f, w)) := by
  obtain ⟨Post, hPost⟩ : ∃ P : ab_P, P = (ab_R (ii_v (f (200 + b) 7)) ab_x4 ad (f, w)) := ⟨_, rfl⟩
  rw [← hPost]
  refine ab_of RX9 [(0, .ref (ad 0)), (1, ii_v ((b : Nat) : Int))] hl (by decide) rfl (Nat.le_of_ble_eq_true rfl) rfl ?_
  intro p e s m args below meth c C T0 hnm
  refine a_aload_n C dX9_y_0 rfl ?_
  refine a_iload_n C dX9_y_1 rfl ?_
  refine a_callV (o := 0) (As := [ii_v ((b : Nat) : Int)]) C (c_keptBus hl f w hb h4) co_X9_keptBus in_X9 ml_X9_182 im_X9_keptBus se_X9_keptBus rfl rfl ar_X9_keptBus ⟨by decide, by decide, by decide, by decide⟩ rfl (Nat.le_of_ble_eq_true rfl) dX9_y_2 (a_dR ?_) a_nR
  refine a_getN (ci := 2) (i := 7) (v := ii_v (f (200 + b) 7)) C iw_X1 rfl (by decide) rfl fn_X9_260 (ob_bus hb h4) rfl dX9_y_5 ?_
  refine a_iret C ?_ (by decide) (by decide) dX9_y_8
  rw [hPost]
  exact ⟨rfl, rfl, rfl, rfl⟩
set_option maxRecDepth 20000 in
set_option maxHeartbeats 2000000 in
theorem x_bus_y {l : Launch} {E : ab_E} {base : Nat} (hl : l.stackTraces = false) {ad : Nat → Nat} (f : Nat → Nat → Int) (w : Nat × Nat × Int64 × UInt64) (h4 : w.1 ≤ 4) (i : Int) (zi : -2147483648 ≤ i ∧ i < 2147483648) (h : i < 0 ∨ (w.1 : Int) ≤ i)  : ab_M l E base yX9_y cX9_y 2 (some .int) 8 1 6 [.ref (ad 0), ii_v i] ab_x4 ad (f, w) (ab_T "java/lang/IndexOutOfBoundsException" ab_x4 ad (f, w)) := by
  obtain ⟨Post, hPost⟩ : ∃ P : ab_P, P = (ab_T "java/lang/IndexOutOfBoundsException" ab_x4 ad (f, w)) := ⟨_, rfl⟩
  rw [← hPost]
  refine ab_of RX9 [(0, .ref (ad 0)), (1, ii_v i)] hl (by decide) rfl (Nat.le_of_ble_eq_true rfl) rfl ?_
  intro p e s m args below meth c C T0 hnm
  refine a_aload_n C dX9_y_0 rfl ?_
  refine a_iload_n C dX9_y_1 rfl ?_
  refine a_callV (o := 0) (As := [ii_v i]) C (x_keptBus hl f w h4 i zi h) co_X9_keptBus in_X9 ml_X9_182 im_X9_keptBus se_X9_keptBus rfl rfl ar_X9_keptBus ⟨by decide, by decide, by decide, by decide⟩ rfl (Nat.le_of_ble_eq_true rfl) dX9_y_2 a_nT (a_dT ?_)
  refine a_out C T0 ?_ (by decide) (by decide)
  rw [hPost]
  exact ⟨rfl, rfl, rfl, rfl⟩
set_option maxRecDepth 20000 in
set_option maxHeartbeats 2000000 in
theorem c_bus_charge {l : Launch} {E : ab_E} {base : Nat} (hl : l.stackTraces = false) {ad : Nat → Nat} (f : Nat → Nat → Int) (w : Nat × Nat × Int64 × UInt64) {b : Nat} (hb : b < w.1) (h4 : w.1 ≤ 4)  : ab_M l E base yX9_charge cX9_charge 2 (some .int) 8 0 0 [.ref (ad 0), ii_v ((b : Nat) : Int)] ab_x4 ad (f, w) (ab_R (ii_v (f (200 + b) 8)) ab_x4 ad (f, w)) := by
  obtain ⟨Post, hPost⟩ : ∃ P : ab_P, P = (ab_R (ii_v (f (200 + b) 8)) ab_x4 ad (f, w)) := ⟨_, rfl⟩
  rw [← hPost]
  refine ab_of RX9 [(0, .ref (ad 0)), (1, ii_v ((b : Nat) : Int))] hl (by decide) rfl (Nat.le_of_ble_eq_true rfl) rfl ?_
  intro p e s m args below meth c C T0 hnm
  refine a_aload_n C dX9_charge_0 rfl ?_
  refine a_iload_n C dX9_charge_1 rfl ?_
  refine a_callV (o := 0) (As := [ii_v ((b : Nat) : Int)]) C (c_keptBus hl f w hb h4) co_X9_keptBus in_X9 ml_X9_182 im_X9_keptBus se_X9_keptBus rfl rfl ar_X9_keptBus ⟨by decide, by decide, by decide, by decide⟩ rfl (Nat.le_of_ble_eq_true rfl) dX9_charge_2 (a_dR ?_) a_nR
  refine a_getN (ci := 2) (i := 8) (v := ii_v (f (200 + b) 8)) C iw_X1 rfl (by decide) rfl fn_X9_263 (ob_bus hb h4) rfl dX9_charge_5 ?_
  refine a_iret C ?_ (by decide) (by decide) dX9_charge_8
  rw [hPost]
  exact ⟨rfl, rfl, rfl, rfl⟩
set_option maxRecDepth 20000 in
set_option maxHeartbeats 2000000 in
theorem x_bus_charge {l : Launch} {E : ab_E} {base : Nat} (hl : l.stackTraces = false) {ad : Nat → Nat} (f : Nat → Nat → Int) (w : Nat × Nat × Int64 × UInt64) (h4 : w.1 ≤ 4) (i : Int) (zi : -2147483648 ≤ i ∧ i < 2147483648) (h : i < 0 ∨ (w.1 : Int) ≤ i)  : ab_M l E base yX9_charge cX9_charge 2 (some .int) 8 1 6 [.ref (ad 0), ii_v i] ab_x4 ad (f, w) (ab_T "java/lang/IndexOutOfBoundsException" ab_x4 ad (f, w)) := by
  obtain ⟨Post, hPost⟩ : ∃ P : ab_P, P = (ab_T "java/lang/IndexOutOfBoundsException" ab_x4 ad (f, w)) := ⟨_, rfl⟩
  rw [← hPost]
  refine ab_of RX9 [(0, .ref (ad 0)), (1, ii_v i)] hl (by decide) rfl (Nat.le_of_ble_eq_true rfl) rfl ?_
  intro p e s m args below meth c C T0 hnm
  refine a_aload_n C dX9_charge_0 rfl ?_
  refine a_iload_n C dX9_charge_1 rfl ?_
  refine a_callV (o := 0) (As := [ii_v i]) C (x_keptBus hl f w h4 i zi h) co_X9_keptBus in_X9 ml_X9_182 im_X9_keptBus se_X9_keptBus rfl rfl ar_X9_keptBus ⟨by decide, by decide, by decide, by decide⟩ rfl (Nat.le_of_ble_eq_true rfl) dX9_charge_2 a_nT (a_dT ?_)
  refine a_out C T0 ?_ (by decide) (by decide)
  rw [hPost]
  exact ⟨rfl, rfl, rfl, rfl⟩
set_option maxRecDepth 20000 in
set_option maxHeartbeats 2000000 in
theorem c_bus_onBoard {l : Launch} {E : ab_E} {base : Nat} (hl : l.stackTraces = false) {ad : Nat → Nat} (f : Nat → Nat → Int) (w : Nat × Nat × Int64 × UInt64) {b : Nat} (hb : b < w.1) (h4 : w.1 ≤ 4)  : ab_M l E base yX9_onBoard cX9_onBoard 2 (some .int) 8 0 0 [.ref (ad 0), ii_v ((b : Nat) : Int)] ab_x4 ad (f, w) (ab_R (ii_v (f (200 + b) 9)) ab_x4 ad (f, w)) := by
  obtain ⟨Post, hPost⟩ : ∃ P : ab_P, P = (ab_R (ii_v (f (200 + b) 9)) ab_x4 ad (f, w)) := ⟨_, rfl⟩
  rw [← hPost]
  refine ab_of RX9 [(0, .ref (ad 0)), (1, ii_v ((b : Nat) : Int))] hl (by decide) rfl (Nat.le_of_ble_eq_true rfl) rfl ?_
  intro p e s m args below meth c C T0 hnm
  refine a_aload_n C dX9_onBoard_0 rfl ?_
  refine a_iload_n C dX9_onBoard_1 rfl ?_
  refine a_callV (o := 0) (As := [ii_v ((b : Nat) : Int)]) C (c_keptBus hl f w hb h4) co_X9_keptBus in_X9 ml_X9_182 im_X9_keptBus se_X9_keptBus rfl rfl ar_X9_keptBus ⟨by decide, by decide, by decide, by decide⟩ rfl (Nat.le_of_ble_eq_true rfl) dX9_onBoard_2 (a_dR ?_) a_nR
  refine a_getN (ci := 2) (i := 9) (v := ii_v (f (200 + b) 9)) C iw_X1 rfl (by decide) rfl fn_X9_266 (ob_bus hb h4) rfl dX9_onBoard_5 ?_
  refine a_iret C ?_ (by decide) (by decide) dX9_onBoard_8
  rw [hPost]
  exact ⟨rfl, rfl, rfl, rfl⟩
set_option maxRecDepth 20000 in
set_option maxHeartbeats 2000000 in
theorem x_bus_onBoard {l : Launch} {E : ab_E} {base : Nat} (hl : l.stackTraces = false) {ad : Nat → Nat} (f : Nat → Nat → Int) (w : Nat × Nat × Int64 × UInt64) (h4 : w.1 ≤ 4) (i : Int) (zi : -2147483648 ≤ i ∧ i < 2147483648) (h : i < 0 ∨ (w.1 : Int) ≤ i)  : ab_M l E base yX9_onBoard cX9_onBoard 2 (some .int) 8 1 6 [.ref (ad 0), ii_v i] ab_x4 ad (f, w) (ab_T "java/lang/IndexOutOfBoundsException" ab_x4 ad (f, w)) := by
  obtain ⟨Post, hPost⟩ : ∃ P : ab_P, P = (ab_T "java/lang/IndexOutOfBoundsException" ab_x4 ad (f, w)) := ⟨_, rfl⟩
  rw [← hPost]
  refine ab_of RX9 [(0, .ref (ad 0)), (1, ii_v i)] hl (by decide) rfl (Nat.le_of_ble_eq_true rfl) rfl ?_
  intro p e s m args below meth c C T0 hnm
  refine a_aload_n C dX9_onBoard_0 rfl ?_
  refine a_iload_n C dX9_onBoard_1 rfl ?_
  refine a_callV (o := 0) (As := [ii_v i]) C (x_keptBus hl f w h4 i zi h) co_X9_keptBus in_X9 ml_X9_182 im_X9_keptBus se_X9_keptBus rfl rfl ar_X9_keptBus ⟨by decide, by decide, by decide, by decide⟩ rfl (Nat.le_of_ble_eq_true rfl) dX9_onBoard_2 a_nT (a_dT ?_)
  refine a_out C T0 ?_ (by decide) (by decide)
  rw [hPost]
  exact ⟨rfl, rfl, rfl, rfl⟩
set_option maxRecDepth 20000 in
set_option maxHeartbeats 2000000 in
theorem c_bus_driven {l : Launch} {E : ab_E} {base : Nat} (hl : l.stackTraces = false) {ad : Nat → Nat} (f : Nat → Nat → Int) (w : Nat × Nat × Int64 × UInt64) {b : Nat} (hb : b < w.1) (h4 : w.1 ≤ 4)  : ab_M l E base yX9_driven cX9_driven 2 (some .int) 8 0 0 [.ref (ad 0), ii_v ((b : Nat) : Int)] ab_x4 ad (f, w) (ab_R (ii_v (f (200 + b) 10)) ab_x4 ad (f, w)) := by
  obtain ⟨Post, hPost⟩ : ∃ P : ab_P, P = (ab_R (ii_v (f (200 + b) 10)) ab_x4 ad (f, w)) := ⟨_, rfl⟩
  rw [← hPost]
  refine ab_of RX9 [(0, .ref (ad 0)), (1, ii_v ((b : Nat) : Int))] hl (by decide) rfl (Nat.le_of_ble_eq_true rfl) rfl ?_
  intro p e s m args below meth c C T0 hnm
  refine a_aload_n C dX9_driven_0 rfl ?_
  refine a_iload_n C dX9_driven_1 rfl ?_
  refine a_callV (o := 0) (As := [ii_v ((b : Nat) : Int)]) C (c_keptBus hl f w hb h4) co_X9_keptBus in_X9 ml_X9_182 im_X9_keptBus se_X9_keptBus rfl rfl ar_X9_keptBus ⟨by decide, by decide, by decide, by decide⟩ rfl (Nat.le_of_ble_eq_true rfl) dX9_driven_2 (a_dR ?_) a_nR
  refine a_getN (ci := 2) (i := 10) (v := ii_v (f (200 + b) 10)) C iw_X1 rfl (by decide) rfl fn_X9_269 (ob_bus hb h4) rfl dX9_driven_5 ?_
  refine a_iret C ?_ (by decide) (by decide) dX9_driven_8
  rw [hPost]
  exact ⟨rfl, rfl, rfl, rfl⟩
set_option maxRecDepth 20000 in
set_option maxHeartbeats 2000000 in
theorem x_bus_driven {l : Launch} {E : ab_E} {base : Nat} (hl : l.stackTraces = false) {ad : Nat → Nat} (f : Nat → Nat → Int) (w : Nat × Nat × Int64 × UInt64) (h4 : w.1 ≤ 4) (i : Int) (zi : -2147483648 ≤ i ∧ i < 2147483648) (h : i < 0 ∨ (w.1 : Int) ≤ i)  : ab_M l E base yX9_driven cX9_driven 2 (some .int) 8 1 6 [.ref (ad 0), ii_v i] ab_x4 ad (f, w) (ab_T "java/lang/IndexOutOfBoundsException" ab_x4 ad (f, w)) := by
  obtain ⟨Post, hPost⟩ : ∃ P : ab_P, P = (ab_T "java/lang/IndexOutOfBoundsException" ab_x4 ad (f, w)) := ⟨_, rfl⟩
  rw [← hPost]
  refine ab_of RX9 [(0, .ref (ad 0)), (1, ii_v i)] hl (by decide) rfl (Nat.le_of_ble_eq_true rfl) rfl ?_
  intro p e s m args below meth c C T0 hnm
  refine a_aload_n C dX9_driven_0 rfl ?_
  refine a_iload_n C dX9_driven_1 rfl ?_
  refine a_callV (o := 0) (As := [ii_v i]) C (x_keptBus hl f w h4 i zi h) co_X9_keptBus in_X9 ml_X9_182 im_X9_keptBus se_X9_keptBus rfl rfl ar_X9_keptBus ⟨by decide, by decide, by decide, by decide⟩ rfl (Nat.le_of_ble_eq_true rfl) dX9_driven_2 a_nT (a_dT ?_)
  refine a_out C T0 ?_ (by decide) (by decide)
  rw [hPost]
  exact ⟨rfl, rfl, rfl, rfl⟩
set_option maxRecDepth 20000 in
set_option maxHeartbeats 2000000 in
theorem c_bus_empty {l : Launch} {E : ab_E} {base : Nat} (hl : l.stackTraces = false) {ad : Nat → Nat} (f : Nat → Nat → Int) (w : Nat × Nat × Int64 × UInt64) {b : Nat} (hb : b < w.1) (h4 : w.1 ≤ 4)  : ab_M l E base yX9_empty cX9_empty 2 (some .int) 8 0 0 [.ref (ad 0), ii_v ((b : Nat) : Int)] ab_x4 ad (f, w) (ab_R (ii_v (f (200 + b) 11)) ab_x4 ad (f, w)) := by
  obtain ⟨Post, hPost⟩ : ∃ P : ab_P, P = (ab_R (ii_v (f (200 + b) 11)) ab_x4 ad (f, w)) := ⟨_, rfl⟩
  rw [← hPost]
  refine ab_of RX9 [(0, .ref (ad 0)), (1, ii_v ((b : Nat) : Int))] hl (by decide) rfl (Nat.le_of_ble_eq_true rfl) rfl ?_
  intro p e s m args below meth c C T0 hnm
  refine a_aload_n C dX9_empty_0 rfl ?_
  refine a_iload_n C dX9_empty_1 rfl ?_
  refine a_callV (o := 0) (As := [ii_v ((b : Nat) : Int)]) C (c_keptBus hl f w hb h4) co_X9_keptBus in_X9 ml_X9_182 im_X9_keptBus se_X9_keptBus rfl rfl ar_X9_keptBus ⟨by decide, by decide, by decide, by decide⟩ rfl (Nat.le_of_ble_eq_true rfl) dX9_empty_2 (a_dR ?_) a_nR
  refine a_getN (ci := 2) (i := 11) (v := ii_v (f (200 + b) 11)) C iw_X1 rfl (by decide) rfl fn_X9_272 (ob_bus hb h4) rfl dX9_empty_5 ?_
  refine a_iret C ?_ (by decide) (by decide) dX9_empty_8
  rw [hPost]
  exact ⟨rfl, rfl, rfl, rfl⟩
set_option maxRecDepth 20000 in
set_option maxHeartbeats 2000000 in
theorem x_bus_empty {l : Launch} {E : ab_E} {base : Nat} (hl : l.stackTraces = false) {ad : Nat → Nat} (f : Nat → Nat → Int) (w : Nat × Nat × Int64 × UInt64) (h4 : w.1 ≤ 4) (i : Int) (zi : -2147483648 ≤ i ∧ i < 2147483648) (h : i < 0 ∨ (w.1 : Int) ≤ i)  : ab_M l E base yX9_empty cX9_empty 2 (some .int) 8 1 6 [.ref (ad 0), ii_v i] ab_x4 ad (f, w) (ab_T "java/lang/IndexOutOfBoundsException" ab_x4 ad (f, w)) := by
  obtain ⟨Post, hPost⟩ : ∃ P : ab_P, P = (ab_T "java/lang/IndexOutOfBoundsException" ab_x4 ad (f, w)) := ⟨_, rfl⟩
  rw [← hPost]
  refine ab_of RX9 [(0, .ref (ad 0)), (1, ii_v i)] hl (by decide) rfl (Nat.le_of_ble_eq_true rfl) rfl ?_
  intro p e s m args below meth c C T0 hnm
  refine a_aload_n C dX9_empty_0 rfl ?_
  refine a_iload_n C dX9_empty_1 rfl ?_
  refine a_callV (o := 0) (As := [ii_v i]) C (x_keptBus hl f w h4 i zi h) co_X9_keptBus in_X9 ml_X9_182 im_X9_keptBus se_X9_keptBus rfl rfl ar_X9_keptBus ⟨by decide, by decide, by decide, by decide⟩ rfl (Nat.le_of_ble_eq_true rfl) dX9_empty_2 a_nT (a_dT ?_)
  refine a_out C T0 ?_ (by decide) (by decide)
  rw [hPost]
  exact ⟨rfl, rfl, rfl, rfl⟩
set_option maxRecDepth 20000 in
set_option maxHeartbeats 2000000 in
theorem c_stops {l : Launch} {E : ab_E} {base : Nat} (hl : l.stackTraces = false) {ad : Nat → Nat} (f : Nat → Nat → Int) (w : Nat × Nat × Int64 × UInt64) {b : Nat} (hb : b < w.1) (h4 : w.1 ≤ 4) {S : List Nat} (hS : ts_I f (200 + b + 10) S)  : ab_M l E base yX9_stops cX9_stops 2 (some .int) 8 0 0 [.ref (ad 0), ii_v ((b : Nat) : Int)] ab_x4 ad (f, w) (ab_R (ii_v ((S.length : Int))) ab_x4 ad (f, w)) := by
  obtain ⟨Post, hPost⟩ : ∃ P : ab_P, P = (ab_R (ii_v ((S.length : Int))) ab_x4 ad (f, w)) := ⟨_, rfl⟩
  rw [← hPost]
  refine ab_of RX9 [(0, .ref (ad 0)), (1, ii_v ((b : Nat) : Int))] hl (by decide) rfl (Nat.le_of_ble_eq_true rfl) rfl ?_
  intro p e s m args below meth c C T0 hnm
  refine a_aload_n C dX9_stops_0 rfl ?_
  refine a_iload_n C dX9_stops_1 rfl ?_
  refine a_callV (o := 0) (As := [ii_v ((b : Nat) : Int)]) C (c_keptBus hl f w hb h4) co_X9_keptBus in_X9 ml_X9_182 im_X9_keptBus se_X9_keptBus rfl rfl ar_X9_keptBus ⟨by decide, by decide, by decide, by decide⟩ rfl (Nat.le_of_ble_eq_true rfl) dX9_stops_2 (a_dR ?_) a_nR
  refine a_getN (ci := 2) (i := 5) (v := .ref (ad (200 + b + 10))) C iw_X1 rfl (by decide) rfl fn_X9_142 (ob_bus hb h4) rfl dX9_stops_5 ?_
  refine a_getN (ci := 8) (i := 1) (v := ii_v (f (200 + b + 10) 1)) C iw_X7 rfl (by decide) rfl fn_X9_224 (ob_btour hb h4) rfl dX9_stops_8 ?_
  refine a_iret C ?_ (by decide) (by decide) dX9_stops_11
  rw [hPost]
  exact ⟨rt_i hS.1, rfl, rfl, rfl⟩
set_option maxRecDepth 20000 in
set_option maxHeartbeats 2000000 in
theorem x_stops {l : Launch} {E : ab_E} {base : Nat} (hl : l.stackTraces = false) {ad : Nat → Nat} (f : Nat → Nat → Int) (w : Nat × Nat × Int64 × UInt64) (h4 : w.1 ≤ 4) (i : Int) (zi : -2147483648 ≤ i ∧ i < 2147483648) (h : i < 0 ∨ (w.1 : Int) ≤ i)  : ab_M l E base yX9_stops cX9_stops 2 (some .int) 8 1 6 [.ref (ad 0), ii_v i] ab_x4 ad (f, w) (ab_T "java/lang/IndexOutOfBoundsException" ab_x4 ad (f, w)) := by
  obtain ⟨Post, hPost⟩ : ∃ P : ab_P, P = (ab_T "java/lang/IndexOutOfBoundsException" ab_x4 ad (f, w)) := ⟨_, rfl⟩
  rw [← hPost]
  refine ab_of RX9 [(0, .ref (ad 0)), (1, ii_v i)] hl (by decide) rfl (Nat.le_of_ble_eq_true rfl) rfl ?_
  intro p e s m args below meth c C T0 hnm
  refine a_aload_n C dX9_stops_0 rfl ?_
  refine a_iload_n C dX9_stops_1 rfl ?_
  refine a_callV (o := 0) (As := [ii_v i]) C (x_keptBus hl f w h4 i zi h) co_X9_keptBus in_X9 ml_X9_182 im_X9_keptBus se_X9_keptBus rfl rfl ar_X9_keptBus ⟨by decide, by decide, by decide, by decide⟩ rfl (Nat.le_of_ble_eq_true rfl) dX9_stops_2 a_nT (a_dT ?_)
  refine a_out C T0 ?_ (by decide) (by decide)
  rw [hPost]
  exact ⟨rfl, rfl, rfl, rfl⟩
set_option maxRecDepth 20000 in
set_option maxHeartbeats 2000000 in
theorem c_stopRequest {l : Launch} {E : ab_E} {base : Nat} (hl : l.stackTraces = false) {ad : Nat → Nat} (f : Nat → Nat → Int) (w : Nat × Nat × Int64 × UInt64) {b : Nat} (hb : b < w.1) (h4 : w.1 ≤ 4) {S : List Nat} (hS : ts_I f (200 + b + 10) S) (k : Nat) (hk : k < S.length)  : ab_M l E base yX9_stopRequest cX9_stopRequest 4 (some .int) 8 0 0 [.ref (ad 0), ii_v ((b : Nat) : Int), ii_v ((k : Nat) : Int)] ab_x4 ad (f, w) (ab_R (ii_v (((S.getD k 0 / 2 : Nat) : Int))) ab_x4 ad (f, w)) := by
  obtain ⟨Post, hPost⟩ : ∃ P : ab_P, P = (ab_R (ii_v (((S.getD k 0 / 2 : Nat) : Int))) ab_x4 ad (f, w)) := ⟨_, rfl⟩
  rw [← hPost]
  refine ab_of RX9 [(0, .ref (ad 0)), (1, ii_v ((b : Nat) : Int)), (2, ii_v ((k : Nat) : Int))] hl (by decide) rfl (Nat.le_of_ble_eq_true rfl) rfl ?_
  intro p e s m args below meth c C T0 hnm
  have hb64 := hS.2.2.2 k hk
  refine a_aload_n C dX9_stopRequest_0 rfl ?_
  refine a_iload_n C dX9_stopRequest_1 rfl ?_
  refine a_callV (o := 0) (As := [ii_v ((b : Nat) : Int)]) C (c_keptBus hl f w hb h4) co_X9_keptBus in_X9 ml_X9_182 im_X9_keptBus se_X9_keptBus rfl rfl ar_X9_keptBus ⟨by decide, by decide, by decide, by decide⟩ rfl (Nat.le_of_ble_eq_true rfl) dX9_stopRequest_2 (a_dR ?_) a_nR
  refine a_getN (ci := 2) (i := 5) (v := .ref (ad (200 + b + 10))) C iw_X1 rfl (by decide) rfl fn_X9_142 (ob_bus hb h4) rfl dX9_stopRequest_5 ?_
  refine a_astore_n (L' := [(0, .ref (ad 0)), (1, ii_v ((b : Nat) : Int)), (2, ii_v ((k : Nat) : Int)), (3, .ref (ad (200 + b + 10)))]) C dX9_stopRequest_8 (by decide) rfl ?_
  refine a_aload_n C dX9_stopRequest_9 rfl ?_
  refine a_aload_n C dX9_stopRequest_10 rfl ?_
  refine a_iload_n C dX9_stopRequest_11 rfl ?_
  refine a_callV (o := 0) (As := [.ref (ad (200 + b + 10)), ii_v ((k : Nat) : Int)]) C (c_checkStop hl f w (ob_btour hb h4) hS k hk) co_X9_checkStop in_X9 ml_X9_226 im_X9_checkStop se_X9_checkStop rfl rfl ar_X9_checkStop ⟨by decide, by decide, by decide, by decide⟩ rfl (Nat.le_of_ble_eq_true rfl) dX9_stopRequest_12 (a_dV ?_) a_nV
  refine a_aload_n C dX9_stopRequest_15 rfl ?_
  refine a_iload_n C dX9_stopRequest_16 rfl ?_
  refine a_callVN (o := 200 + b + 10) (As := [ii_v ((k : Nat) : Int)]) C (c_stopAtS hl f w (ob_btour hb h4) (ar_btour hb h4) hS k k rfl hk) co_X7_stopAt in_X7 mn_X9_229 im_X7_stopAt se_X7_stopAt rfl (ob_btour hb h4) ar_X7_stopAt ⟨by decide, by decide, by decide, by decide⟩ rfl (Nat.le_of_ble_eq_true rfl) dX9_stopRequest_17 (a_dR ?_) a_nR
  refine a_callS (As := [ii_v (((S.getD k 0) : Nat) : Int)]) C (c_requestOf hl f w (S.getD k 0) (by omega)) co_X9_requestOf in_X9 ml_X9_232 sc_X9_requestOf ar_X9_requestOf ⟨by decide, by decide, by decide, by decide⟩ rfl (Nat.le_of_ble_eq_true rfl) dX9_stopRequest_20 (a_dR ?_) a_nR
  refine a_iret C ?_ (by decide) (by decide) dX9_stopRequest_23
  rw [hPost]
  exact ⟨rfl, rfl, rfl, rfl⟩
set_option maxRecDepth 20000 in
set_option maxHeartbeats 2000000 in
theorem c_isPickup {l : Launch} {E : ab_E} {base : Nat} (hl : l.stackTraces = false) {ad : Nat → Nat} (f : Nat → Nat → Int) (w : Nat × Nat × Int64 × UInt64) {b : Nat} (hb : b < w.1) (h4 : w.1 ≤ 4) {S : List Nat} (hS : ts_I f (200 + b + 10) S) (k : Nat) (hk : k < S.length)  : ab_M l E base yX9_isPickup cX9_isPickup 4 (some .boolean) 8 0 0 [.ref (ad 0), ii_v ((b : Nat) : Int), ii_v ((k : Nat) : Int)] ab_x4 ad (f, w) (ab_R (ii_v (if S.getD k 0 % 2 = 0 then 1 else 0)) ab_x4 ad (f, w)) := by
  obtain ⟨Post, hPost⟩ : ∃ P : ab_P, P = (ab_R (ii_v (if S.getD k 0 % 2 = 0 then 1 else 0)) ab_x4 ad (f, w)) := ⟨_, rfl⟩
  rw [← hPost]
  refine ab_of RX9 [(0, .ref (ad 0)), (1, ii_v ((b : Nat) : Int)), (2, ii_v ((k : Nat) : Int))] hl (by decide) rfl (Nat.le_of_ble_eq_true rfl) rfl ?_
  intro p e s m args below meth c C T0 hnm
  have hb64 := hS.2.2.2 k hk
  refine a_aload_n C dX9_isPickup_0 rfl ?_
  refine a_iload_n C dX9_isPickup_1 rfl ?_
  refine a_callV (o := 0) (As := [ii_v ((b : Nat) : Int)]) C (c_keptBus hl f w hb h4) co_X9_keptBus in_X9 ml_X9_182 im_X9_keptBus se_X9_keptBus rfl rfl ar_X9_keptBus ⟨by decide, by decide, by decide, by decide⟩ rfl (Nat.le_of_ble_eq_true rfl) dX9_isPickup_2 (a_dR ?_) a_nR
  refine a_getN (ci := 2) (i := 5) (v := .ref (ad (200 + b + 10))) C iw_X1 rfl (by decide) rfl fn_X9_142 (ob_bus hb h4) rfl dX9_isPickup_5 ?_
  refine a_astore_n (L' := [(0, .ref (ad 0)), (1, ii_v ((b : Nat) : Int)), (2, ii_v ((k : Nat) : Int)), (3, .ref (ad (200 + b + 10)))]) C dX9_isPickup_8 (by decide) rfl ?_
  refine a_aload_n C dX9_isPickup_9 rfl ?_
  refine a_aload_n C dX9_isPickup_10 rfl ?_
  refine a_iload_n C dX9_isPickup_11 rfl ?_
  refine a_callV (o := 0) (As := [.ref (ad (200 + b + 10)), ii_v ((k : Nat) : Int)]) C (c_checkStop hl f w (ob_btour hb h4) hS k hk) co_X9_checkStop in_X9 ml_X9_226 im_X9_checkStop se_X9_checkStop rfl rfl ar_X9_checkStop ⟨by decide, by decide, by decide, by decide⟩ rfl (Nat.le_of_ble_eq_true rfl) dX9_isPickup_12 (a_dV ?_) a_nV
  refine a_aload_n C dX9_isPickup_15 rfl ?_
  refine a_iload_n C dX9_isPickup_16 rfl ?_
  refine a_callVN (o := 200 + b + 10) (As := [ii_v ((k : Nat) : Int)]) C (c_stopAtS hl f w (ob_btour hb h4) (ar_btour hb h4) hS k k rfl hk) co_X7_stopAt in_X7 mn_X9_229 im_X7_stopAt se_X7_stopAt rfl (ob_btour hb h4) ar_X7_stopAt ⟨by decide, by decide, by decide, by decide⟩ rfl (Nat.le_of_ble_eq_true rfl) dX9_isPickup_17 (a_dR ?_) a_nR
  refine a_callS (As := [ii_v (((S.getD k 0) : Nat) : Int)]) C (c_picksUp hl f w (S.getD k 0) (by omega)) co_X9_picksUp in_X9 ml_X9_235 sc_X9_picksUp ar_X9_picksUp ⟨by decide, by decide, by decide, by decide⟩ rfl (Nat.le_of_ble_eq_true rfl) dX9_isPickup_20 (a_dR ?_) a_nR
  refine a_zret C ii_nb ?_ (by decide) (by decide) dX9_isPickup_23
  rw [hPost]
  exact ⟨rfl, rfl, rfl, rfl⟩
set_option maxRecDepth 20000 in
set_option maxHeartbeats 2000000 in
theorem x2_stopRequest {l : Launch} {E : ab_E} {base : Nat} (hl : l.stackTraces = false) {ad : Nat → Nat} (f : Nat → Nat → Int) (w : Nat × Nat × Int64 × UInt64) {b : Nat} (hb : b < w.1) (h4 : w.1 ≤ 4) {S : List Nat} (hS : ts_I f (200 + b + 10) S) (i : Int) (zi : -2147483648 ≤ i ∧ i < 2147483648) (h : i < 0 ∨ (S.length : Int) ≤ i)  : ab_M l E base yX9_stopRequest cX9_stopRequest 4 (some .int) 8 1 6 [.ref (ad 0), ii_v ((b : Nat) : Int), ii_v i] ab_x4 ad (f, w) (ab_T "java/util/NoSuchElementException" ab_x4 ad (f, w)) := by
  obtain ⟨Post, hPost⟩ : ∃ P : ab_P, P = (ab_T "java/util/NoSuchElementException" ab_x4 ad (f, w)) := ⟨_, rfl⟩
  rw [← hPost]
  refine ab_of RX9 [(0, .ref (ad 0)), (1, ii_v ((b : Nat) : Int)), (2, ii_v i)] hl (by decide) rfl (Nat.le_of_ble_eq_true rfl) rfl ?_
  intro p e s m args below meth c C T0 hnm
  refine a_aload_n C dX9_stopRequest_0 rfl ?_
  refine a_iload_n C dX9_stopRequest_1 rfl ?_
  refine a_callV (o := 0) (As := [ii_v ((b : Nat) : Int)]) C (c_keptBus hl f w hb h4) co_X9_keptBus in_X9 ml_X9_182 im_X9_keptBus se_X9_keptBus rfl rfl ar_X9_keptBus ⟨by decide, by decide, by decide, by decide⟩ rfl (Nat.le_of_ble_eq_true rfl) dX9_stopRequest_2 (a_dR ?_) a_nR
  refine a_getN (ci := 2) (i := 5) (v := .ref (ad (200 + b + 10))) C iw_X1 rfl (by decide) rfl fn_X9_142 (ob_bus hb h4) rfl dX9_stopRequest_5 ?_
  refine a_astore_n (L' := [(0, .ref (ad 0)), (1, ii_v ((b : Nat) : Int)), (2, ii_v i), (3, .ref (ad (200 + b + 10)))]) C dX9_stopRequest_8 (by decide) rfl ?_
  refine a_aload_n C dX9_stopRequest_9 rfl ?_
  refine a_aload_n C dX9_stopRequest_10 rfl ?_
  refine a_iload_n C dX9_stopRequest_11 rfl ?_
  refine a_callV (o := 0) (As := [.ref (ad (200 + b + 10)), ii_v i]) C (x_checkStop hl f w (ob_btour hb h4) hS i zi h) co_X9_checkStop in_X9 ml_X9_226 im_X9_checkStop se_X9_checkStop rfl rfl ar_X9_checkStop ⟨by decide, by decide, by decide, by decide⟩ rfl (Nat.le_of_ble_eq_true rfl) dX9_stopRequest_12 a_nT (a_dT ?_)
  refine a_out C T0 ?_ (by decide) (by decide)
  rw [hPost]
  exact ⟨rfl, rfl, rfl, rfl⟩
set_option maxRecDepth 20000 in
set_option maxHeartbeats 2000000 in
theorem x_stopRequest {l : Launch} {E : ab_E} {base : Nat} (hl : l.stackTraces = false) {ad : Nat → Nat} (f : Nat → Nat → Int) (w : Nat × Nat × Int64 × UInt64) (h4 : w.1 ≤ 4) (i : Int) (zi : -2147483648 ≤ i ∧ i < 2147483648) (h : i < 0 ∨ (w.1 : Int) ≤ i) (j : Int)  : ab_M l E base yX9_stopRequest cX9_stopRequest 4 (some .int) 8 1 6 [.ref (ad 0), ii_v i, ii_v j] ab_x4 ad (f, w) (ab_T "java/lang/IndexOutOfBoundsException" ab_x4 ad (f, w)) := by
  obtain ⟨Post, hPost⟩ : ∃ P : ab_P, P = (ab_T "java/lang/IndexOutOfBoundsException" ab_x4 ad (f, w)) := ⟨_, rfl⟩
  rw [← hPost]
  refine ab_of RX9 [(0, .ref (ad 0)), (1, ii_v i), (2, ii_v j)] hl (by decide) rfl (Nat.le_of_ble_eq_true rfl) rfl ?_
  intro p e s m args below meth c C T0 hnm
  refine a_aload_n C dX9_stopRequest_0 rfl ?_
  refine a_iload_n C dX9_stopRequest_1 rfl ?_
  refine a_callV (o := 0) (As := [ii_v i]) C (x_keptBus hl f w h4 i zi h) co_X9_keptBus in_X9 ml_X9_182 im_X9_keptBus se_X9_keptBus rfl rfl ar_X9_keptBus ⟨by decide, by decide, by decide, by decide⟩ rfl (Nat.le_of_ble_eq_true rfl) dX9_stopRequest_2 a_nT (a_dT ?_)
  refine a_out C T0 ?_ (by decide) (by decide)
  rw [hPost]
  exact ⟨rfl, rfl, rfl, rfl⟩
set_option maxRecDepth 20000 in
set_option maxHeartbeats 2000000 in
theorem x2_isPickup {l : Launch} {E : ab_E} {base : Nat} (hl : l.stackTraces = false) {ad : Nat → Nat} (f : Nat → Nat → Int) (w : Nat × Nat × Int64 × UInt64) {b : Nat} (hb : b < w.1) (h4 : w.1 ≤ 4) {S : List Nat} (hS : ts_I f (200 + b + 10) S) (i : Int) (zi : -2147483648 ≤ i ∧ i < 2147483648) (h : i < 0 ∨ (S.length : Int) ≤ i)  : ab_M l E base yX9_isPickup cX9_isPickup 4 (some .boolean) 8 1 6 [.ref (ad 0), ii_v ((b : Nat) : Int), ii_v i] ab_x4 ad (f, w) (ab_T "java/util/NoSuchElementException" ab_x4 ad (f, w)) := by
  obtain ⟨Post, hPost⟩ : ∃ P : ab_P, P = (ab_T "java/util/NoSuchElementException" ab_x4 ad (f, w)) := ⟨_, rfl⟩
  rw [← hPost]
  refine ab_of RX9 [(0, .ref (ad 0)), (1, ii_v ((b : Nat) : Int)), (2, ii_v i)] hl (by decide) rfl (Nat.le_of_ble_eq_true rfl) rfl ?_
  intro p e s m args below meth c C T0 hnm
  refine a_aload_n C dX9_isPickup_0 rfl ?_
  refine a_iload_n C dX9_isPickup_1 rfl ?_
  refine a_callV (o := 0) (As := [ii_v ((b : Nat) : Int)]) C (c_keptBus hl f w hb h4) co_X9_keptBus in_X9 ml_X9_182 im_X9_keptBus se_X9_keptBus rfl rfl ar_X9_keptBus ⟨by decide, by decide, by decide, by decide⟩ rfl (Nat.le_of_ble_eq_true rfl) dX9_isPickup_2 (a_dR ?_) a_nR
  refine a_getN (ci := 2) (i := 5) (v := .ref (ad (200 + b + 10))) C iw_X1 rfl (by decide) rfl fn_X9_142 (ob_bus hb h4) rfl dX9_isPickup_5 ?_
  refine a_astore_n (L' := [(0, .ref (ad 0)), (1, ii_v ((b : Nat) : Int)), (2, ii_v i), (3, .ref (ad (200 + b + 10)))]) C dX9_isPickup_8 (by decide) rfl ?_
  refine a_aload_n C dX9_isPickup_9 rfl ?_
  refine a_aload_n C dX9_isPickup_10 rfl ?_
  refine a_iload_n C dX9_isPickup_11 rfl ?_
  refine a_callV (o := 0) (As := [.ref (ad (200 + b + 10)), ii_v i]) C (x_checkStop hl f w (ob_btour hb h4) hS i zi h) co_X9_checkStop in_X9 ml_X9_226 im_X9_checkStop se_X9_checkStop rfl rfl ar_X9_checkStop ⟨by decide, by decide, by decide, by decide⟩ rfl (Nat.le_of_ble_eq_true rfl) dX9_isPickup_12 a_nT (a_dT ?_)
  refine a_out C T0 ?_ (by decide) (by decide)
  rw [hPost]
  exact ⟨rfl, rfl, rfl, rfl⟩
set_option maxRecDepth 20000 in
set_option maxHeartbeats 2000000 in
theorem x_isPickup {l : Launch} {E : ab_E} {base : Nat} (hl : l.stackTraces = false) {ad : Nat → Nat} (f : Nat → Nat → Int) (w : Nat × Nat × Int64 × UInt64) (h4 : w.1 ≤ 4) (i : Int) (zi : -2147483648 ≤ i ∧ i < 2147483648) (h : i < 0 ∨ (w.1 : Int) ≤ i) (j : Int)  : ab_M l E base yX9_isPickup cX9_isPickup 4 (some .boolean) 8 1 6 [.ref (ad 0), ii_v i, ii_v j] ab_x4 ad (f, w) (ab_T "java/lang/IndexOutOfBoundsException" ab_x4 ad (f, w)) := by
  obtain ⟨Post, hPost⟩ : ∃ P : ab_P, P = (ab_T "java/lang/IndexOutOfBoundsException" ab_x4 ad (f, w)) := ⟨_, rfl⟩
  rw [← hPost]
  refine ab_of RX9 [(0, .ref (ad 0)), (1, ii_v i), (2, ii_v j)] hl (by decide) rfl (Nat.le_of_ble_eq_true rfl) rfl ?_
  intro p e s m args below meth c C T0 hnm
  refine a_aload_n C dX9_isPickup_0 rfl ?_
  refine a_iload_n C dX9_isPickup_1 rfl ?_
  refine a_callV (o := 0) (As := [ii_v i]) C (x_keptBus hl f w h4 i zi h) co_X9_keptBus in_X9 ml_X9_182 im_X9_keptBus se_X9_keptBus rfl rfl ar_X9_keptBus ⟨by decide, by decide, by decide, by decide⟩ rfl (Nat.le_of_ble_eq_true rfl) dX9_isPickup_2 a_nT (a_dT ?_)
  refine a_out C T0 ?_ (by decide) (by decide)
  rw [hPost]
  exact ⟨rfl, rfl, rfl, rfl⟩
set_option maxRecDepth 20000 in
set_option maxHeartbeats 2000000 in
theorem x2_stopTime {l : Launch} {E : ab_E} {base : Nat} (hl : l.stackTraces = false) {ad : Nat → Nat} (f : Nat → Nat → Int) (w : Nat × Nat × Int64 × UInt64) {b : Nat} (hb : b < w.1) (h4 : w.1 ≤ 4) {S : List Nat} (hS : ts_I f (200 + b + 10) S) (i : Int) (zi : -2147483648 ≤ i ∧ i < 2147483648) (h : i < 0 ∨ (S.length : Int) ≤ i)  : ab_M l E base yX9_stopTime cX9_stopTime 4 (some .int) 8 1 6 [.ref (ad 0), ii_v ((b : Nat) : Int), ii_v i] ab_x4 ad (f, w) (ab_T "java/util/NoSuchElementException" ab_x4 ad (f, w)) := by
  obtain ⟨Post, hPost⟩ : ∃ P : ab_P, P = (ab_T "java/util/NoSuchElementException" ab_x4 ad (f, w)) := ⟨_, rfl⟩
  rw [← hPost]
  refine ab_of RX9 [(0, .ref (ad 0)), (1, ii_v ((b : Nat) : Int)), (2, ii_v i)] hl (by decide) rfl (Nat.le_of_ble_eq_true rfl) rfl ?_
  intro p e s m args below meth c C T0 hnm
  refine a_aload_n C dX9_stopTime_0 rfl ?_
  refine a_iload_n C dX9_stopTime_1 rfl ?_
  refine a_callV (o := 0) (As := [ii_v ((b : Nat) : Int)]) C (c_keptBus hl f w hb h4) co_X9_keptBus in_X9 ml_X9_182 im_X9_keptBus se_X9_keptBus rfl rfl ar_X9_keptBus ⟨by decide, by decide, by decide, by decide⟩ rfl (Nat.le_of_ble_eq_true rfl) dX9_stopTime_2 (a_dR ?_) a_nR
  refine a_astore_n (L' := [(0, .ref (ad 0)), (1, ii_v ((b : Nat) : Int)), (2, ii_v i), (3, .ref (ad (200 + b)))]) C dX9_stopTime_5 (by decide) rfl ?_
  refine a_aload_n C dX9_stopTime_6 rfl ?_
  refine a_aload_n C dX9_stopTime_7 rfl ?_
  refine a_getN (ci := 2) (i := 5) (v := .ref (ad (200 + b + 10))) C iw_X1 rfl (by decide) rfl fn_X9_142 (ob_bus hb h4) rfl dX9_stopTime_8 ?_
  refine a_iload_n C dX9_stopTime_11 rfl ?_
  refine a_callV (o := 0) (As := [.ref (ad (200 + b + 10)), ii_v i]) C (x_checkStop hl f w (ob_btour hb h4) hS i zi h) co_X9_checkStop in_X9 ml_X9_226 im_X9_checkStop se_X9_checkStop rfl rfl ar_X9_checkStop ⟨by decide, by decide, by decide, by decide⟩ rfl (Nat.le_of_ble_eq_true rfl) dX9_stopTime_12 a_nT (a_dT ?_)
  refine a_out C T0 ?_ (by decide) (by decide)
  rw [hPost]
  exact ⟨rfl, rfl, rfl, rfl⟩
set_option maxRecDepth 20000 in
set_option maxHeartbeats 2000000 in
theorem x_stopTime {l : Launch} {E : ab_E} {base : Nat} (hl : l.stackTraces = false) {ad : Nat → Nat} (f : Nat → Nat → Int) (w : Nat × Nat × Int64 × UInt64) (h4 : w.1 ≤ 4) (i : Int) (zi : -2147483648 ≤ i ∧ i < 2147483648) (h : i < 0 ∨ (w.1 : Int) ≤ i) (j : Int)  : ab_M l E base yX9_stopTime cX9_stopTime 4 (some .int) 8 1 6 [.ref (ad 0), ii_v i, ii_v j] ab_x4 ad (f, w) (ab_T "java/lang/IndexOutOfBoundsException" ab_x4 ad (f, w)) := by
  obtain ⟨Post, hPost⟩ : ∃ P : ab_P, P = (ab_T "java/lang/IndexOutOfBoundsException" ab_x4 ad (f, w)) := ⟨_, rfl⟩
  rw [← hPost]
  refine ab_of RX9 [(0, .ref (ad 0)), (1, ii_v i), (2, ii_v j)] hl (by decide) rfl (Nat.le_of_ble_eq_true rfl) rfl ?_
  intro p e s m args below meth c C T0 hnm
  refine a_aload_n C dX9_stopTime_0 rfl ?_
  refine a_iload_n C dX9_stopTime_1 rfl ?_
  refine a_callV (o := 0) (As := [ii_v i]) C (x_keptBus hl f w h4 i zi h) co_X9_keptBus in_X9 ml_X9_182 im_X9_keptBus se_X9_keptBus rfl rfl ar_X9_keptBus ⟨by decide, by decide, by decide, by decide⟩ rfl (Nat.le_of_ble_eq_true rfl) dX9_stopTime_2 a_nT (a_dT ?_)
  refine a_out C T0 ?_ (by decide) (by decide)
  rw [hPost]
  exact ⟨rfl, rfl, rfl, rfl⟩
set_option maxRecDepth 20000 in
set_option maxHeartbeats 2000000 in
theorem c_stopTime {l : Launch} {E : ab_E} {base : Nat} (hl : l.stackTraces = false) {ad : Nat → Nat} (f : Nat → Nat → Int) (w : Nat × Nat × Int64 × UInt64) (hr : w.2.1 ≤ 30) {v : Nat → Nat → Int} (hv : pe_C f v w.2.1) {b : Nat} (hb : b < w.1) (h4 : w.1 ≤ 4) (hB : pb_B f (200 + b)) {S : List Nat} (hS : ts_I f (200 + b + 10) S) (hq : ∀ j, j < S.length → S.getD j 0 / 2 ≤ w.2.1) (hnow : 0 ≤ f 0 6 ∧ f 0 6 ≤ 100000) (k : Nat) (hk : k < S.length)  : ab_M l E base yX9_stopTime cX9_stopTime 4 (some .int) 9 0 0 [.ref (ad 0), ii_v ((b : Nat) : Int), ii_v ((k : Nat) : Int)] ab_x4 ad (f, w) (ab_F ad w (fun ov g => ov = some (ii_v ((pl_tm v S (f (200 + b) 6) (f (200 + b) 7) (f 0 6)).getD (S.idxOf (S.getD k 0)) 0)) ∧ ∀ o2, o2 ≠ 10 → g o2 = f o2)) := by
  obtain ⟨Post, hPost⟩ : ∃ P : ab_P, P = (ab_F ad w (fun ov g => ov = some (ii_v ((pl_tm v S (f (200 + b) 6) (f (200 + b) 7) (f 0 6)).getD (S.idxOf (S.getD k 0)) 0)) ∧ ∀ o2, o2 ≠ 10 → g o2 = f o2)) := ⟨_, rfl⟩
  rw [← hPost]
  refine ab_of RX9 [(0, .ref (ad 0)), (1, ii_v ((b : Nat) : Int)), (2, ii_v ((k : Nat) : Int))] hl (by decide) rfl (Nat.le_of_ble_eq_true rfl) rfl ?_
  intro p e s m args below meth c C T0 hnm
  have hb64 := hS.2.2.2 k hk
  refine a_aload_n C dX9_stopTime_0 rfl ?_
  refine a_iload_n C dX9_stopTime_1 rfl ?_
  refine a_callV (o := 0) (As := [ii_v ((b : Nat) : Int)]) C (c_keptBus hl f w hb h4) co_X9_keptBus in_X9 ml_X9_182 im_X9_keptBus se_X9_keptBus rfl rfl ar_X9_keptBus ⟨by decide, by decide, by decide, by decide⟩ rfl (Nat.le_of_ble_eq_true rfl) dX9_stopTime_2 (a_dR ?_) a_nR
  refine a_astore_n (L' := [(0, .ref (ad 0)), (1, ii_v ((b : Nat) : Int)), (2, ii_v ((k : Nat) : Int)), (3, .ref (ad (200 + b)))]) C dX9_stopTime_5 (by decide) rfl ?_
  refine a_aload_n C dX9_stopTime_6 rfl ?_
  refine a_aload_n C dX9_stopTime_7 rfl ?_
  refine a_getN (ci := 2) (i := 5) (v := .ref (ad (200 + b + 10))) C iw_X1 rfl (by decide) rfl fn_X9_142 (ob_bus hb h4) rfl dX9_stopTime_8 ?_
  refine a_iload_n C dX9_stopTime_11 rfl ?_
  refine a_callV (o := 0) (As := [.ref (ad (200 + b + 10)), ii_v ((k : Nat) : Int)]) C (c_checkStop hl f w (ob_btour hb h4) hS k hk) co_X9_checkStop in_X9 ml_X9_226 im_X9_checkStop se_X9_checkStop rfl rfl ar_X9_checkStop ⟨by decide, by decide, by decide, by decide⟩ rfl (Nat.le_of_ble_eq_true rfl) dX9_stopTime_12 (a_dV ?_) a_nV
  refine a_aload_n C dX9_stopTime_15 rfl ?_
  refine a_aload_n C dX9_stopTime_16 rfl ?_
  refine a_aload_n C dX9_stopTime_17 rfl ?_
  refine a_getN (ci := 2) (i := 5) (v := .ref (ad (200 + b + 10))) C iw_X1 rfl (by decide) rfl fn_X9_142 (ob_bus hb h4) rfl dX9_stopTime_18 ?_
  refine a_iload_n C dX9_stopTime_21 rfl ?_
  refine a_callVN (o := 200 + b + 10) (As := [ii_v ((k : Nat) : Int)]) C (c_stopAtS hl f w (ob_btour hb h4) (ar_btour hb h4) hS k k rfl hk) co_X7_stopAt in_X7 mn_X9_229 im_X7_stopAt se_X7_stopAt rfl (ob_btour hb h4) ar_X7_stopAt ⟨by decide, by decide, by decide, by decide⟩ rfl (Nat.le_of_ble_eq_true rfl) dX9_stopTime_22 (a_dR ?_) a_nR
  refine a_callV (o := 0) (As := [.ref (ad (200 + b)), ii_v (((S.getD k 0) : Nat) : Int)]) C (c_planned hl f w hr hv hb h4 hB hS hq hnow (S.getD k 0) hb64 (gd_mem hk)) co_X9_plannedTime in_X9 ml_X9_214 im_X9_plannedTime se_X9_plannedTime rfl rfl ar_X9_plannedTime ⟨by decide, by decide, by decide, by decide⟩ rfl (Nat.le_of_ble_eq_true rfl) dX9_stopTime_25 (a_dF ?_) a_nF
  intro vg1 g1 hvg1
  obtain ⟨rfl, hfg1⟩ := hvg1
  refine a_iret C ?_ (by decide) (by decide) dX9_stopTime_28
  rw [hPost]
  exact ab_F_of ⟨rfl, hfg1⟩
set_option maxRecDepth 20000 in
set_option maxHeartbeats 2000000 in
theorem c_length {l : Launch} {E : ab_E} {base : Nat} (hl : l.stackTraces = false) {ad : Nat → Nat} (f : Nat → Nat → Int) (w : Nat × Nat × Int64 × UInt64) (hr : w.2.1 ≤ 30) {v : Nat → Nat → Int} (hv : pe_C f v w.2.1) {b : Nat} (hb : b < w.1) (h4 : w.1 ≤ 4) (hB : pb_B f (200 + b)) {S : List Nat} (hS : ts_I f (200 + b + 10) S) (hq : ∀ j, j < S.length → S.getD j 0 / 2 ≤ w.2.1)  : ab_M l E base yX9_length cX9_length 3 (some .int) 8 0 0 [.ref (ad 0), ii_v ((b : Nat) : Int)] ab_x4 ad (f, w) (ab_R (ii_v (pl_len v (f (200 + b) 3) (f (200 + b) 4) S (f (200 + b) 6) (f (200 + b) 7))) ab_x4 ad (f, w)) := by
  obtain ⟨Post, hPost⟩ : ∃ P : ab_P, P = (ab_R (ii_v (pl_len v (f (200 + b) 3) (f (200 + b) 4) S (f (200 + b) 6) (f (200 + b) 7))) ab_x4 ad (f, w)) := ⟨_, rfl⟩
  rw [← hPost]
  refine ab_of RX9 [(0, .ref (ad 0)), (1, ii_v ((b : Nat) : Int))] hl (by decide) rfl (Nat.le_of_ble_eq_true rfl) rfl ?_
  intro p e s m args below meth c C T0 hnm
  refine a_aload_n C dX9_length_0 rfl ?_
  refine a_iload_n C dX9_length_1 rfl ?_
  refine a_callV (o := 0) (As := [ii_v ((b : Nat) : Int)]) C (c_keptBus hl f w hb h4) co_X9_keptBus in_X9 ml_X9_182 im_X9_keptBus se_X9_keptBus rfl rfl ar_X9_keptBus ⟨by decide, by decide, by decide, by decide⟩ rfl (Nat.le_of_ble_eq_true rfl) dX9_length_2 (a_dR ?_) a_nR
  refine a_astore_n (L' := [(0, .ref (ad 0)), (1, ii_v ((b : Nat) : Int)), (2, .ref (ad (200 + b)))]) C dX9_length_5 (by decide) rfl ?_
  refine a_aload_n C dX9_length_6 rfl ?_
  refine a_get (ci := 10) (i := 3) (v := .ref (ad 9)) C iw_X9 rfl (by decide) rfl fl_X9_35 rfl rfl dX9_length_7 ?_
  refine a_aload_n C dX9_length_10 rfl ?_
  refine a_aload_n C dX9_length_11 rfl ?_
  refine a_getN (ci := 2) (i := 5) (v := .ref (ad (200 + b + 10))) C iw_X1 rfl (by decide) rfl fn_X9_142 (ob_bus hb h4) rfl dX9_length_12 ?_
  refine a_callVN (o := 9) (As := [.ref (ad (200 + b)), .ref (ad (200 + b + 10))]) C (c_lengthOf hl f w hr hv (ob_bus hb h4) hB (ob_btour hb h4) (ar_btour hb h4) hS hq) co_X3_lengthOf in_X3 mn_X9_239 im_X3_lengthOf se_X3_lengthOf rfl rfl ar_X3_lengthOf ⟨by decide, by decide, by decide, by decide⟩ rfl (Nat.le_of_ble_eq_true rfl) dX9_length_15 (a_dR ?_) a_nR
  refine a_iret C ?_ (by decide) (by decide) dX9_length_18
  rw [hPost]
  exact ⟨rfl, rfl, rfl, rfl⟩
set_option maxRecDepth 20000 in
set_option maxHeartbeats 2000000 in
theorem x_length {l : Launch} {E : ab_E} {base : Nat} (hl : l.stackTraces = false) {ad : Nat → Nat} (f : Nat → Nat → Int) (w : Nat × Nat × Int64 × UInt64) (h4 : w.1 ≤ 4) (i : Int) (zi : -2147483648 ≤ i ∧ i < 2147483648) (h : i < 0 ∨ (w.1 : Int) ≤ i)  : ab_M l E base yX9_length cX9_length 3 (some .int) 8 1 6 [.ref (ad 0), ii_v i] ab_x4 ad (f, w) (ab_T "java/lang/IndexOutOfBoundsException" ab_x4 ad (f, w)) := by
  obtain ⟨Post, hPost⟩ : ∃ P : ab_P, P = (ab_T "java/lang/IndexOutOfBoundsException" ab_x4 ad (f, w)) := ⟨_, rfl⟩
  rw [← hPost]
  refine ab_of RX9 [(0, .ref (ad 0)), (1, ii_v i)] hl (by decide) rfl (Nat.le_of_ble_eq_true rfl) rfl ?_
  intro p e s m args below meth c C T0 hnm
  refine a_aload_n C dX9_length_0 rfl ?_
  refine a_iload_n C dX9_length_1 rfl ?_
  refine a_callV (o := 0) (As := [ii_v i]) C (x_keptBus hl f w h4 i zi h) co_X9_keptBus in_X9 ml_X9_182 im_X9_keptBus se_X9_keptBus rfl rfl ar_X9_keptBus ⟨by decide, by decide, by decide, by decide⟩ rfl (Nat.le_of_ble_eq_true rfl) dX9_length_2 a_nT (a_dT ?_)
  refine a_out C T0 ?_ (by decide) (by decide)
  rw [hPost]
  exact ⟨rfl, rfl, rfl, rfl⟩
set_option maxRecDepth 20000 in
set_option maxHeartbeats 2000000 in
theorem c_bestLength {l : Launch} {E : ab_E} {base : Nat} (hl : l.stackTraces = false) {ad : Nat → Nat} (f : Nat → Nat → Int) (w : Nat × Nat × Int64 × UInt64) (hr : w.2.1 ≤ 30) {v : Nat → Nat → Int} (hv : pe_C f v w.2.1) {b : Nat} (hb : b < w.1) (h4 : w.1 ≤ 4) (hB : pb_B f (200 + b)) {S : List Nat} (hS : ts_I f (200 + b + 10) S) (hq : ∀ j, j < S.length → S.getD j 0 / 2 ≤ w.2.1) (hS6 : S.length ≤ 6) (hnd : nd_L S) (hnow : 0 ≤ f 0 6 ∧ f 0 6 ≤ 100000)  : ab_M l E base yX9_bestLength cX9_bestLength 3 (some .int) 10 0 0 [.ref (ad 0), ii_v ((b : Nat) : Int)] ab_x4 ad (f, w) (ab_F ad w (fun r g => (∃ O1 F, so_P true 0 S O1 ∧ r = some (ii_v (pl_len v (f (200 + b) 3) (f (200 + b) 4) F (f (200 + b) 6) (f (200 + b) 7))) ∧ pm_L S F ∧ oe_R v (f (200 + b)) (f 0 6) 720 O1 S (pl_len v (f (200 + b) 3) (f (200 + b) 4) S (f (200 + b) 6) (f (200 + b) 7) + 1) F) ∧ ∀ o2, o2 ≠ 10 → o2 ≠ 11 → o2 ≠ 12 → o2 ≠ 15 → o2 ≠ 16 → o2 ≠ 17 → o2 ≠ 25 → o2 ≠ 26 → g o2 = f o2)) := by
  obtain ⟨Post, hPost⟩ : ∃ P : ab_P, P = (ab_F ad w (fun r g => (∃ O1 F, so_P true 0 S O1 ∧ r = some (ii_v (pl_len v (f (200 + b) 3) (f (200 + b) 4) F (f (200 + b) 6) (f (200 + b) 7))) ∧ pm_L S F ∧ oe_R v (f (200 + b)) (f 0 6) 720 O1 S (pl_len v (f (200 + b) 3) (f (200 + b) 4) S (f (200 + b) 6) (f (200 + b) 7) + 1) F) ∧ ∀ o2, o2 ≠ 10 → o2 ≠ 11 → o2 ≠ 12 → o2 ≠ 15 → o2 ≠ 16 → o2 ≠ 17 → o2 ≠ 25 → o2 ≠ 26 → g o2 = f o2)) := ⟨_, rfl⟩
  rw [← hPost]
  refine ab_of RX9 [(0, .ref (ad 0)), (1, ii_v ((b : Nat) : Int))] hl (by decide) rfl (Nat.le_of_ble_eq_true rfl) rfl ?_
  intro p e s m args below meth c C T0 hnm
  refine a_aload_n C dX9_bestLength_0 rfl ?_
  refine a_iload_n C dX9_bestLength_1 rfl ?_
  refine a_callV (o := 0) (As := [ii_v ((b : Nat) : Int)]) C (c_keptBus hl f w hb h4) co_X9_keptBus in_X9 ml_X9_182 im_X9_keptBus se_X9_keptBus rfl rfl ar_X9_keptBus ⟨by decide, by decide, by decide, by decide⟩ rfl (Nat.le_of_ble_eq_true rfl) dX9_bestLength_2 (a_dR ?_) a_nR
  refine a_astore_n (L' := [(0, .ref (ad 0)), (1, ii_v ((b : Nat) : Int)), (2, .ref (ad (200 + b)))]) C dX9_bestLength_5 (by decide) rfl ?_
  refine a_aload_n C dX9_bestLength_6 rfl ?_
  refine a_get (ci := 10) (i := 5) (v := .ref (ad 17)) C iw_X9 rfl (by decide) rfl fl_X9_54 rfl rfl dX9_bestLength_7 ?_
  refine a_aload_n C dX9_bestLength_10 rfl ?_
  refine a_aload_n C dX9_bestLength_11 rfl ?_
  refine a_get (ci := 10) (i := 6) (v := ii_v (f 0 6)) C iw_X9 rfl (by decide) rfl fl_X9_58 rfl rfl dX9_bestLength_12 ?_
  refine a_callVN (o := 17) (As := [.ref (ad (200 + b)), ii_v (f 0 6)]) C (c_otryEarly hl f w hr hv hb h4 hB hS hq hS6 hnd (f 0 6) hnow) co_X5_tryEarly in_X5 mn_X9_243 im_X5_tryEarly se_X5_tryEarly rfl rfl ar_X5_tryEarly ⟨by decide, by decide, by decide, by decide⟩ rfl (Nat.le_of_ble_eq_true rfl) dX9_bestLength_15 (a_dF ?_) a_nF
  intro vg1 g1 hvg1
  obtain ⟨rfl, ⟨O1, F, hp1, hFg1, hpF, hoF⟩, hfg1⟩ := hvg1
  have hwg1 : g1 (200 + b) = f (200 + b) := hfg1 _ (by omega) (by omega) (by omega) (by omega) (by omega) (by omega) (by omega) (by omega)
  refine a_aload_n C dX9_bestLength_18 rfl ?_
  refine a_get (ci := 10) (i := 3) (v := .ref (ad 9)) C iw_X9 rfl (by decide) rfl fl_X9_35 rfl rfl dX9_bestLength_19 ?_
  refine a_aload_n C dX9_bestLength_22 rfl ?_
  refine a_aload_n C dX9_bestLength_23 rfl ?_
  refine a_get (ci := 10) (i := 5) (v := .ref (ad 17)) C iw_X9 rfl (by decide) rfl fl_X9_54 rfl rfl dX9_bestLength_24 ?_
  refine a_getN (ci := 6) (i := 3) (v := .ref (ad 16)) C iw_X5 rfl (by decide) rfl fn_X9_246 rfl rfl dX9_bestLength_27 ?_
  refine a_callVN (o := 9) (As := [.ref (ad (200 + b)), .ref (ad 16)]) C (c_lengthOf hl g1 w hr (pe_same hv (fun o2 h => hfg1 o2 (by omega) (by omega) (by omega) (by omega) (by omega) (by omega) (by omega) (by omega))) (ob_bus hb h4) (by unfold pb_B; rw [hwg1]; exact hB) rfl rfl hFg1 (pm_ok hpF hq)) co_X3_lengthOf in_X3 mn_X9_239 im_X3_lengthOf se_X3_lengthOf rfl rfl ar_X3_lengthOf ⟨by decide, by decide, by decide, by decide⟩ rfl (Nat.le_of_ble_eq_true rfl) dX9_bestLength_30 (a_dR ?_) a_nR
  rw [hwg1]
  refine a_iret C ?_ (by decide) (by decide) dX9_bestLength_33
  rw [hPost]
  exact ab_F_of ⟨⟨O1, F, hp1, rfl, hpF, hoF⟩, hfg1⟩
set_option maxRecDepth 20000 in
set_option maxHeartbeats 2000000 in
theorem x_bestLength {l : Launch} {E : ab_E} {base : Nat} (hl : l.stackTraces = false) {ad : Nat → Nat} (f : Nat → Nat → Int) (w : Nat × Nat × Int64 × UInt64) (h4 : w.1 ≤ 4) (i : Int) (zi : -2147483648 ≤ i ∧ i < 2147483648) (h : i < 0 ∨ (w.1 : Int) ≤ i)  : ab_M l E base yX9_bestLength cX9_bestLength 3 (some .int) 8 1 6 [.ref (ad 0), ii_v i] ab_x4 ad (f, w) (ab_T "java/lang/IndexOutOfBoundsException" ab_x4 ad (f, w)) := by
  obtain ⟨Post, hPost⟩ : ∃ P : ab_P, P = (ab_T "java/lang/IndexOutOfBoundsException" ab_x4 ad (f, w)) := ⟨_, rfl⟩
  rw [← hPost]
  refine ab_of RX9 [(0, .ref (ad 0)), (1, ii_v i)] hl (by decide) rfl (Nat.le_of_ble_eq_true rfl) rfl ?_
  intro p e s m args below meth c C T0 hnm
  refine a_aload_n C dX9_bestLength_0 rfl ?_
  refine a_iload_n C dX9_bestLength_1 rfl ?_
  refine a_callV (o := 0) (As := [ii_v i]) C (x_keptBus hl f w h4 i zi h) co_X9_keptBus in_X9 ml_X9_182 im_X9_keptBus se_X9_keptBus rfl rfl ar_X9_keptBus ⟨by decide, by decide, by decide, by decide⟩ rfl (Nat.le_of_ble_eq_true rfl) dX9_bestLength_2 a_nT (a_dT ?_)
  refine a_out C T0 ?_ (by decide) (by decide)
  rw [hPost]
  exact ⟨rfl, rfl, rfl, rfl⟩
set_option maxRecDepth 20000 in
set_option maxHeartbeats 2000000 in
theorem c_bestLengthByTrying {l : Launch} {E : ab_E} {base : Nat} (hl : l.stackTraces = false) {ad : Nat → Nat} (f : Nat → Nat → Int) (w : Nat × Nat × Int64 × UInt64) (hr : w.2.1 ≤ 30) {v : Nat → Nat → Int} (hv : pe_C f v w.2.1) {b : Nat} (hb : b < w.1) (h4 : w.1 ≤ 4) (hB : pb_B f (200 + b)) {S : List Nat} (hS : ts_I f (200 + b + 10) S) (hq : ∀ j, j < S.length → S.getD j 0 / 2 ≤ w.2.1) (hS6 : S.length ≤ 6) (hnd : nd_L S) (hnow : 0 ≤ f 0 6 ∧ f 0 6 ≤ 100000)  : ab_M l E base yX9_bestLengthByTrying cX9_bestLengthByTrying 3 (some .int) 10 0 0 [.ref (ad 0), ii_v ((b : Nat) : Int)] ab_x4 ad (f, w) (ab_F ad w (fun r g => (∃ O1 F, so_P true 0 S O1 ∧ r = some (ii_v (pl_len v (f (200 + b) 3) (f (200 + b) 4) F (f (200 + b) 6) (f (200 + b) 7))) ∧ pm_L S F ∧ oa_R v (f (200 + b)) (f 0 6) 720 O1 S (pl_len v (f (200 + b) 3) (f (200 + b) 4) S (f (200 + b) 6) (f (200 + b) 7) + 1) F) ∧ ∀ o2, o2 ≠ 10 → o2 ≠ 11 → o2 ≠ 12 → o2 ≠ 15 → o2 ≠ 16 → o2 ≠ 17 → o2 ≠ 25 → o2 ≠ 26 → g o2 = f o2)) := by
  obtain ⟨Post, hPost⟩ : ∃ P : ab_P, P = (ab_F ad w (fun r g => (∃ O1 F, so_P true 0 S O1 ∧ r = some (ii_v (pl_len v (f (200 + b) 3) (f (200 + b) 4) F (f (200 + b) 6) (f (200 + b) 7))) ∧ pm_L S F ∧ oa_R v (f (200 + b)) (f 0 6) 720 O1 S (pl_len v (f (200 + b) 3) (f (200 + b) 4) S (f (200 + b) 6) (f (200 + b) 7) + 1) F) ∧ ∀ o2, o2 ≠ 10 → o2 ≠ 11 → o2 ≠ 12 → o2 ≠ 15 → o2 ≠ 16 → o2 ≠ 17 → o2 ≠ 25 → o2 ≠ 26 → g o2 = f o2)) := ⟨_, rfl⟩
  rw [← hPost]
  refine ab_of RX9 [(0, .ref (ad 0)), (1, ii_v ((b : Nat) : Int))] hl (by decide) rfl (Nat.le_of_ble_eq_true rfl) rfl ?_
  intro p e s m args below meth c C T0 hnm
  refine a_aload_n C dX9_bestLengthByTrying_0 rfl ?_
  refine a_iload_n C dX9_bestLengthByTrying_1 rfl ?_
  refine a_callV (o := 0) (As := [ii_v ((b : Nat) : Int)]) C (c_keptBus hl f w hb h4) co_X9_keptBus in_X9 ml_X9_182 im_X9_keptBus se_X9_keptBus rfl rfl ar_X9_keptBus ⟨by decide, by decide, by decide, by decide⟩ rfl (Nat.le_of_ble_eq_true rfl) dX9_bestLengthByTrying_2 (a_dR ?_) a_nR
  refine a_astore_n (L' := [(0, .ref (ad 0)), (1, ii_v ((b : Nat) : Int)), (2, .ref (ad (200 + b)))]) C dX9_bestLengthByTrying_5 (by decide) rfl ?_
  refine a_aload_n C dX9_bestLengthByTrying_6 rfl ?_
  refine a_get (ci := 10) (i := 5) (v := .ref (ad 17)) C iw_X9 rfl (by decide) rfl fl_X9_54 rfl rfl dX9_bestLengthByTrying_7 ?_
  refine a_aload_n C dX9_bestLengthByTrying_10 rfl ?_
  refine a_aload_n C dX9_bestLengthByTrying_11 rfl ?_
  refine a_get (ci := 10) (i := 6) (v := ii_v (f 0 6)) C iw_X9 rfl (by decide) rfl fl_X9_58 rfl rfl dX9_bestLengthByTrying_12 ?_
  refine a_callVN (o := 17) (As := [.ref (ad (200 + b)), ii_v (f 0 6)]) C (c_otryAll hl f w hr hv hb h4 hB hS hq hS6 hnd (f 0 6) hnow) co_X5_tryAll in_X5 mn_X9_249 im_X5_tryAll se_X5_tryAll rfl rfl ar_X5_tryAll ⟨by decide, by decide, by decide, by decide⟩ rfl (Nat.le_of_ble_eq_true rfl) dX9_bestLengthByTrying_15 (a_dF ?_) a_nF
  intro vg1 g1 hvg1
  obtain ⟨rfl, ⟨O1, F, hp1, hFg1, hpF, hoF⟩, hfg1⟩ := hvg1
  have hwg1 : g1 (200 + b) = f (200 + b) := hfg1 _ (by omega) (by omega) (by omega) (by omega) (by omega) (by omega) (by omega) (by omega)
  refine a_aload_n C dX9_bestLengthByTrying_18 rfl ?_
  refine a_get (ci := 10) (i := 3) (v := .ref (ad 9)) C iw_X9 rfl (by decide) rfl fl_X9_35 rfl rfl dX9_bestLengthByTrying_19 ?_
  refine a_aload_n C dX9_bestLengthByTrying_22 rfl ?_
  refine a_aload_n C dX9_bestLengthByTrying_23 rfl ?_
  refine a_get (ci := 10) (i := 5) (v := .ref (ad 17)) C iw_X9 rfl (by decide) rfl fl_X9_54 rfl rfl dX9_bestLengthByTrying_24 ?_
  refine a_getN (ci := 6) (i := 3) (v := .ref (ad 16)) C iw_X5 rfl (by decide) rfl fn_X9_246 rfl rfl dX9_bestLengthByTrying_27 ?_
  refine a_callVN (o := 9) (As := [.ref (ad (200 + b)), .ref (ad 16)]) C (c_lengthOf hl g1 w hr (pe_same hv (fun o2 h => hfg1 o2 (by omega) (by omega) (by omega) (by omega) (by omega) (by omega) (by omega) (by omega))) (ob_bus hb h4) (by unfold pb_B; rw [hwg1]; exact hB) rfl rfl hFg1 (pm_ok hpF hq)) co_X3_lengthOf in_X3 mn_X9_239 im_X3_lengthOf se_X3_lengthOf rfl rfl ar_X3_lengthOf ⟨by decide, by decide, by decide, by decide⟩ rfl (Nat.le_of_ble_eq_true rfl) dX9_bestLengthByTrying_30 (a_dR ?_) a_nR
  rw [hwg1]
  refine a_iret C ?_ (by decide) (by decide) dX9_bestLengthByTrying_33
  rw [hPost]
  exact ab_F_of ⟨⟨O1, F, hp1, rfl, hpF, hoF⟩, hfg1⟩
set_option maxRecDepth 20000 in
set_option maxHeartbeats 2000000 in
theorem x_bestLengthByTrying {l : Launch} {E : ab_E} {base : Nat} (hl : l.stackTraces = false) {ad : Nat → Nat} (f : Nat → Nat → Int) (w : Nat × Nat × Int64 × UInt64) (h4 : w.1 ≤ 4) (i : Int) (zi : -2147483648 ≤ i ∧ i < 2147483648) (h : i < 0 ∨ (w.1 : Int) ≤ i)  : ab_M l E base yX9_bestLengthByTrying cX9_bestLengthByTrying 3 (some .int) 8 1 6 [.ref (ad 0), ii_v i] ab_x4 ad (f, w) (ab_T "java/lang/IndexOutOfBoundsException" ab_x4 ad (f, w)) := by
  obtain ⟨Post, hPost⟩ : ∃ P : ab_P, P = (ab_T "java/lang/IndexOutOfBoundsException" ab_x4 ad (f, w)) := ⟨_, rfl⟩
  rw [← hPost]
  refine ab_of RX9 [(0, .ref (ad 0)), (1, ii_v i)] hl (by decide) rfl (Nat.le_of_ble_eq_true rfl) rfl ?_
  intro p e s m args below meth c C T0 hnm
  refine a_aload_n C dX9_bestLengthByTrying_0 rfl ?_
  refine a_iload_n C dX9_bestLengthByTrying_1 rfl ?_
  refine a_callV (o := 0) (As := [ii_v i]) C (x_keptBus hl f w h4 i zi h) co_X9_keptBus in_X9 ml_X9_182 im_X9_keptBus se_X9_keptBus rfl rfl ar_X9_keptBus ⟨by decide, by decide, by decide, by decide⟩ rfl (Nat.le_of_ble_eq_true rfl) dX9_bestLengthByTrying_2 a_nT (a_dT ?_)
  refine a_out C T0 ?_ (by decide) (by decide)
  rw [hPost]
  exact ⟨rfl, rfl, rfl, rfl⟩
set_option maxRecDepth 20000 in
set_option maxHeartbeats 2000000 in
theorem x_improve {l : Launch} {E : ab_E} {base : Nat} (hl : l.stackTraces = false) {ad : Nat → Nat} (f : Nat → Nat → Int) (w : Nat × Nat × Int64 × UInt64) (h4 : w.1 ≤ 4) (i : Int) (zi : -2147483648 ≤ i ∧ i < 2147483648) (h : i < 0 ∨ (w.1 : Int) ≤ i)  : ab_M l E base yX9_improve cX9_improve 5 (some .int) 8 1 6 [.ref (ad 0), ii_v i] ab_x4 ad (f, w) (ab_T "java/lang/IndexOutOfBoundsException" ab_x4 ad (f, w)) := by
  obtain ⟨Post, hPost⟩ : ∃ P : ab_P, P = (ab_T "java/lang/IndexOutOfBoundsException" ab_x4 ad (f, w)) := ⟨_, rfl⟩
  rw [← hPost]
  refine ab_of RX9 [(0, .ref (ad 0)), (1, ii_v i)] hl (by decide) rfl (Nat.le_of_ble_eq_true rfl) rfl ?_
  intro p e s m args below meth c C T0 hnm
  refine a_aload_n C dX9_improve_0 rfl ?_
  refine a_iload_n C dX9_improve_1 rfl ?_
  refine a_callV (o := 0) (As := [ii_v i]) C (x_keptBus hl f w h4 i zi h) co_X9_keptBus in_X9 ml_X9_182 im_X9_keptBus se_X9_keptBus rfl rfl ar_X9_keptBus ⟨by decide, by decide, by decide, by decide⟩ rfl (Nat.le_of_ble_eq_true rfl) dX9_improve_2 a_nT (a_dT ?_)
  refine a_out C T0 ?_ (by decide) (by decide)
  rw [hPost]
  exact ⟨rfl, rfl, rfl, rfl⟩
set_option maxRecDepth 20000 in
set_option maxHeartbeats 2000000 in
theorem c_status {l : Launch} {E : ab_E} {base : Nat} (hl : l.stackTraces = false) {ad : Nat → Nat} (f : Nat → Nat → Int) (w : Nat × Nat × Int64 × UInt64) (hr : w.2.1 ≤ 30) (r : Nat) (hrn : r < w.2.1) (hst : st_ok (f (300 + r) 8))  : ab_M l E base yX9_status cX9_status 2 (some .char) 8 0 0 [.ref (ad 0), ii_v ((r : Nat) : Int)] ab_x4 ad (f, w) (ab_R (ii_v (f (300 + r) 8)) ab_x4 ad (f, w)) := by
  obtain ⟨Post, hPost⟩ : ∃ P : ab_P, P = (ab_R (ii_v (f (300 + r) 8)) ab_x4 ad (f, w)) := ⟨_, rfl⟩
  rw [← hPost]
  refine ab_of RX9 [(0, .ref (ad 0)), (1, ii_v ((r : Nat) : Int))] hl (by decide) rfl (Nat.le_of_ble_eq_true rfl) rfl ?_
  intro p e s m args below meth c C T0 hnm
  refine a_aload_n C dX9_status_0 rfl ?_
  refine a_iload_n C dX9_status_1 rfl ?_
  refine a_callV (o := 0) (As := [ii_v ((r : Nat) : Int)]) C (c_keptReq hl f w hr r hrn) co_X9_keptRequest in_X9 ml_X9_176 im_X9_keptRequest se_X9_keptRequest rfl rfl ar_X9_keptRequest ⟨by decide, by decide, by decide, by decide⟩ rfl (Nat.le_of_ble_eq_true rfl) dX9_status_2 (a_dR ?_) a_nR
  refine a_getN (ci := 7) (i := 8) (v := ii_v (f (300 + r) 8)) C iw_X6 rfl (by decide) rfl fn_X9_132 (ob_req (Nat.le_of_lt hrn)) rfl dX9_status_5 ?_
  refine a_zret C (st_nc hst) ?_ (by decide) (by decide) dX9_status_8
  rw [hPost]
  exact ⟨rfl, rfl, rfl, rfl⟩
set_option maxRecDepth 20000 in
set_option maxHeartbeats 2000000 in
theorem c_latestPickup {l : Launch} {E : ab_E} {base : Nat} (hl : l.stackTraces = false) {ad : Nat → Nat} (f : Nat → Nat → Int) (w : Nat × Nat × Int64 × UInt64) (hr : w.2.1 ≤ 30) (r : Nat) (hrn : r < w.2.1)  : ab_M l E base yX9_latestPickup cX9_latestPickup 2 (some .int) 8 0 0 [.ref (ad 0), ii_v ((r : Nat) : Int)] ab_x4 ad (f, w) (ab_R (ii_v (f (300 + r) 6)) ab_x4 ad (f, w)) := by
  obtain ⟨Post, hPost⟩ : ∃ P : ab_P, P = (ab_R (ii_v (f (300 + r) 6)) ab_x4 ad (f, w)) := ⟨_, rfl⟩
  rw [← hPost]
  refine ab_of RX9 [(0, .ref (ad 0)), (1, ii_v ((r : Nat) : Int))] hl (by decide) rfl (Nat.le_of_ble_eq_true rfl) rfl ?_
  intro p e s m args below meth c C T0 hnm
  refine a_aload_n C dX9_latestPickup_0 rfl ?_
  refine a_iload_n C dX9_latestPickup_1 rfl ?_
  refine a_callV (o := 0) (As := [ii_v ((r : Nat) : Int)]) C (c_keptReq hl f w hr r hrn) co_X9_keptRequest in_X9 ml_X9_176 im_X9_keptRequest se_X9_keptRequest rfl rfl ar_X9_keptRequest ⟨by decide, by decide, by decide, by decide⟩ rfl (Nat.le_of_ble_eq_true rfl) dX9_latestPickup_2 (a_dR ?_) a_nR
  refine a_getN (ci := 7) (i := 6) (v := ii_v (f (300 + r) 6)) C iw_X6 rfl (by decide) rfl fn_X9_205 (ob_req (Nat.le_of_lt hrn)) rfl dX9_latestPickup_5 ?_
  refine a_iret C ?_ (by decide) (by decide) dX9_latestPickup_8
  rw [hPost]
  exact ⟨rfl, rfl, rfl, rfl⟩
set_option maxRecDepth 20000 in
set_option maxHeartbeats 2000000 in
theorem c_longestRide {l : Launch} {E : ab_E} {base : Nat} (hl : l.stackTraces = false) {ad : Nat → Nat} (f : Nat → Nat → Int) (w : Nat × Nat × Int64 × UInt64) (hr : w.2.1 ≤ 30) (r : Nat) (hrn : r < w.2.1)  : ab_M l E base yX9_longestRide cX9_longestRide 2 (some .int) 8 0 0 [.ref (ad 0), ii_v ((r : Nat) : Int)] ab_x4 ad (f, w) (ab_R (ii_v (f (300 + r) 7)) ab_x4 ad (f, w)) := by
  obtain ⟨Post, hPost⟩ : ∃ P : ab_P, P = (ab_R (ii_v (f (300 + r) 7)) ab_x4 ad (f, w)) := ⟨_, rfl⟩
  rw [← hPost]
  refine ab_of RX9 [(0, .ref (ad 0)), (1, ii_v ((r : Nat) : Int))] hl (by decide) rfl (Nat.le_of_ble_eq_true rfl) rfl ?_
  intro p e s m args below meth c C T0 hnm
  refine a_aload_n C dX9_longestRide_0 rfl ?_
  refine a_iload_n C dX9_longestRide_1 rfl ?_
  refine a_callV (o := 0) (As := [ii_v ((r : Nat) : Int)]) C (c_keptReq hl f w hr r hrn) co_X9_keptRequest in_X9 ml_X9_176 im_X9_keptRequest se_X9_keptRequest rfl rfl ar_X9_keptRequest ⟨by decide, by decide, by decide, by decide⟩ rfl (Nat.le_of_ble_eq_true rfl) dX9_longestRide_2 (a_dR ?_) a_nR
  refine a_getN (ci := 7) (i := 7) (v := ii_v (f (300 + r) 7)) C iw_X6 rfl (by decide) rfl fn_X9_208 (ob_req (Nat.le_of_lt hrn)) rfl dX9_longestRide_5 ?_
  refine a_iret C ?_ (by decide) (by decide) dX9_longestRide_8
  rw [hPost]
  exact ⟨rfl, rfl, rfl, rfl⟩
set_option maxRecDepth 20000 in
set_option maxHeartbeats 2000000 in
theorem x_status {l : Launch} {E : ab_E} {base : Nat} (hl : l.stackTraces = false) {ad : Nat → Nat} (f : Nat → Nat → Int) (w : Nat × Nat × Int64 × UInt64) (hr : w.2.1 ≤ 30) (i : Int) (zi : -2147483648 ≤ i ∧ i < 2147483648) (h : i < 0 ∨ (w.2.1 : Int) ≤ i)  : ab_M l E base yX9_status cX9_status 2 (some .char) 8 1 6 [.ref (ad 0), ii_v i] ab_x4 ad (f, w) (ab_T "java/lang/IndexOutOfBoundsException" ab_x4 ad (f, w)) := by
  obtain ⟨Post, hPost⟩ : ∃ P : ab_P, P = (ab_T "java/lang/IndexOutOfBoundsException" ab_x4 ad (f, w)) := ⟨_, rfl⟩
  rw [← hPost]
  refine ab_of RX9 [(0, .ref (ad 0)), (1, ii_v i)] hl (by decide) rfl (Nat.le_of_ble_eq_true rfl) rfl ?_
  intro p e s m args below meth c C T0 hnm
  refine a_aload_n C dX9_status_0 rfl ?_
  refine a_iload_n C dX9_status_1 rfl ?_
  refine a_callV (o := 0) (As := [ii_v i]) C (x_keptReq hl f w hr i zi h) co_X9_keptRequest in_X9 ml_X9_176 im_X9_keptRequest se_X9_keptRequest rfl rfl ar_X9_keptRequest ⟨by decide, by decide, by decide, by decide⟩ rfl (Nat.le_of_ble_eq_true rfl) dX9_status_2 a_nT (a_dT ?_)
  refine a_out C T0 ?_ (by decide) (by decide)
  rw [hPost]
  exact ⟨rfl, rfl, rfl, rfl⟩
set_option maxRecDepth 20000 in
set_option maxHeartbeats 2000000 in
theorem x_latestPickup {l : Launch} {E : ab_E} {base : Nat} (hl : l.stackTraces = false) {ad : Nat → Nat} (f : Nat → Nat → Int) (w : Nat × Nat × Int64 × UInt64) (hr : w.2.1 ≤ 30) (i : Int) (zi : -2147483648 ≤ i ∧ i < 2147483648) (h : i < 0 ∨ (w.2.1 : Int) ≤ i)  : ab_M l E base yX9_latestPickup cX9_latestPickup 2 (some .int) 8 1 6 [.ref (ad 0), ii_v i] ab_x4 ad (f, w) (ab_T "java/lang/IndexOutOfBoundsException" ab_x4 ad (f, w)) := by
  obtain ⟨Post, hPost⟩ : ∃ P : ab_P, P = (ab_T "java/lang/IndexOutOfBoundsException" ab_x4 ad (f, w)) := ⟨_, rfl⟩
  rw [← hPost]
  refine ab_of RX9 [(0, .ref (ad 0)), (1, ii_v i)] hl (by decide) rfl (Nat.le_of_ble_eq_true rfl) rfl ?_
  intro p e s m args below meth c C T0 hnm
  refine a_aload_n C dX9_latestPickup_0 rfl ?_
  refine a_iload_n C dX9_latestPickup_1 rfl ?_
  refine a_callV (o := 0) (As := [ii_v i]) C (x_keptReq hl f w hr i zi h) co_X9_keptRequest in_X9 ml_X9_176 im_X9_keptRequest se_X9_keptRequest rfl rfl ar_X9_keptRequest ⟨by decide, by decide, by decide, by decide⟩ rfl (Nat.le_of_ble_eq_true rfl) dX9_latestPickup_2 a_nT (a_dT ?_)
  refine a_out C T0 ?_ (by decide) (by decide)
  rw [hPost]
  exact ⟨rfl, rfl, rfl, rfl⟩
set_option maxRecDepth 20000 in
set_option maxHeartbeats 2000000 in
theorem x_longestRide {l : Launch} {E : ab_E} {base : Nat} (hl : l.stackTraces = false) {ad : Nat → Nat} (f : Nat → Nat → Int) (w : Nat × Nat × Int64 × UInt64) (hr : w.2.1 ≤ 30) (i : Int) (zi : -2147483648 ≤ i ∧ i < 2147483648) (h : i < 0 ∨ (w.2.1 : Int) ≤ i)  : ab_M l E base yX9_longestRide cX9_longestRide 2 (some .int) 8 1 6 [.ref (ad 0), ii_v i] ab_x4 ad (f, w) (ab_T "java/lang/IndexOutOfBoundsException" ab_x4 ad (f, w)) := by
  obtain ⟨Post, hPost⟩ : ∃ P : ab_P, P = (ab_T "java/lang/IndexOutOfBoundsException" ab_x4 ad (f, w)) := ⟨_, rfl⟩
  rw [← hPost]
  refine ab_of RX9 [(0, .ref (ad 0)), (1, ii_v i)] hl (by decide) rfl (Nat.le_of_ble_eq_true rfl) rfl ?_
  intro p e s m args below meth c C T0 hnm
  refine a_aload_n C dX9_longestRide_0 rfl ?_
  refine a_iload_n C dX9_longestRide_1 rfl ?_
  refine a_callV (o := 0) (As := [ii_v i]) C (x_keptReq hl f w hr i zi h) co_X9_keptRequest in_X9 ml_X9_176 im_X9_keptRequest se_X9_keptRequest rfl rfl ar_X9_keptRequest ⟨by decide, by decide, by decide, by decide⟩ rfl (Nat.le_of_ble_eq_true rfl) dX9_longestRide_2 a_nT (a_dT ?_)
  refine a_out C T0 ?_ (by decide) (by decide)
  rw [hPost]
  exact ⟨rfl, rfl, rfl, rfl⟩
set_option maxRecDepth 20000 in
set_option maxHeartbeats 2000000 in
theorem x_reason {l : Launch} {E : ab_E} {base : Nat} (hl : l.stackTraces = false) {ad : Nat → Nat} (f : Nat → Nat → Int) (w : Nat × Nat × Int64 × UInt64) (hr : w.2.1 ≤ 30) (i : Int) (zi : -2147483648 ≤ i ∧ i < 2147483648) (h : i < 0 ∨ (w.2.1 : Int) ≤ i)  : ab_M l E base yX9_reason cX9_reason 3 (some .char) 8 1 6 [.ref (ad 0), ii_v i] ab_x4 ad (f, w) (ab_T "java/lang/IndexOutOfBoundsException" ab_x4 ad (f, w)) := by
  obtain ⟨Post, hPost⟩ : ∃ P : ab_P, P = (ab_T "java/lang/IndexOutOfBoundsException" ab_x4 ad (f, w)) := ⟨_, rfl⟩
  rw [← hPost]
  refine ab_of RX9 [(0, .ref (ad 0)), (1, ii_v i)] hl (by decide) rfl (Nat.le_of_ble_eq_true rfl) rfl ?_
  intro p e s m args below meth c C T0 hnm
  refine a_aload_n C dX9_reason_0 rfl ?_
  refine a_iload_n C dX9_reason_1 rfl ?_
  refine a_callV (o := 0) (As := [ii_v i]) C (x_keptReq hl f w hr i zi h) co_X9_keptRequest in_X9 ml_X9_176 im_X9_keptRequest se_X9_keptRequest rfl rfl ar_X9_keptRequest ⟨by decide, by decide, by decide, by decide⟩ rfl (Nat.le_of_ble_eq_true rfl) dX9_reason_2 a_nT (a_dT ?_)
  refine a_out C T0 ?_ (by decide) (by decide)
  rw [hPost]
  exact ⟨rfl, rfl, rfl, rfl⟩
set_option maxRecDepth 20000 in
set_option maxHeartbeats 2000000 in
theorem x_busOf {l : Launch} {E : ab_E} {base : Nat} (hl : l.stackTraces = false) {ad : Nat → Nat} (f : Nat → Nat → Int) (w : Nat × Nat × Int64 × UInt64) (hr : w.2.1 ≤ 30) (i : Int) (zi : -2147483648 ≤ i ∧ i < 2147483648) (h : i < 0 ∨ (w.2.1 : Int) ≤ i)  : ab_M l E base yX9_busOf cX9_busOf 3 (some .int) 8 1 6 [.ref (ad 0), ii_v i] ab_x4 ad (f, w) (ab_T "java/lang/IndexOutOfBoundsException" ab_x4 ad (f, w)) := by
  obtain ⟨Post, hPost⟩ : ∃ P : ab_P, P = (ab_T "java/lang/IndexOutOfBoundsException" ab_x4 ad (f, w)) := ⟨_, rfl⟩
  rw [← hPost]
  refine ab_of RX9 [(0, .ref (ad 0)), (1, ii_v i)] hl (by decide) rfl (Nat.le_of_ble_eq_true rfl) rfl ?_
  intro p e s m args below meth c C T0 hnm
  refine a_aload_n C dX9_busOf_0 rfl ?_
  refine a_iload_n C dX9_busOf_1 rfl ?_
  refine a_callV (o := 0) (As := [ii_v i]) C (x_keptReq hl f w hr i zi h) co_X9_keptRequest in_X9 ml_X9_176 im_X9_keptRequest se_X9_keptRequest rfl rfl ar_X9_keptRequest ⟨by decide, by decide, by decide, by decide⟩ rfl (Nat.le_of_ble_eq_true rfl) dX9_busOf_2 a_nT (a_dT ?_)
  refine a_out C T0 ?_ (by decide) (by decide)
  rw [hPost]
  exact ⟨rfl, rfl, rfl, rfl⟩
set_option maxRecDepth 20000 in
set_option maxHeartbeats 2000000 in
theorem x_cancel {l : Launch} {E : ab_E} {base : Nat} (hl : l.stackTraces = false) {ad : Nat → Nat} (f : Nat → Nat → Int) (w : Nat × Nat × Int64 × UInt64) (hr : w.2.1 ≤ 30) (i : Int) (zi : -2147483648 ≤ i ∧ i < 2147483648) (h : i < 0 ∨ (w.2.1 : Int) ≤ i)  : ab_M l E base yX9_cancel cX9_cancel 4 (some .int) 8 1 6 [.ref (ad 0), ii_v i] ab_x4 ad (f, w) (ab_T "java/lang/IndexOutOfBoundsException" ab_x4 ad (f, w)) := by
  obtain ⟨Post, hPost⟩ : ∃ P : ab_P, P = (ab_T "java/lang/IndexOutOfBoundsException" ab_x4 ad (f, w)) := ⟨_, rfl⟩
  rw [← hPost]
  refine ab_of RX9 [(0, .ref (ad 0)), (1, ii_v i)] hl (by decide) rfl (Nat.le_of_ble_eq_true rfl) rfl ?_
  intro p e s m args below meth c C T0 hnm
  refine a_aload_n C dX9_cancel_0 rfl ?_
  refine a_iload_n C dX9_cancel_1 rfl ?_
  refine a_callV (o := 0) (As := [ii_v i]) C (x_keptReq hl f w hr i zi h) co_X9_keptRequest in_X9 ml_X9_176 im_X9_keptRequest se_X9_keptRequest rfl rfl ar_X9_keptRequest ⟨by decide, by decide, by decide, by decide⟩ rfl (Nat.le_of_ble_eq_true rfl) dX9_cancel_2 a_nT (a_dT ?_)
  refine a_out C T0 ?_ (by decide) (by decide)
  rw [hPost]
  exact ⟨rfl, rfl, rfl, rfl⟩
set_option maxRecDepth 20000 in
set_option maxHeartbeats 2000000 in
theorem c_reason {l : Launch} {E : ab_E} {base : Nat} (hl : l.stackTraces = false) {ad : Nat → Nat} (f : Nat → Nat → Int) (w : Nat × Nat × Int64 × UInt64) (hr : w.2.1 ≤ 30) (r : Nat) (hrn : r < w.2.1) (hst : f (300 + r) 8 = 120) (hu : 0 ≤ f (300 + r) 9 ∧ f (300 + r) 9 ≤ 10) : ab_M l E base yX9_reason cX9_reason 3 (some .char) 8 0 0 [.ref (ad 0), ii_v ((r : Nat) : Int)] ab_x4 ad (f, w) (ab_R (ii_v (sg_f (f (300 + r) 9))) ab_x4 ad (f, w)) := by
  obtain ⟨Post, hPost⟩ : ∃ P : ab_P, P = (ab_R (ii_v (sg_f (f (300 + r) 9))) ab_x4 ad (f, w)) := ⟨_, rfl⟩
  rw [← hPost]
  refine ab_of RX9 [(0, .ref (ad 0)), (1, ii_v ((r : Nat) : Int))] hl (by decide) rfl (Nat.le_of_ble_eq_true rfl) rfl ?_
  intro p e s m args below meth c C T0 hnm
  refine a_aload_n C dX9_reason_0 rfl ?_
  refine a_iload_n C dX9_reason_1 rfl ?_
  refine a_callV (o := 0) (As := [ii_v ((r : Nat) : Int)]) C (c_keptReq hl f w hr r hrn) co_X9_keptRequest in_X9 ml_X9_176 im_X9_keptRequest se_X9_keptRequest rfl rfl ar_X9_keptRequest ⟨by decide, by decide, by decide, by decide⟩ rfl (Nat.le_of_ble_eq_true rfl) dX9_reason_2 (a_dR ?_) a_nR
  refine a_astore_n (L' := [(0, .ref (ad 0)), (1, ii_v ((r : Nat) : Int)), (2, .ref (ad (300 + r)))]) C dX9_reason_5 (by decide) rfl ?_
  refine a_aload_n C dX9_reason_6 rfl ?_
  refine a_getN (ci := 7) (i := 8) (v := ii_v (f (300 + r) 8)) C iw_X6 rfl (by decide) rfl fn_X9_132 (ob_req (Nat.le_of_lt hrn)) rfl dX9_reason_7 ?_
  refine a_bipush C dX9_reason_10 (by decide) ?_
  refine a_icmp_eq (tgt := 25) C dX9_reason_12 rfl (by unfold ii_B; omega) (by unfold ii_B; omega) (fun h12 => ?_) (fun h12 => ?_)
  · skip
    refine a_aload_n C dX9_reason_25 rfl ?_
    refine a_getN (ci := 7) (i := 9) (v := ii_v (f (300 + r) 9)) C iw_X6 rfl (by decide) rfl fn_X9_166 (ob_req (Nat.le_of_lt hrn)) rfl dX9_reason_26 ?_
    refine a_callS (As := [ii_v (f (300 + r) 9)]) C (c_signOf hl f w (f (300 + r) 9) hu) co_X9_signOf in_X9 ml_X9_199 sc_X9_signOf ar_X9_signOf ⟨by decide, by decide, by decide, by decide⟩ rfl (Nat.le_of_ble_eq_true rfl) dX9_reason_29 (a_dR ?_) a_nR
    refine a_zret C (sg_nc _) ?_ (by decide) (by decide) dX9_reason_32
    rw [hPost]
    exact ⟨rfl, rfl, rfl, rfl⟩
  · skip
    exact absurd hst h12
set_option maxRecDepth 20000 in
set_option maxHeartbeats 2000000 in
theorem x2_reason {l : Launch} {E : ab_E} {base : Nat} (hl : l.stackTraces = false) {ad : Nat → Nat} (f : Nat → Nat → Int) (w : Nat × Nat × Int64 × UInt64) (hr : w.2.1 ≤ 30) (r : Nat) (hrn : r < w.2.1) (hst : st_ok (f (300 + r) 8)) (h : f (300 + r) 8 ≠ 120) : ab_M l E base yX9_reason cX9_reason 3 (some .char) 8 1 6 [.ref (ad 0), ii_v ((r : Nat) : Int)] ab_x4 ad (f, w) (ab_T "java/lang/IllegalStateException" ab_x4 ad (f, w)) := by
  obtain ⟨Post, hPost⟩ : ∃ P : ab_P, P = (ab_T "java/lang/IllegalStateException" ab_x4 ad (f, w)) := ⟨_, rfl⟩
  rw [← hPost]
  refine ab_of RX9 [(0, .ref (ad 0)), (1, ii_v ((r : Nat) : Int))] hl (by decide) rfl (Nat.le_of_ble_eq_true rfl) rfl ?_
  intro p e s m args below meth c C T0 hnm
  have hstb := st_b hst
  refine a_aload_n C dX9_reason_0 rfl ?_
  refine a_iload_n C dX9_reason_1 rfl ?_
  refine a_callV (o := 0) (As := [ii_v ((r : Nat) : Int)]) C (c_keptReq hl f w hr r hrn) co_X9_keptRequest in_X9 ml_X9_176 im_X9_keptRequest se_X9_keptRequest rfl rfl ar_X9_keptRequest ⟨by decide, by decide, by decide, by decide⟩ rfl (Nat.le_of_ble_eq_true rfl) dX9_reason_2 (a_dR ?_) a_nR
  refine a_astore_n (L' := [(0, .ref (ad 0)), (1, ii_v ((r : Nat) : Int)), (2, .ref (ad (300 + r)))]) C dX9_reason_5 (by decide) rfl ?_
  refine a_aload_n C dX9_reason_6 rfl ?_
  refine a_getN (ci := 7) (i := 8) (v := ii_v (f (300 + r) 8)) C iw_X6 rfl (by decide) rfl fn_X9_132 (ob_req (Nat.le_of_lt hrn)) rfl dX9_reason_7 ?_
  refine a_bipush C dX9_reason_10 (by decide) ?_
  refine a_icmp_eq (tgt := 25) C dX9_reason_12 rfl (by unfold ii_B; omega) (by unfold ii_B; omega) (fun h12 => ?_) (fun h12 => ?_)
  · skip
    exact absurd h12 h
  · skip
    refine a_throw C T0 (by decide) cl_X9_91 in_ISE xw_ISE (is := 197) (text := "the request was not refused") (by decide) dX9_reason_15 dX9_reason_18 dX9_reason_19 dX9_reason_21 dX9_reason_24 ?_ ⟨by decide, by decide, by decide⟩ (Nat.le_of_ble_eq_true rfl)
    rw [hPost]
    exact ⟨rfl, rfl, rfl, rfl⟩
set_option maxRecDepth 20000 in
set_option maxHeartbeats 2000000 in
theorem c_busOf {l : Launch} {E : ab_E} {base : Nat} (hl : l.stackTraces = false) {ad : Nat → Nat} (f : Nat → Nat → Int) (w : Nat × Nat × Int64 × UInt64) (hr : w.2.1 ≤ 30) (r : Nat) (hrn : r < w.2.1) (hst : st_ok (f (300 + r) 8)) (h : f (300 + r) 8 ≠ 120) : ab_M l E base yX9_busOf cX9_busOf 3 (some .int) 8 0 0 [.ref (ad 0), ii_v ((r : Nat) : Int)] ab_x4 ad (f, w) (ab_R (ii_v (f (300 + r) 10)) ab_x4 ad (f, w)) := by
  obtain ⟨Post, hPost⟩ : ∃ P : ab_P, P = (ab_R (ii_v (f (300 + r) 10)) ab_x4 ad (f, w)) := ⟨_, rfl⟩
  rw [← hPost]
  refine ab_of RX9 [(0, .ref (ad 0)), (1, ii_v ((r : Nat) : Int))] hl (by decide) rfl (Nat.le_of_ble_eq_true rfl) rfl ?_
  intro p e s m args below meth c C T0 hnm
  have hstb := st_b hst
  refine a_aload_n C dX9_busOf_0 rfl ?_
  refine a_iload_n C dX9_busOf_1 rfl ?_
  refine a_callV (o := 0) (As := [ii_v ((r : Nat) : Int)]) C (c_keptReq hl f w hr r hrn) co_X9_keptRequest in_X9 ml_X9_176 im_X9_keptRequest se_X9_keptRequest rfl rfl ar_X9_keptRequest ⟨by decide, by decide, by decide, by decide⟩ rfl (Nat.le_of_ble_eq_true rfl) dX9_busOf_2 (a_dR ?_) a_nR
  refine a_astore_n (L' := [(0, .ref (ad 0)), (1, ii_v ((r : Nat) : Int)), (2, .ref (ad (300 + r)))]) C dX9_busOf_5 (by decide) rfl ?_
  refine a_aload_n C dX9_busOf_6 rfl ?_
  refine a_getN (ci := 7) (i := 8) (v := ii_v (f (300 + r) 8)) C iw_X6 rfl (by decide) rfl fn_X9_132 (ob_req (Nat.le_of_lt hrn)) rfl dX9_busOf_7 ?_
  refine a_bipush C dX9_busOf_10 (by decide) ?_
  refine a_icmp_ne (tgt := 25) C dX9_busOf_12 rfl (by unfold ii_B; omega) (by unfold ii_B; omega) (fun h12 => ?_) (fun h12 => ?_)
  · skip
    refine a_aload_n C dX9_busOf_25 rfl ?_
    refine a_getN (ci := 7) (i := 10) (v := ii_v (f (300 + r) 10)) C iw_X6 rfl (by decide) rfl fn_X9_141 (ob_req (Nat.le_of_lt hrn)) rfl dX9_busOf_26 ?_
    refine a_iret C ?_ (by decide) (by decide) dX9_busOf_29
    rw [hPost]
    exact ⟨rfl, rfl, rfl, rfl⟩
  · skip
    exact absurd (by omega) h
set_option maxRecDepth 20000 in
set_option maxHeartbeats 2000000 in
theorem x2_busOf {l : Launch} {E : ab_E} {base : Nat} (hl : l.stackTraces = false) {ad : Nat → Nat} (f : Nat → Nat → Int) (w : Nat × Nat × Int64 × UInt64) (hr : w.2.1 ≤ 30) (r : Nat) (hrn : r < w.2.1) (h : f (300 + r) 8 = 120) : ab_M l E base yX9_busOf cX9_busOf 3 (some .int) 8 1 6 [.ref (ad 0), ii_v ((r : Nat) : Int)] ab_x4 ad (f, w) (ab_T "java/lang/IllegalStateException" ab_x4 ad (f, w)) := by
  obtain ⟨Post, hPost⟩ : ∃ P : ab_P, P = (ab_T "java/lang/IllegalStateException" ab_x4 ad (f, w)) := ⟨_, rfl⟩
  rw [← hPost]
  refine ab_of RX9 [(0, .ref (ad 0)), (1, ii_v ((r : Nat) : Int))] hl (by decide) rfl (Nat.le_of_ble_eq_true rfl) rfl ?_
  intro p e s m args below meth c C T0 hnm
  refine a_aload_n C dX9_busOf_0 rfl ?_
  refine a_iload_n C dX9_busOf_1 rfl ?_
  refine a_callV (o := 0) (As := [ii_v ((r : Nat) : Int)]) C (c_keptReq hl f w hr r hrn) co_X9_keptRequest in_X9 ml_X9_176 im_X9_keptRequest se_X9_keptRequest rfl rfl ar_X9_keptRequest ⟨by decide, by decide, by decide, by decide⟩ rfl (Nat.le_of_ble_eq_true rfl) dX9_busOf_2 (a_dR ?_) a_nR
  refine a_astore_n (L' := [(0, .ref (ad 0)), (1, ii_v ((r : Nat) : Int)), (2, .ref (ad (300 + r)))]) C dX9_busOf_5 (by decide) rfl ?_
  refine a_aload_n C dX9_busOf_6 rfl ?_
  refine a_getN (ci := 7) (i := 8) (v := ii_v (f (300 + r) 8)) C iw_X6 rfl (by decide) rfl fn_X9_132 (ob_req (Nat.le_of_lt hrn)) rfl dX9_busOf_7 ?_
  refine a_bipush C dX9_busOf_10 (by decide) ?_
  refine a_icmp_ne (tgt := 25) C dX9_busOf_12 rfl (by unfold ii_B; omega) (by unfold ii_B; omega) (fun h12 => ?_) (fun h12 => ?_)
  · skip
    exact absurd h h12
  · skip
    refine a_throw C T0 (by decide) cl_X9_91 in_ISE xw_ISE (is := 203) (text := "the request was refused") (by decide) dX9_busOf_15 dX9_busOf_18 dX9_busOf_19 dX9_busOf_21 dX9_busOf_24 ?_ ⟨by decide, by decide, by decide⟩ (Nat.le_of_ble_eq_true rfl)
    rw [hPost]
    exact ⟨rfl, rfl, rfl, rfl⟩
set_option maxRecDepth 20000 in
set_option maxHeartbeats 2000000 in
theorem x2_cancel {l : Launch} {E : ab_E} {base : Nat} (hl : l.stackTraces = false) {ad : Nat → Nat} (f : Nat → Nat → Int) (w : Nat × Nat × Int64 × UInt64) (hr : w.2.1 ≤ 30) (r : Nat) (hrn : r < w.2.1) (hst : st_ok (f (300 + r) 8)) (h : f (300 + r) 8 ≠ 119) : ab_M l E base yX9_cancel cX9_cancel 4 (some .int) 8 1 6 [.ref (ad 0), ii_v ((r : Nat) : Int)] ab_x4 ad (f, w) (ab_T "java/lang/IllegalStateException" ab_x4 ad (f, w)) := by
  obtain ⟨Post, hPost⟩ : ∃ P : ab_P, P = (ab_T "java/lang/IllegalStateException" ab_x4 ad (f, w)) := ⟨_, rfl⟩
  rw [← hPost]
  refine ab_of RX9 [(0, .ref (ad 0)), (1, ii_v ((r : Nat) : Int))] hl (by decide) rfl (Nat.le_of_ble_eq_true rfl) rfl ?_
  intro p e s m args below meth c C T0 hnm
  have hstb := st_b hst
  refine a_aload_n C dX9_cancel_0 rfl ?_
  refine a_iload_n C dX9_cancel_1 rfl ?_
  refine a_callV (o := 0) (As := [ii_v ((r : Nat) : Int)]) C (c_keptReq hl f w hr r hrn) co_X9_keptRequest in_X9 ml_X9_176 im_X9_keptRequest se_X9_keptRequest rfl rfl ar_X9_keptRequest ⟨by decide, by decide, by decide, by decide⟩ rfl (Nat.le_of_ble_eq_true rfl) dX9_cancel_2 (a_dR ?_) a_nR
  refine a_astore_n (L' := [(0, .ref (ad 0)), (1, ii_v ((r : Nat) : Int)), (2, .ref (ad (300 + r)))]) C dX9_cancel_5 (by decide) rfl ?_
  refine a_aload_n C dX9_cancel_6 rfl ?_
  refine a_getN (ci := 7) (i := 8) (v := ii_v (f (300 + r) 8)) C iw_X6 rfl (by decide) rfl fn_X9_132 (ob_req (Nat.le_of_lt hrn)) rfl dX9_cancel_7 ?_
  refine a_bipush C dX9_cancel_10 (by decide) ?_
  refine a_icmp_eq (tgt := 25) C dX9_cancel_12 rfl (by unfold ii_B; omega) (by unfold ii_B; omega) (fun h12 => ?_) (fun h12 => ?_)
  · skip
    exact absurd h12 h
  · skip
    refine a_throw C T0 (by decide) cl_X9_91 in_ISE xw_ISE (is := 180) (text := "the request does not wait") (by decide) dX9_cancel_15 dX9_cancel_18 dX9_cancel_19 dX9_cancel_21 dX9_cancel_24 ?_ ⟨by decide, by decide, by decide⟩ (Nat.le_of_ble_eq_true rfl)
    rw [hPost]
    exact ⟨rfl, rfl, rfl, rfl⟩
set_option maxRecDepth 20000 in
set_option maxHeartbeats 2000000 in
theorem c_pickupTime {l : Launch} {E : ab_E} {base : Nat} (hl : l.stackTraces = false) {ad : Nat → Nat} (f : Nat → Nat → Int) (w : Nat × Nat × Int64 × UInt64) (hr : w.2.1 ≤ 30) {v : Nat → Nat → Int} (hv : pe_C f v w.2.1) (r : Nat) (hrn : r < w.2.1) (hst : st_ok (f (300 + r) 8)) (h : f (300 + r) 8 = 119) {b : Nat} (hb : b < w.1) (h4 : w.1 ≤ 4) (hrb : f (300 + r) 10 = (b : Int)) (hB : pb_B f (200 + b)) {S : List Nat} (hS : ts_I f (200 + b + 10) S) (hq : ∀ j, j < S.length → S.getD j 0 / 2 ≤ w.2.1) (hnow : 0 ≤ f 0 6 ∧ f 0 6 ≤ 100000) (hm : 2 * r ∈ S) : ab_M l E base yX9_pickupTime cX9_pickupTime 3 (some .int) 9 0 0 [.ref (ad 0), ii_v ((r : Nat) : Int)] ab_x4 ad (f, w) (ab_F ad w (fun ov g => ov = some (ii_v ((pl_tm v S (f (200 + b) 6) (f (200 + b) 7) (f 0 6)).getD (S.idxOf (2 * r)) 0)) ∧ ∀ o2, o2 ≠ 10 → g o2 = f o2)) := by
  obtain ⟨Post, hPost⟩ : ∃ P : ab_P, P = (ab_F ad w (fun ov g => ov = some (ii_v ((pl_tm v S (f (200 + b) 6) (f (200 + b) 7) (f 0 6)).getD (S.idxOf (2 * r)) 0)) ∧ ∀ o2, o2 ≠ 10 → g o2 = f o2)) := ⟨_, rfl⟩
  rw [← hPost]
  refine ab_of RX9 [(0, .ref (ad 0)), (1, ii_v ((r : Nat) : Int))] hl (by decide) rfl (Nat.le_of_ble_eq_true rfl) rfl ?_
  intro p e s m args below meth c C T0 hnm
  have hsv : f (300 + r) 8 ≠ 120 ∧ f (300 + r) 8 ≠ 99 := ⟨by omega, by omega⟩
  refine a_aload_n C dX9_pickupTime_0 rfl ?_
  refine a_iload_n C dX9_pickupTime_1 rfl ?_
  refine a_callV (o := 0) (As := [ii_v ((r : Nat) : Int)]) C (c_served hl f w hr r hrn (st_b hst) hsv) co_X9_servedRequest in_X9 ml_X9_211 im_X9_servedRequest se_X9_servedRequest rfl rfl ar_X9_servedRequest ⟨by decide, by decide, by decide, by decide⟩ rfl (Nat.le_of_ble_eq_true rfl) dX9_pickupTime_2 (a_dR ?_) a_nR
  refine a_astore_n (L' := [(0, .ref (ad 0)), (1, ii_v ((r : Nat) : Int)), (2, .ref (ad (300 + r)))]) C dX9_pickupTime_5 (by decide) rfl ?_
  refine a_aload_n C dX9_pickupTime_6 rfl ?_
  refine a_getN (ci := 7) (i := 8) (v := ii_v (f (300 + r) 8)) C iw_X6 rfl (by decide) rfl fn_X9_132 (ob_req (Nat.le_of_lt hrn)) rfl dX9_pickupTime_7 ?_
  refine a_bipush C dX9_pickupTime_10 (by decide) ?_
  refine a_icmp_ne (tgt := 32) C dX9_pickupTime_12 rfl (by unfold ii_B; omega) (by unfold ii_B; omega) (fun h12 => ?_) (fun h12 => ?_)
  · skip
    exact absurd h h12
  · skip
    refine a_aload_n C dX9_pickupTime_15 rfl ?_
    refine a_aload_n C dX9_pickupTime_16 rfl ?_
    refine a_aload_n C dX9_pickupTime_17 rfl ?_
    refine a_getN (ci := 7) (i := 10) (v := ii_v (f (300 + r) 10)) C iw_X6 rfl (by decide) rfl fn_X9_141 (ob_req (Nat.le_of_lt hrn)) rfl dX9_pickupTime_18 ?_
    rw [hrb]
    refine a_callV (o := 0) (As := [ii_v ((b : Nat) : Int)]) C (c_keptBus hl f w hb h4) co_X9_keptBus in_X9 ml_X9_182 im_X9_keptBus se_X9_keptBus rfl rfl ar_X9_keptBus ⟨by decide, by decide, by decide, by decide⟩ rfl (Nat.le_of_ble_eq_true rfl) dX9_pickupTime_21 (a_dR ?_) a_nR
    refine a_iload_n C dX9_pickupTime_24 rfl ?_
    refine a_callS (As := [ii_v ((r : Nat) : Int)]) C (c_pickupOf hl f w r) co_X9_pickupOf in_X9 ml_X9_186 sc_X9_pickupOf ar_X9_pickupOf ⟨by decide, by decide, by decide, by decide⟩ rfl (Nat.le_of_ble_eq_true rfl) dX9_pickupTime_25 (a_dR ?_) a_nR
    refine a_callV (o := 0) (As := [.ref (ad (200 + b)), ii_v (((2 * r) : Nat) : Int)]) C (c_planned hl f w hr hv hb h4 hB hS hq hnow (2 * r) (by omega) hm) co_X9_plannedTime in_X9 ml_X9_214 im_X9_plannedTime se_X9_plannedTime rfl rfl ar_X9_plannedTime ⟨by decide, by decide, by decide, by decide⟩ rfl (Nat.le_of_ble_eq_true rfl) dX9_pickupTime_28 (a_dF ?_) a_nF
    intro vg1 g1 hvg1
    obtain ⟨rfl, hfg1⟩ := hvg1
    refine a_iret C ?_ (by decide) (by decide) dX9_pickupTime_31
    rw [hPost]
    exact ab_F_of ⟨rfl, hfg1⟩
set_option maxRecDepth 20000 in
set_option maxHeartbeats 2000000 in
theorem c_pickupTime2 {l : Launch} {E : ab_E} {base : Nat} (hl : l.stackTraces = false) {ad : Nat → Nat} (f : Nat → Nat → Int) (w : Nat × Nat × Int64 × UInt64) (hr : w.2.1 ≤ 30) (r : Nat) (hrn : r < w.2.1) (hst : st_ok (f (300 + r) 8)) (hsv : f (300 + r) 8 ≠ 120 ∧ f (300 + r) 8 ≠ 99) (h : f (300 + r) 8 ≠ 119) : ab_M l E base yX9_pickupTime cX9_pickupTime 3 (some .int) 9 0 0 [.ref (ad 0), ii_v ((r : Nat) : Int)] ab_x4 ad (f, w) (ab_R (ii_v (f (300 + r) 11)) ab_x4 ad (f, w)) := by
  obtain ⟨Post, hPost⟩ : ∃ P : ab_P, P = (ab_R (ii_v (f (300 + r) 11)) ab_x4 ad (f, w)) := ⟨_, rfl⟩
  rw [← hPost]
  refine ab_of RX9 [(0, .ref (ad 0)), (1, ii_v ((r : Nat) : Int))] hl (by decide) rfl (Nat.le_of_ble_eq_true rfl) rfl ?_
  intro p e s m args below meth c C T0 hnm
  have hstb := st_b hst
  refine a_aload_n C dX9_pickupTime_0 rfl ?_
  refine a_iload_n C dX9_pickupTime_1 rfl ?_
  refine a_callV (o := 0) (As := [ii_v ((r : Nat) : Int)]) C (c_served hl f w hr r hrn (st_b hst) hsv) co_X9_servedRequest in_X9 ml_X9_211 im_X9_servedRequest se_X9_servedRequest rfl rfl ar_X9_servedRequest ⟨by decide, by decide, by decide, by decide⟩ rfl (Nat.le_of_ble_eq_true rfl) dX9_pickupTime_2 (a_dR ?_) a_nR
  refine a_astore_n (L' := [(0, .ref (ad 0)), (1, ii_v ((r : Nat) : Int)), (2, .ref (ad (300 + r)))]) C dX9_pickupTime_5 (by decide) rfl ?_
  refine a_aload_n C dX9_pickupTime_6 rfl ?_
  refine a_getN (ci := 7) (i := 8) (v := ii_v (f (300 + r) 8)) C iw_X6 rfl (by decide) rfl fn_X9_132 (ob_req (Nat.le_of_lt hrn)) rfl dX9_pickupTime_7 ?_
  refine a_bipush C dX9_pickupTime_10 (by decide) ?_
  refine a_icmp_ne (tgt := 32) C dX9_pickupTime_12 rfl (by unfold ii_B; omega) (by unfold ii_B; omega) (fun h12 => ?_) (fun h12 => ?_)
  · skip
    refine a_aload_n C dX9_pickupTime_32 rfl ?_
    refine a_getN (ci := 7) (i := 11) (v := ii_v (f (300 + r) 11)) C iw_X6 rfl (by decide) rfl fn_X9_218 (ob_req (Nat.le_of_lt hrn)) rfl dX9_pickupTime_33 ?_
    refine a_iret C ?_ (by decide) (by decide) dX9_pickupTime_36
    rw [hPost]
    exact ⟨rfl, rfl, rfl, rfl⟩
  · skip
    exact absurd (by omega) h
set_option maxRecDepth 20000 in
set_option maxHeartbeats 2000000 in
theorem c_dropTime {l : Launch} {E : ab_E} {base : Nat} (hl : l.stackTraces = false) {ad : Nat → Nat} (f : Nat → Nat → Int) (w : Nat × Nat × Int64 × UInt64) (hr : w.2.1 ≤ 30) (r : Nat) (hrn : r < w.2.1) (hst : st_ok (f (300 + r) 8)) (h : f (300 + r) 8 = 100) : ab_M l E base yX9_dropTime cX9_dropTime 3 (some .int) 9 0 0 [.ref (ad 0), ii_v ((r : Nat) : Int)] ab_x4 ad (f, w) (ab_R (ii_v (f (300 + r) 12)) ab_x4 ad (f, w)) := by
  obtain ⟨Post, hPost⟩ : ∃ P : ab_P, P = (ab_R (ii_v (f (300 + r) 12)) ab_x4 ad (f, w)) := ⟨_, rfl⟩
  rw [← hPost]
  refine ab_of RX9 [(0, .ref (ad 0)), (1, ii_v ((r : Nat) : Int))] hl (by decide) rfl (Nat.le_of_ble_eq_true rfl) rfl ?_
  intro p e s m args below meth c C T0 hnm
  have hsv : f (300 + r) 8 ≠ 120 ∧ f (300 + r) 8 ≠ 99 := ⟨by omega, by omega⟩
  refine a_aload_n C dX9_dropTime_0 rfl ?_
  refine a_iload_n C dX9_dropTime_1 rfl ?_
  refine a_callV (o := 0) (As := [ii_v ((r : Nat) : Int)]) C (c_served hl f w hr r hrn (st_b hst) hsv) co_X9_servedRequest in_X9 ml_X9_211 im_X9_servedRequest se_X9_servedRequest rfl rfl ar_X9_servedRequest ⟨by decide, by decide, by decide, by decide⟩ rfl (Nat.le_of_ble_eq_true rfl) dX9_dropTime_2 (a_dR ?_) a_nR
  refine a_astore_n (L' := [(0, .ref (ad 0)), (1, ii_v ((r : Nat) : Int)), (2, .ref (ad (300 + r)))]) C dX9_dropTime_5 (by decide) rfl ?_
  refine a_aload_n C dX9_dropTime_6 rfl ?_
  refine a_getN (ci := 7) (i := 8) (v := ii_v (f (300 + r) 8)) C iw_X6 rfl (by decide) rfl fn_X9_132 (ob_req (Nat.le_of_lt hrn)) rfl dX9_dropTime_7 ?_
  refine a_bipush C dX9_dropTime_10 (by decide) ?_
  refine a_icmp_ne (tgt := 20) C dX9_dropTime_12 rfl (by unfold ii_B; omega) (by unfold ii_B; omega) (fun h12 => ?_) (fun h12 => ?_)
  · skip
    exact absurd h h12
  · skip
    refine a_aload_n C dX9_dropTime_15 rfl ?_
    refine a_getN (ci := 7) (i := 12) (v := ii_v (f (300 + r) 12)) C iw_X6 rfl (by decide) rfl fn_X9_221 (ob_req (Nat.le_of_lt hrn)) rfl dX9_dropTime_16 ?_
    refine a_iret C ?_ (by decide) (by decide) dX9_dropTime_19
    rw [hPost]
    exact ⟨rfl, rfl, rfl, rfl⟩
set_option maxRecDepth 20000 in
set_option maxHeartbeats 2000000 in
theorem c_dropTime2 {l : Launch} {E : ab_E} {base : Nat} (hl : l.stackTraces = false) {ad : Nat → Nat} (f : Nat → Nat → Int) (w : Nat × Nat × Int64 × UInt64) (hr : w.2.1 ≤ 30) {v : Nat → Nat → Int} (hv : pe_C f v w.2.1) (r : Nat) (hrn : r < w.2.1) (hst : st_ok (f (300 + r) 8)) (hsv : f (300 + r) 8 ≠ 120 ∧ f (300 + r) 8 ≠ 99) (h : f (300 + r) 8 ≠ 100) {b : Nat} (hb : b < w.1) (h4 : w.1 ≤ 4) (hrb : f (300 + r) 10 = (b : Int)) (hB : pb_B f (200 + b)) {S : List Nat} (hS : ts_I f (200 + b + 10) S) (hq : ∀ j, j < S.length → S.getD j 0 / 2 ≤ w.2.1) (hnow : 0 ≤ f 0 6 ∧ f 0 6 ≤ 100000) (hm : 2 * r + 1 ∈ S) : ab_M l E base yX9_dropTime cX9_dropTime 3 (some .int) 9 0 0 [.ref (ad 0), ii_v ((r : Nat) : Int)] ab_x4 ad (f, w) (ab_F ad w (fun ov g => ov = some (ii_v ((pl_tm v S (f (200 + b) 6) (f (200 + b) 7) (f 0 6)).getD (S.idxOf (2 * r + 1)) 0)) ∧ ∀ o2, o2 ≠ 10 → g o2 = f o2)) := by
  obtain ⟨Post, hPost⟩ : ∃ P : ab_P, P = (ab_F ad w (fun ov g => ov = some (ii_v ((pl_tm v S (f (200 + b) 6) (f (200 + b) 7) (f 0 6)).getD (S.idxOf (2 * r + 1)) 0)) ∧ ∀ o2, o2 ≠ 10 → g o2 = f o2)) := ⟨_, rfl⟩
  rw [← hPost]
  refine ab_of RX9 [(0, .ref (ad 0)), (1, ii_v ((r : Nat) : Int))] hl (by decide) rfl (Nat.le_of_ble_eq_true rfl) rfl ?_
  intro p e s m args below meth c C T0 hnm
  have hstb := st_b hst
  refine a_aload_n C dX9_dropTime_0 rfl ?_
  refine a_iload_n C dX9_dropTime_1 rfl ?_
  refine a_callV (o := 0) (As := [ii_v ((r : Nat) : Int)]) C (c_served hl f w hr r hrn (st_b hst) hsv) co_X9_servedRequest in_X9 ml_X9_211 im_X9_servedRequest se_X9_servedRequest rfl rfl ar_X9_servedRequest ⟨by decide, by decide, by decide, by decide⟩ rfl (Nat.le_of_ble_eq_true rfl) dX9_dropTime_2 (a_dR ?_) a_nR
  refine a_astore_n (L' := [(0, .ref (ad 0)), (1, ii_v ((r : Nat) : Int)), (2, .ref (ad (300 + r)))]) C dX9_dropTime_5 (by decide) rfl ?_
  refine a_aload_n C dX9_dropTime_6 rfl ?_
  refine a_getN (ci := 7) (i := 8) (v := ii_v (f (300 + r) 8)) C iw_X6 rfl (by decide) rfl fn_X9_132 (ob_req (Nat.le_of_lt hrn)) rfl dX9_dropTime_7 ?_
  refine a_bipush C dX9_dropTime_10 (by decide) ?_
  refine a_icmp_ne (tgt := 20) C dX9_dropTime_12 rfl (by unfold ii_B; omega) (by unfold ii_B; omega) (fun h12 => ?_) (fun h12 => ?_)
  · skip
    refine a_aload_n C dX9_dropTime_20 rfl ?_
    refine a_aload_n C dX9_dropTime_21 rfl ?_
    refine a_aload_n C dX9_dropTime_22 rfl ?_
    refine a_getN (ci := 7) (i := 10) (v := ii_v (f (300 + r) 10)) C iw_X6 rfl (by decide) rfl fn_X9_141 (ob_req (Nat.le_of_lt hrn)) rfl dX9_dropTime_23 ?_
    rw [hrb]
    refine a_callV (o := 0) (As := [ii_v ((b : Nat) : Int)]) C (c_keptBus hl f w hb h4) co_X9_keptBus in_X9 ml_X9_182 im_X9_keptBus se_X9_keptBus rfl rfl ar_X9_keptBus ⟨by decide, by decide, by decide, by decide⟩ rfl (Nat.le_of_ble_eq_true rfl) dX9_dropTime_26 (a_dR ?_) a_nR
    refine a_iload_n C dX9_dropTime_29 rfl ?_
    refine a_callS (As := [ii_v ((r : Nat) : Int)]) C (c_dropOf hl f w r) co_X9_dropOf in_X9 ml_X9_194 sc_X9_dropOf ar_X9_dropOf ⟨by decide, by decide, by decide, by decide⟩ rfl (Nat.le_of_ble_eq_true rfl) dX9_dropTime_30 (a_dR ?_) a_nR
    refine a_callV (o := 0) (As := [.ref (ad (200 + b)), ii_v (((2 * r + 1) : Nat) : Int)]) C (c_planned hl f w hr hv hb h4 hB hS hq hnow (2 * r + 1) (by omega) hm) co_X9_plannedTime in_X9 ml_X9_214 im_X9_plannedTime se_X9_plannedTime rfl rfl ar_X9_plannedTime ⟨by decide, by decide, by decide, by decide⟩ rfl (Nat.le_of_ble_eq_true rfl) dX9_dropTime_33 (a_dF ?_) a_nF
    intro vg1 g1 hvg1
    obtain ⟨rfl, hfg1⟩ := hvg1
    refine a_iret C ?_ (by decide) (by decide) dX9_dropTime_36
    rw [hPost]
    exact ab_F_of ⟨rfl, hfg1⟩
  · skip
    exact absurd (by omega) h
set_option maxRecDepth 20000 in
set_option maxHeartbeats 2000000 in
theorem x2_pickupTime {l : Launch} {E : ab_E} {base : Nat} (hl : l.stackTraces = false) {ad : Nat → Nat} (f : Nat → Nat → Int) (w : Nat × Nat × Int64 × UInt64) (hr : w.2.1 ≤ 30) (r : Nat) (hrn : r < w.2.1) (hst : st_ok (f (300 + r) 8)) (h : f (300 + r) 8 = 120 ∨ f (300 + r) 8 = 99) : ab_M l E base yX9_pickupTime cX9_pickupTime 3 (some .int) 9 1 6 [.ref (ad 0), ii_v ((r : Nat) : Int)] ab_x4 ad (f, w) (ab_T "java/lang/IllegalStateException" ab_x4 ad (f, w)) := by
  obtain ⟨Post, hPost⟩ : ∃ P : ab_P, P = (ab_T "java/lang/IllegalStateException" ab_x4 ad (f, w)) := ⟨_, rfl⟩
  rw [← hPost]
  refine ab_of RX9 [(0, .ref (ad 0)), (1, ii_v ((r : Nat) : Int))] hl (by decide) rfl (Nat.le_of_ble_eq_true rfl) rfl ?_
  intro p e s m args below meth c C T0 hnm
  refine a_aload_n C dX9_pickupTime_0 rfl ?_
  refine a_iload_n C dX9_pickupTime_1 rfl ?_
  refine a_callV (o := 0) (As := [ii_v ((r : Nat) : Int)]) C (x_served hl f w hr r hrn (st_b hst) h) co_X9_servedRequest in_X9 ml_X9_211 im_X9_servedRequest se_X9_servedRequest rfl rfl ar_X9_servedRequest ⟨by decide, by decide, by decide, by decide⟩ rfl (Nat.le_of_ble_eq_true rfl) dX9_pickupTime_2 a_nT (a_dT ?_)
  refine a_out C T0 ?_ (by decide) (by decide)
  rw [hPost]
  exact ⟨rfl, rfl, rfl, rfl⟩
set_option maxRecDepth 20000 in
set_option maxHeartbeats 2000000 in
theorem x_pickupTime {l : Launch} {E : ab_E} {base : Nat} (hl : l.stackTraces = false) {ad : Nat → Nat} (f : Nat → Nat → Int) (w : Nat × Nat × Int64 × UInt64) (hr : w.2.1 ≤ 30) (i : Int) (zi : -2147483648 ≤ i ∧ i < 2147483648) (h : i < 0 ∨ (w.2.1 : Int) ≤ i)  : ab_M l E base yX9_pickupTime cX9_pickupTime 3 (some .int) 9 1 6 [.ref (ad 0), ii_v i] ab_x4 ad (f, w) (ab_T "java/lang/IndexOutOfBoundsException" ab_x4 ad (f, w)) := by
  obtain ⟨Post, hPost⟩ : ∃ P : ab_P, P = (ab_T "java/lang/IndexOutOfBoundsException" ab_x4 ad (f, w)) := ⟨_, rfl⟩
  rw [← hPost]
  refine ab_of RX9 [(0, .ref (ad 0)), (1, ii_v i)] hl (by decide) rfl (Nat.le_of_ble_eq_true rfl) rfl ?_
  intro p e s m args below meth c C T0 hnm
  refine a_aload_n C dX9_pickupTime_0 rfl ?_
  refine a_iload_n C dX9_pickupTime_1 rfl ?_
  refine a_callV (o := 0) (As := [ii_v i]) C (x_served2 hl f w hr i zi h) co_X9_servedRequest in_X9 ml_X9_211 im_X9_servedRequest se_X9_servedRequest rfl rfl ar_X9_servedRequest ⟨by decide, by decide, by decide, by decide⟩ rfl (Nat.le_of_ble_eq_true rfl) dX9_pickupTime_2 a_nT (a_dT ?_)
  refine a_out C T0 ?_ (by decide) (by decide)
  rw [hPost]
  exact ⟨rfl, rfl, rfl, rfl⟩
set_option maxRecDepth 20000 in
set_option maxHeartbeats 2000000 in
theorem x2_dropTime {l : Launch} {E : ab_E} {base : Nat} (hl : l.stackTraces = false) {ad : Nat → Nat} (f : Nat → Nat → Int) (w : Nat × Nat × Int64 × UInt64) (hr : w.2.1 ≤ 30) (r : Nat) (hrn : r < w.2.1) (hst : st_ok (f (300 + r) 8)) (h : f (300 + r) 8 = 120 ∨ f (300 + r) 8 = 99) : ab_M l E base yX9_dropTime cX9_dropTime 3 (some .int) 9 1 6 [.ref (ad 0), ii_v ((r : Nat) : Int)] ab_x4 ad (f, w) (ab_T "java/lang/IllegalStateException" ab_x4 ad (f, w)) := by
  obtain ⟨Post, hPost⟩ : ∃ P : ab_P, P = (ab_T "java/lang/IllegalStateException" ab_x4 ad (f, w)) := ⟨_, rfl⟩
  rw [← hPost]
  refine ab_of RX9 [(0, .ref (ad 0)), (1, ii_v ((r : Nat) : Int))] hl (by decide) rfl (Nat.le_of_ble_eq_true rfl) rfl ?_
  intro p e s m args below meth c C T0 hnm
  refine a_aload_n C dX9_dropTime_0 rfl ?_
  refine a_iload_n C dX9_dropTime_1 rfl ?_
  refine a_callV (o := 0) (As := [ii_v ((r : Nat) : Int)]) C (x_served hl f w hr r hrn (st_b hst) h) co_X9_servedRequest in_X9 ml_X9_211 im_X9_servedRequest se_X9_servedRequest rfl rfl ar_X9_servedRequest ⟨by decide, by decide, by decide, by decide⟩ rfl (Nat.le_of_ble_eq_true rfl) dX9_dropTime_2 a_nT (a_dT ?_)
  refine a_out C T0 ?_ (by decide) (by decide)
  rw [hPost]
  exact ⟨rfl, rfl, rfl, rfl⟩
set_option maxRecDepth 20000 in
set_option maxHeartbeats 2000000 in
theorem x_dropTime {l : Launch} {E : ab_E} {base : Nat} (hl : l.stackTraces = false) {ad : Nat → Nat} (f : Nat → Nat → Int) (w : Nat × Nat × Int64 × UInt64) (hr : w.2.1 ≤ 30) (i : Int) (zi : -2147483648 ≤ i ∧ i < 2147483648) (h : i < 0 ∨ (w.2.1 : Int) ≤ i)  : ab_M l E base yX9_dropTime cX9_dropTime 3 (some .int) 9 1 6 [.ref (ad 0), ii_v i] ab_x4 ad (f, w) (ab_T "java/lang/IndexOutOfBoundsException" ab_x4 ad (f, w)) := by
  obtain ⟨Post, hPost⟩ : ∃ P : ab_P, P = (ab_T "java/lang/IndexOutOfBoundsException" ab_x4 ad (f, w)) := ⟨_, rfl⟩
  rw [← hPost]
  refine ab_of RX9 [(0, .ref (ad 0)), (1, ii_v i)] hl (by decide) rfl (Nat.le_of_ble_eq_true rfl) rfl ?_
  intro p e s m args below meth c C T0 hnm
  refine a_aload_n C dX9_dropTime_0 rfl ?_
  refine a_iload_n C dX9_dropTime_1 rfl ?_
  refine a_callV (o := 0) (As := [ii_v i]) C (x_served2 hl f w hr i zi h) co_X9_servedRequest in_X9 ml_X9_211 im_X9_servedRequest se_X9_servedRequest rfl rfl ar_X9_servedRequest ⟨by decide, by decide, by decide, by decide⟩ rfl (Nat.le_of_ble_eq_true rfl) dX9_dropTime_2 a_nT (a_dT ?_)
  refine a_out C T0 ?_ (by decide) (by decide)
  rw [hPost]
  exact ⟨rfl, rfl, rfl, rfl⟩
set_option maxRecDepth 20000 in
set_option maxHeartbeats 2000000 in
theorem c_requests {l : Launch} {E : ab_E} {base : Nat} (hl : l.stackTraces = false) {ad : Nat → Nat} (f : Nat → Nat → Int) (w : Nat × Nat × Int64 × UInt64) (hr : w.2.1 ≤ 30)  : ab_M l E base yX9_requests cX9_requests 1 (some .int) 7 0 0 [.ref (ad 0)] ab_x4 ad (f, w) (ab_R (ii_v ((w.2.1 : Int))) ab_x4 ad (f, w)) := by
  obtain ⟨Post, hPost⟩ : ∃ P : ab_P, P = (ab_R (ii_v ((w.2.1 : Int))) ab_x4 ad (f, w)) := ⟨_, rfl⟩
  rw [← hPost]
  refine ab_of RX9 [(0, .ref (ad 0))] hl (by decide) rfl (Nat.le_of_ble_eq_true rfl) rfl ?_
  intro p e s m args below meth c C T0 hnm
  refine a_aload_n C dX9_requests_0 rfl ?_
  refine a_get (ci := 10) (i := 1) (v := .ref (ad 2)) C iw_X9 rfl (by decide) rfl fl_X9_19 rfl rfl dX9_requests_1 ?_
  refine a_callVN (o := 2) (As := []) C (c_count hl f w hr) co_X0_count in_X0 mn_X9_108 im_X0_count se_X0_count rfl rfl ar_X0_count ⟨by decide, by decide, by decide, by decide⟩ rfl (Nat.le_of_ble_eq_true rfl) dX9_requests_4 (a_dR ?_) a_nR
  refine a_iret C ?_ (by decide) (by decide) dX9_requests_7
  rw [hPost]
  exact ⟨rfl, rfl, rfl, rfl⟩
set_option maxRecDepth 20000 in
set_option maxHeartbeats 2000000 in
theorem c_now {l : Launch} {E : ab_E} {base : Nat} (hl : l.stackTraces = false) {ad : Nat → Nat} (f : Nat → Nat → Int) (w : Nat × Nat × Int64 × UInt64)  : ab_M l E base yX9_now cX9_now 1 (some .int) 1 0 0 [.ref (ad 0)] ab_x4 ad (f, w) (ab_R (ii_v (f 0 6)) ab_x4 ad (f, w)) := by
  obtain ⟨Post, hPost⟩ : ∃ P : ab_P, P = (ab_R (ii_v (f 0 6)) ab_x4 ad (f, w)) := ⟨_, rfl⟩
  rw [← hPost]
  refine ab_of RX9 [(0, .ref (ad 0))] hl (by decide) rfl (Nat.le_of_ble_eq_true rfl) rfl ?_
  intro p e s m args below meth c C T0 hnm
  refine a_aload_n C dX9_now_0 rfl ?_
  refine a_get (ci := 10) (i := 6) (v := ii_v (f 0 6)) C iw_X9 rfl (by decide) rfl fl_X9_58 rfl rfl dX9_now_1 ?_
  refine a_iret C ?_ (by decide) (by decide) dX9_now_4
  rw [hPost]
  exact ⟨rfl, rfl, rfl, rfl⟩
set_option maxRecDepth 20000 in
set_option maxHeartbeats 2000000 in
theorem c_entries {l : Launch} {E : ab_E} {base : Nat} (hl : l.stackTraces = false) {ad : Nat → Nat} (f : Nat → Nat → Int) (w : Nat × Nat × Int64 × UInt64)  : ab_M l E base yX9_entries cX9_entries 1 (some .int) 1 0 0 [.ref (ad 0)] ab_x4 ad (f, w) (ab_R (ii_v (f 4 4)) ab_x4 ad (f, w)) := by
  obtain ⟨Post, hPost⟩ : ∃ P : ab_P, P = (ab_R (ii_v (f 4 4)) ab_x4 ad (f, w)) := ⟨_, rfl⟩
  rw [← hPost]
  refine ab_of RX9 [(0, .ref (ad 0))] hl (by decide) rfl (Nat.le_of_ble_eq_true rfl) rfl ?_
  intro p e s m args below meth c C T0 hnm
  refine a_aload_n C dX9_entries_0 rfl ?_
  refine a_get (ci := 10) (i := 2) (v := .ref (ad 4)) C iw_X9 rfl (by decide) rfl fl_X9_26 rfl rfl dX9_entries_1 ?_
  refine a_getN (ci := 5) (i := 4) (v := ii_v (f 4 4)) C iw_X4 rfl (by decide) rfl fn_X9_287 rfl rfl dX9_entries_4 ?_
  refine a_iret C ?_ (by decide) (by decide) dX9_entries_7
  rw [hPost]
  exact ⟨rfl, rfl, rfl, rfl⟩
set_option maxRecDepth 20000 in
set_option maxHeartbeats 2000000 in
theorem c_entryBus {l : Launch} {E : ab_E} {base : Nat} (hl : l.stackTraces = false) {ad : Nat → Nat} (f : Nat → Nat → Int) (w : Nat × Nat × Int64 × UInt64) (n : Nat) (hn : f 4 4 = (n : Int)) (h60 : n ≤ 60) (k : Nat) (hk : k < n) : ab_M l E base yX9_entryBus cX9_entryBus 2 (some .int) 8 0 0 [.ref (ad 0), ii_v ((k : Nat) : Int)] ab_x4 ad (f, w) (ab_R (ii_v (f 5 k)) ab_x4 ad (f, w)) := by
  obtain ⟨Post, hPost⟩ : ∃ P : ab_P, P = (ab_R (ii_v (f 5 k)) ab_x4 ad (f, w)) := ⟨_, rfl⟩
  rw [← hPost]
  refine ab_of RX9 [(0, .ref (ad 0)), (1, ii_v ((k : Nat) : Int))] hl (by decide) rfl (Nat.le_of_ble_eq_true rfl) rfl ?_
  intro p e s m args below meth c C T0 hnm
  refine a_aload_n C dX9_entryBus_0 rfl ?_
  refine a_iload_n C dX9_entryBus_1 rfl ?_
  refine a_callV (o := 0) (As := [ii_v ((k : Nat) : Int)]) C (c_checkEntry hl f w n hn h60 k hk) co_X9_checkEntry in_X9 ml_X9_288 im_X9_checkEntry se_X9_checkEntry rfl rfl ar_X9_checkEntry ⟨by decide, by decide, by decide, by decide⟩ rfl (Nat.le_of_ble_eq_true rfl) dX9_entryBus_2 (a_dV ?_) a_nV
  refine a_aload_n C dX9_entryBus_5 rfl ?_
  refine a_get (ci := 10) (i := 2) (v := .ref (ad 4)) C iw_X9 rfl (by decide) rfl fl_X9_26 rfl rfl dX9_entryBus_6 ?_
  refine a_iload_n C dX9_entryBus_9 rfl ?_
  refine a_callVN (o := 4) (As := [ii_v ((k : Nat) : Int)]) C (c_jbusAt hl f w ((k : Nat) : Int) k (by omega) (by omega)) co_X4_busAt in_X4 mn_X9_291 im_X4_busAt se_X4_busAt rfl rfl ar_X4_busAt ⟨by decide, by decide, by decide, by decide⟩ rfl (Nat.le_of_ble_eq_true rfl) dX9_entryBus_10 (a_dR ?_) a_nR
  refine a_iret C ?_ (by decide) (by decide) dX9_entryBus_13
  rw [hPost]
  exact ⟨rfl, rfl, rfl, rfl⟩
set_option maxRecDepth 20000 in
set_option maxHeartbeats 2000000 in
theorem x_entryBus {l : Launch} {E : ab_E} {base : Nat} (hl : l.stackTraces = false) {ad : Nat → Nat} (f : Nat → Nat → Int) (w : Nat × Nat × Int64 × UInt64) (n : Nat) (hn : f 4 4 = (n : Int)) (h60 : n ≤ 60) (i : Int) (zi : -2147483648 ≤ i ∧ i < 2147483648) (h : i < 0 ∨ (n : Int) ≤ i) : ab_M l E base yX9_entryBus cX9_entryBus 2 (some .int) 8 1 6 [.ref (ad 0), ii_v i] ab_x4 ad (f, w) (ab_T "java/lang/IndexOutOfBoundsException" ab_x4 ad (f, w)) := by
  obtain ⟨Post, hPost⟩ : ∃ P : ab_P, P = (ab_T "java/lang/IndexOutOfBoundsException" ab_x4 ad (f, w)) := ⟨_, rfl⟩
  rw [← hPost]
  refine ab_of RX9 [(0, .ref (ad 0)), (1, ii_v i)] hl (by decide) rfl (Nat.le_of_ble_eq_true rfl) rfl ?_
  intro p e s m args below meth c C T0 hnm
  refine a_aload_n C dX9_entryBus_0 rfl ?_
  refine a_iload_n C dX9_entryBus_1 rfl ?_
  refine a_callV (o := 0) (As := [ii_v i]) C (x_checkEntry hl f w n hn h60 i zi h) co_X9_checkEntry in_X9 ml_X9_288 im_X9_checkEntry se_X9_checkEntry rfl rfl ar_X9_checkEntry ⟨by decide, by decide, by decide, by decide⟩ rfl (Nat.le_of_ble_eq_true rfl) dX9_entryBus_2 a_nT (a_dT ?_)
  refine a_out C T0 ?_ (by decide) (by decide)
  rw [hPost]
  exact ⟨rfl, rfl, rfl, rfl⟩
set_option maxRecDepth 20000 in
set_option maxHeartbeats 2000000 in
theorem c_entryRequest {l : Launch} {E : ab_E} {base : Nat} (hl : l.stackTraces = false) {ad : Nat → Nat} (f : Nat → Nat → Int) (w : Nat × Nat × Int64 × UInt64) (n : Nat) (hn : f 4 4 = (n : Int)) (h60 : n ≤ 60) (k : Nat) (hk : k < n) : ab_M l E base yX9_entryRequest cX9_entryRequest 2 (some .int) 8 0 0 [.ref (ad 0), ii_v ((k : Nat) : Int)] ab_x4 ad (f, w) (ab_R (ii_v (f 6 k)) ab_x4 ad (f, w)) := by
  obtain ⟨Post, hPost⟩ : ∃ P : ab_P, P = (ab_R (ii_v (f 6 k)) ab_x4 ad (f, w)) := ⟨_, rfl⟩
  rw [← hPost]
  refine ab_of RX9 [(0, .ref (ad 0)), (1, ii_v ((k : Nat) : Int))] hl (by decide) rfl (Nat.le_of_ble_eq_true rfl) rfl ?_
  intro p e s m args below meth c C T0 hnm
  refine a_aload_n C dX9_entryRequest_0 rfl ?_
  refine a_iload_n C dX9_entryRequest_1 rfl ?_
  refine a_callV (o := 0) (As := [ii_v ((k : Nat) : Int)]) C (c_checkEntry hl f w n hn h60 k hk) co_X9_checkEntry in_X9 ml_X9_288 im_X9_checkEntry se_X9_checkEntry rfl rfl ar_X9_checkEntry ⟨by decide, by decide, by decide, by decide⟩ rfl (Nat.le_of_ble_eq_true rfl) dX9_entryRequest_2 (a_dV ?_) a_nV
  refine a_aload_n C dX9_entryRequest_5 rfl ?_
  refine a_get (ci := 10) (i := 2) (v := .ref (ad 4)) C iw_X9 rfl (by decide) rfl fl_X9_26 rfl rfl dX9_entryRequest_6 ?_
  refine a_iload_n C dX9_entryRequest_9 rfl ?_
  refine a_callVN (o := 4) (As := [ii_v ((k : Nat) : Int)]) C (c_jrequestAt hl f w ((k : Nat) : Int) k (by omega) (by omega)) co_X4_requestAt in_X4 mn_X9_294 im_X4_requestAt se_X4_requestAt rfl rfl ar_X4_requestAt ⟨by decide, by decide, by decide, by decide⟩ rfl (Nat.le_of_ble_eq_true rfl) dX9_entryRequest_10 (a_dR ?_) a_nR
  refine a_iret C ?_ (by decide) (by decide) dX9_entryRequest_13
  rw [hPost]
  exact ⟨rfl, rfl, rfl, rfl⟩
set_option maxRecDepth 20000 in
set_option maxHeartbeats 2000000 in
theorem x_entryRequest {l : Launch} {E : ab_E} {base : Nat} (hl : l.stackTraces = false) {ad : Nat → Nat} (f : Nat → Nat → Int) (w : Nat × Nat × Int64 × UInt64) (n : Nat) (hn : f 4 4 = (n : Int)) (h60 : n ≤ 60) (i : Int) (zi : -2147483648 ≤ i ∧ i < 2147483648) (h : i < 0 ∨ (n : Int) ≤ i) : ab_M l E base yX9_entryRequest cX9_entryRequest 2 (some .int) 8 1 6 [.ref (ad 0), ii_v i] ab_x4 ad (f, w) (ab_T "java/lang/IndexOutOfBoundsException" ab_x4 ad (f, w)) := by
  obtain ⟨Post, hPost⟩ : ∃ P : ab_P, P = (ab_T "java/lang/IndexOutOfBoundsException" ab_x4 ad (f, w)) := ⟨_, rfl⟩
  rw [← hPost]
  refine ab_of RX9 [(0, .ref (ad 0)), (1, ii_v i)] hl (by decide) rfl (Nat.le_of_ble_eq_true rfl) rfl ?_
  intro p e s m args below meth c C T0 hnm
  refine a_aload_n C dX9_entryRequest_0 rfl ?_
  refine a_iload_n C dX9_entryRequest_1 rfl ?_
  refine a_callV (o := 0) (As := [ii_v i]) C (x_checkEntry hl f w n hn h60 i zi h) co_X9_checkEntry in_X9 ml_X9_288 im_X9_checkEntry se_X9_checkEntry rfl rfl ar_X9_checkEntry ⟨by decide, by decide, by decide, by decide⟩ rfl (Nat.le_of_ble_eq_true rfl) dX9_entryRequest_2 a_nT (a_dT ?_)
  refine a_out C T0 ?_ (by decide) (by decide)
  rw [hPost]
  exact ⟨rfl, rfl, rfl, rfl⟩
set_option maxRecDepth 20000 in
set_option maxHeartbeats 2000000 in
theorem c_entryTime {l : Launch} {E : ab_E} {base : Nat} (hl : l.stackTraces = false) {ad : Nat → Nat} (f : Nat → Nat → Int) (w : Nat × Nat × Int64 × UInt64) (n : Nat) (hn : f 4 4 = (n : Int)) (h60 : n ≤ 60) (k : Nat) (hk : k < n) : ab_M l E base yX9_entryTime cX9_entryTime 2 (some .int) 8 0 0 [.ref (ad 0), ii_v ((k : Nat) : Int)] ab_x4 ad (f, w) (ab_R (ii_v (f 7 k)) ab_x4 ad (f, w)) := by
  obtain ⟨Post, hPost⟩ : ∃ P : ab_P, P = (ab_R (ii_v (f 7 k)) ab_x4 ad (f, w)) := ⟨_, rfl⟩
  rw [← hPost]
  refine ab_of RX9 [(0, .ref (ad 0)), (1, ii_v ((k : Nat) : Int))] hl (by decide) rfl (Nat.le_of_ble_eq_true rfl) rfl ?_
  intro p e s m args below meth c C T0 hnm
  refine a_aload_n C dX9_entryTime_0 rfl ?_
  refine a_iload_n C dX9_entryTime_1 rfl ?_
  refine a_callV (o := 0) (As := [ii_v ((k : Nat) : Int)]) C (c_checkEntry hl f w n hn h60 k hk) co_X9_checkEntry in_X9 ml_X9_288 im_X9_checkEntry se_X9_checkEntry rfl rfl ar_X9_checkEntry ⟨by decide, by decide, by decide, by decide⟩ rfl (Nat.le_of_ble_eq_true rfl) dX9_entryTime_2 (a_dV ?_) a_nV
  refine a_aload_n C dX9_entryTime_5 rfl ?_
  refine a_get (ci := 10) (i := 2) (v := .ref (ad 4)) C iw_X9 rfl (by decide) rfl fl_X9_26 rfl rfl dX9_entryTime_6 ?_
  refine a_iload_n C dX9_entryTime_9 rfl ?_
  refine a_callVN (o := 4) (As := [ii_v ((k : Nat) : Int)]) C (c_jtimeAt hl f w ((k : Nat) : Int) k (by omega) (by omega)) co_X4_timeAt in_X4 mn_X9_297 im_X4_timeAt se_X4_timeAt rfl rfl ar_X4_timeAt ⟨by decide, by decide, by decide, by decide⟩ rfl (Nat.le_of_ble_eq_true rfl) dX9_entryTime_10 (a_dR ?_) a_nR
  refine a_iret C ?_ (by decide) (by decide) dX9_entryTime_13
  rw [hPost]
  exact ⟨rfl, rfl, rfl, rfl⟩
set_option maxRecDepth 20000 in
set_option maxHeartbeats 2000000 in
theorem x_entryTime {l : Launch} {E : ab_E} {base : Nat} (hl : l.stackTraces = false) {ad : Nat → Nat} (f : Nat → Nat → Int) (w : Nat × Nat × Int64 × UInt64) (n : Nat) (hn : f 4 4 = (n : Int)) (h60 : n ≤ 60) (i : Int) (zi : -2147483648 ≤ i ∧ i < 2147483648) (h : i < 0 ∨ (n : Int) ≤ i) : ab_M l E base yX9_entryTime cX9_entryTime 2 (some .int) 8 1 6 [.ref (ad 0), ii_v i] ab_x4 ad (f, w) (ab_T "java/lang/IndexOutOfBoundsException" ab_x4 ad (f, w)) := by
  obtain ⟨Post, hPost⟩ : ∃ P : ab_P, P = (ab_T "java/lang/IndexOutOfBoundsException" ab_x4 ad (f, w)) := ⟨_, rfl⟩
  rw [← hPost]
  refine ab_of RX9 [(0, .ref (ad 0)), (1, ii_v i)] hl (by decide) rfl (Nat.le_of_ble_eq_true rfl) rfl ?_
  intro p e s m args below meth c C T0 hnm
  refine a_aload_n C dX9_entryTime_0 rfl ?_
  refine a_iload_n C dX9_entryTime_1 rfl ?_
  refine a_callV (o := 0) (As := [ii_v i]) C (x_checkEntry hl f w n hn h60 i zi h) co_X9_checkEntry in_X9 ml_X9_288 im_X9_checkEntry se_X9_checkEntry rfl rfl ar_X9_checkEntry ⟨by decide, by decide, by decide, by decide⟩ rfl (Nat.le_of_ble_eq_true rfl) dX9_entryTime_2 a_nT (a_dT ?_)
  refine a_out C T0 ?_ (by decide) (by decide)
  rw [hPost]
  exact ⟨rfl, rfl, rfl, rfl⟩
set_option maxRecDepth 20000 in
set_option maxHeartbeats 2000000 in
theorem c_entryDistance {l : Launch} {E : ab_E} {base : Nat} (hl : l.stackTraces = false) {ad : Nat → Nat} (f : Nat → Nat → Int) (w : Nat × Nat × Int64 × UInt64) (n : Nat) (hn : f 4 4 = (n : Int)) (h60 : n ≤ 60) (k : Nat) (hk : k < n) : ab_M l E base yX9_entryDistance cX9_entryDistance 2 (some .int) 8 0 0 [.ref (ad 0), ii_v ((k : Nat) : Int)] ab_x4 ad (f, w) (ab_R (ii_v (f 8 k)) ab_x4 ad (f, w)) := by
  obtain ⟨Post, hPost⟩ : ∃ P : ab_P, P = (ab_R (ii_v (f 8 k)) ab_x4 ad (f, w)) := ⟨_, rfl⟩
  rw [← hPost]
  refine ab_of RX9 [(0, .ref (ad 0)), (1, ii_v ((k : Nat) : Int))] hl (by decide) rfl (Nat.le_of_ble_eq_true rfl) rfl ?_
  intro p e s m args below meth c C T0 hnm
  refine a_aload_n C dX9_entryDistance_0 rfl ?_
  refine a_iload_n C dX9_entryDistance_1 rfl ?_
  refine a_callV (o := 0) (As := [ii_v ((k : Nat) : Int)]) C (c_checkEntry hl f w n hn h60 k hk) co_X9_checkEntry in_X9 ml_X9_288 im_X9_checkEntry se_X9_checkEntry rfl rfl ar_X9_checkEntry ⟨by decide, by decide, by decide, by decide⟩ rfl (Nat.le_of_ble_eq_true rfl) dX9_entryDistance_2 (a_dV ?_) a_nV
  refine a_aload_n C dX9_entryDistance_5 rfl ?_
  refine a_get (ci := 10) (i := 2) (v := .ref (ad 4)) C iw_X9 rfl (by decide) rfl fl_X9_26 rfl rfl dX9_entryDistance_6 ?_
  refine a_iload_n C dX9_entryDistance_9 rfl ?_
  refine a_callVN (o := 4) (As := [ii_v ((k : Nat) : Int)]) C (c_jdistanceAt hl f w ((k : Nat) : Int) k (by omega) (by omega)) co_X4_distanceAt in_X4 mn_X9_300 im_X4_distanceAt se_X4_distanceAt rfl rfl ar_X4_distanceAt ⟨by decide, by decide, by decide, by decide⟩ rfl (Nat.le_of_ble_eq_true rfl) dX9_entryDistance_10 (a_dR ?_) a_nR
  refine a_iret C ?_ (by decide) (by decide) dX9_entryDistance_13
  rw [hPost]
  exact ⟨rfl, rfl, rfl, rfl⟩
set_option maxRecDepth 20000 in
set_option maxHeartbeats 2000000 in
theorem x_entryDistance {l : Launch} {E : ab_E} {base : Nat} (hl : l.stackTraces = false) {ad : Nat → Nat} (f : Nat → Nat → Int) (w : Nat × Nat × Int64 × UInt64) (n : Nat) (hn : f 4 4 = (n : Int)) (h60 : n ≤ 60) (i : Int) (zi : -2147483648 ≤ i ∧ i < 2147483648) (h : i < 0 ∨ (n : Int) ≤ i) : ab_M l E base yX9_entryDistance cX9_entryDistance 2 (some .int) 8 1 6 [.ref (ad 0), ii_v i] ab_x4 ad (f, w) (ab_T "java/lang/IndexOutOfBoundsException" ab_x4 ad (f, w)) := by
  obtain ⟨Post, hPost⟩ : ∃ P : ab_P, P = (ab_T "java/lang/IndexOutOfBoundsException" ab_x4 ad (f, w)) := ⟨_, rfl⟩
  rw [← hPost]
  refine ab_of RX9 [(0, .ref (ad 0)), (1, ii_v i)] hl (by decide) rfl (Nat.le_of_ble_eq_true rfl) rfl ?_
  intro p e s m args below meth c C T0 hnm
  refine a_aload_n C dX9_entryDistance_0 rfl ?_
  refine a_iload_n C dX9_entryDistance_1 rfl ?_
  refine a_callV (o := 0) (As := [ii_v i]) C (x_checkEntry hl f w n hn h60 i zi h) co_X9_checkEntry in_X9 ml_X9_288 im_X9_checkEntry se_X9_checkEntry rfl rfl ar_X9_checkEntry ⟨by decide, by decide, by decide, by decide⟩ rfl (Nat.le_of_ble_eq_true rfl) dX9_entryDistance_2 a_nT (a_dT ?_)
  refine a_out C T0 ?_ (by decide) (by decide)
  rw [hPost]
  exact ⟨rfl, rfl, rfl, rfl⟩
set_option maxRecDepth 20000 in
set_option maxHeartbeats 2000000 in
theorem c_emptyByJournal {l : Launch} {E : ab_E} {base : Nat} (hl : l.stackTraces = false) {ad : Nat → Nat} (f : Nat → Nat → Int) (w : Nat × Nat × Int64 × UInt64) (hr : w.2.1 ≤ 30) {v : Nat → Nat → Int} (hv : pe_C f v w.2.1) {b : Nat} (hb : b < w.1) (h4 : w.1 ≤ 4) (n : Nat) (hn : f 4 4 = (n : Int)) (h60 : n ≤ 60) (hj5 : ∀ k, k < n → 0 ≤ f 5 k ∧ f 5 k ≤ 100) (hj : ∀ k, k < n → 0 ≤ f 6 k ∧ f 6 k ≤ w.2.1) (hb0 : f (200 + b) 0 = (b : Int)) : ab_M l E base yX9_emptyByJournal cX9_emptyByJournal 3 (some .int) 8 0 0 [.ref (ad 0), ii_v ((b : Nat) : Int)] ab_x4 ad (f, w) (ab_R (ii_v ((jd_f f v b n).1 + (if (jd_f f v b n).2.2 = 0 then f (200 + b) 10 - (jd_f f v b n).2.1 else 0))) ab_x4 ad (f, w)) := by
  obtain ⟨Post, hPost⟩ : ∃ P : ab_P, P = (ab_R (ii_v ((jd_f f v b n).1 + (if (jd_f f v b n).2.2 = 0 then f (200 + b) 10 - (jd_f f v b n).2.1 else 0))) ab_x4 ad (f, w)) := ⟨_, rfl⟩
  rw [← hPost]
  refine ab_of RX9 [(0, .ref (ad 0)), (1, ii_v ((b : Nat) : Int))] hl (by decide) rfl (Nat.le_of_ble_eq_true rfl) rfl ?_
  intro p e s m args below meth c C T0 hnm
  refine a_aload_n C dX9_emptyByJournal_0 rfl ?_
  refine a_iload_n C dX9_emptyByJournal_1 rfl ?_
  refine a_callV (o := 0) (As := [ii_v ((b : Nat) : Int)]) C (c_keptBus hl f w hb h4) co_X9_keptBus in_X9 ml_X9_182 im_X9_keptBus se_X9_keptBus rfl rfl ar_X9_keptBus ⟨by decide, by decide, by decide, by decide⟩ rfl (Nat.le_of_ble_eq_true rfl) dX9_emptyByJournal_2 (a_dR ?_) a_nR
  refine a_astore_n (L' := [(0, .ref (ad 0)), (1, ii_v ((b : Nat) : Int)), (2, .ref (ad (200 + b)))]) C dX9_emptyByJournal_5 (by decide) rfl ?_
  refine a_aload_n C dX9_emptyByJournal_6 rfl ?_
  refine a_get (ci := 10) (i := 2) (v := .ref (ad 4)) C iw_X9 rfl (by decide) rfl fl_X9_26 rfl rfl dX9_emptyByJournal_7 ?_
  refine a_aload_n C dX9_emptyByJournal_10 rfl ?_
  refine a_getN (ci := 2) (i := 0) (v := ii_v (f (200 + b) 0)) C iw_X1 rfl (by decide) rfl fn_X9_138 (ob_bus hb h4) rfl dX9_emptyByJournal_11 ?_
  rw [hb0]
  refine a_aload_n C dX9_emptyByJournal_14 rfl ?_
  refine a_getN (ci := 2) (i := 10) (v := ii_v (f (200 + b) 10)) C iw_X1 rfl (by decide) rfl fn_X9_269 (ob_bus hb h4) rfl dX9_emptyByJournal_15 ?_
  refine a_aload_n C dX9_emptyByJournal_18 rfl ?_
  refine a_get (ci := 10) (i := 1) (v := .ref (ad 2)) C iw_X9 rfl (by decide) rfl fl_X9_19 rfl rfl dX9_emptyByJournal_19 ?_
  refine a_callVN (o := 4) (As := [ii_v ((b : Nat) : Int), ii_v (f (200 + b) 10), .ref (ad 2)]) C (c_jempty hl f w hr hv n hn h60 hj5 hj b (f (200 + b) 10) (by omega)) co_X4_emptyDistance in_X4 mn_X9_275 im_X4_emptyDistance se_X4_emptyDistance rfl rfl ar_X4_emptyDistance ⟨by decide, by decide, by decide, by decide⟩ rfl (Nat.le_of_ble_eq_true rfl) dX9_emptyByJournal_22 (a_dR ?_) a_nR
  refine a_iret C ?_ (by decide) (by decide) dX9_emptyByJournal_25
  rw [hPost]
  exact ⟨rfl, rfl, rfl, rfl⟩
set_option maxRecDepth 20000 in
set_option maxHeartbeats 2000000 in
theorem x_emptyByJournal {l : Launch} {E : ab_E} {base : Nat} (hl : l.stackTraces = false) {ad : Nat → Nat} (f : Nat → Nat → Int) (w : Nat × Nat × Int64 × UInt64) (h4 : w.1 ≤ 4) (i : Int) (zi : -2147483648 ≤ i ∧ i < 2147483648) (h : i < 0 ∨ (w.1 : Int) ≤ i)  : ab_M l E base yX9_emptyByJournal cX9_emptyByJournal 3 (some .int) 8 1 6 [.ref (ad 0), ii_v i] ab_x4 ad (f, w) (ab_T "java/lang/IndexOutOfBoundsException" ab_x4 ad (f, w)) := by
  obtain ⟨Post, hPost⟩ : ∃ P : ab_P, P = (ab_T "java/lang/IndexOutOfBoundsException" ab_x4 ad (f, w)) := ⟨_, rfl⟩
  rw [← hPost]
  refine ab_of RX9 [(0, .ref (ad 0)), (1, ii_v i)] hl (by decide) rfl (Nat.le_of_ble_eq_true rfl) rfl ?_
  intro p e s m args below meth c C T0 hnm
  refine a_aload_n C dX9_emptyByJournal_0 rfl ?_
  refine a_iload_n C dX9_emptyByJournal_1 rfl ?_
  refine a_callV (o := 0) (As := [ii_v i]) C (x_keptBus hl f w h4 i zi h) co_X9_keptBus in_X9 ml_X9_182 im_X9_keptBus se_X9_keptBus rfl rfl ar_X9_keptBus ⟨by decide, by decide, by decide, by decide⟩ rfl (Nat.le_of_ble_eq_true rfl) dX9_emptyByJournal_2 a_nT (a_dT ?_)
  refine a_out C T0 ?_ (by decide) (by decide)
  rw [hPost]
  exact ⟨rfl, rfl, rfl, rfl⟩
