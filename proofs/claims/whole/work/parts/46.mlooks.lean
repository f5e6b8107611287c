/-! The model: its calls that only look. -/
theorem re_nc {u : Int} (h : u = 115 ∨ u = 119 ∨ u = 100 ∨ u = 98) : narrow .char (ii_v u) = ii_v u := by
  rcases h with rfl | rfl | rfl | rfl <;> decide
set_option maxRecDepth 20000 in
set_option maxHeartbeats 2000000 in
theorem m_x {l : Launch} {E : ab_E} {base : Nat} (hl : l.stackTraces = false) {ad : Nat → Nat} (f : Nat → Nat → Int) (w : Nat × Nat × Int64 × UInt64) (b : Nat) (hb : (b : Int) < f 40 29) (hm : 0 ≤ f 40 29 ∧ f 40 29 ≤ 4)  : ab_M l E base yX10_x cX10_x 2 (some .int) 3 0 0 [.ref (ad 40), ii_v ((b : Nat) : Int)] ab_x4 ad (f, w) (ab_R (ii_v (f 44 b)) ab_x4 ad (ii_up f 40 0 0, w)) := by
  obtain ⟨Post, hPost⟩ : ∃ P : ab_P, P = (ab_R (ii_v (f 44 b)) ab_x4 ad (ii_up f 40 0 0, w)) := ⟨_, rfl⟩
  rw [← hPost]
  refine ab_of RX10 [(0, .ref (ad 40)), (1, ii_v ((b : Nat) : Int))] hl (by decide) rfl (Nat.le_of_ble_eq_true rfl) rfl ?_
  intro p e s m args below meth c C T0 hnm
  refine a_aload_n C dX10_x_0 rfl ?_
  refine a_iconst C dX10_x_1 ?_
  refine a_put (ci := 11) (i := 0) C iw_X10 rfl (by decide) rfl tyX10 tyX10_ok nmX10 rfl rfl fl_X10_114 rfl rfl rfl rfl dX10_x_2 ?_
  obtain ⟨g1, eg1⟩ : ∃ F : Nat → Nat → Int, F = ii_up f 40 0 0 := ⟨_, rfl⟩
  rw [← eg1]
  refine a_aload_n C dX10_x_5 rfl ?_
  refine a_iload_n C dX10_x_6 rfl ?_
  refine a_callV (o := 40) (As := [ii_v ((b : Nat) : Int)]) C (m_isBus hl g1 w ((b : Nat) : Int) (by omega) (by rw [show g1 40 29 = f 40 29 from by rw [eg1]; exact ii_up_k _ _ (by decide)]; omega)) co_X10_isBus in_X10 ml_X10_235 im_X10_isBus se_X10_isBus rfl rfl ar_X10_isBus ⟨by decide, by decide, by decide, by decide⟩ rfl (Nat.le_of_ble_eq_true rfl) dX10_x_7 (a_dR ?_) a_nR
  rw [show g1 40 29 = f 40 29 from by rw [eg1]; exact ii_up_k _ _ (by decide)]
  refine a_bif_eq (tgt := 22) C dX10_x_10 rfl (fun h10 => ?_) (fun h10 => ?_)
  · skip
    omega
  · skip
    refine a_aload_n C dX10_x_13 rfl ?_
    refine a_get (ci := 11) (i := 4) (v := .ref (ad 44)) C iw_X10 rfl (by decide) rfl fl_X10_19 rfl rfl dX10_x_14 ?_
    refine a_iload_n C dX10_x_17 rfl ?_
    refine a_iald (o := 44) (N := 4) b C dX10_x_18 rfl (by omega) (by omega) (by decide) ?_
    refine a_top (w := ii_v (g1 44 b)) rfl ?_
    refine a_top (w := ii_v (f 44 b)) (congrArg (fun q => ii_v q) (show g1 44 b = (f 44 b) by rw [eg1, ii_up_o _ _ _ (by omega)])) ?_
    refine a_goto (tgt := 27) C dX10_x_19 rfl ?_
    refine a_iret C ?_ (by decide) (by decide) dX10_x_27
    rw [hPost]
    subst eg1
    exact ⟨rfl, rfl, rfl, by first | rfl | rw [ii_up_up]⟩
set_option maxRecDepth 20000 in
set_option maxHeartbeats 2000000 in
theorem n_x {l : Launch} {E : ab_E} {base : Nat} (hl : l.stackTraces = false) {ad : Nat → Nat} (f : Nat → Nat → Int) (w : Nat × Nat × Int64 × UInt64) (i : Int) (zi : -2147483648 ≤ i ∧ i < 2147483648) (h : ¬ (0 ≤ i ∧ i < f 40 29)) (hm : 0 ≤ f 40 29 ∧ f 40 29 ≤ 4)  : ab_M l E base yX10_x cX10_x 2 (some .int) 3 0 0 [.ref (ad 40), ii_v i] ab_x4 ad (f, w) (ab_R (ii_v (0)) ab_x4 ad (ii_up f 40 0 1, w)) := by
  obtain ⟨Post, hPost⟩ : ∃ P : ab_P, P = (ab_R (ii_v (0)) ab_x4 ad (ii_up f 40 0 1, w)) := ⟨_, rfl⟩
  rw [← hPost]
  refine ab_of RX10 [(0, .ref (ad 40)), (1, ii_v i)] hl (by decide) rfl (Nat.le_of_ble_eq_true rfl) rfl ?_
  intro p e s m args below meth c C T0 hnm
  refine a_aload_n C dX10_x_0 rfl ?_
  refine a_iconst C dX10_x_1 ?_
  refine a_put (ci := 11) (i := 0) C iw_X10 rfl (by decide) rfl tyX10 tyX10_ok nmX10 rfl rfl fl_X10_114 rfl rfl rfl rfl dX10_x_2 ?_
  obtain ⟨g1, eg1⟩ : ∃ F : Nat → Nat → Int, F = ii_up f 40 0 0 := ⟨_, rfl⟩
  rw [← eg1]
  refine a_aload_n C dX10_x_5 rfl ?_
  refine a_iload_n C dX10_x_6 rfl ?_
  refine a_callV (o := 40) (As := [ii_v i]) C (m_isBus hl g1 w i (by omega) (by rw [show g1 40 29 = f 40 29 from by rw [eg1]; exact ii_up_k _ _ (by decide)]; omega)) co_X10_isBus in_X10 ml_X10_235 im_X10_isBus se_X10_isBus rfl rfl ar_X10_isBus ⟨by decide, by decide, by decide, by decide⟩ rfl (Nat.le_of_ble_eq_true rfl) dX10_x_7 (a_dR ?_) a_nR
  rw [show g1 40 29 = f 40 29 from by rw [eg1]; exact ii_up_k _ _ (by decide)]
  refine a_bif_eq (tgt := 22) C dX10_x_10 rfl (fun h10 => ?_) (fun h10 => ?_)
  · skip
    refine a_aload_n C dX10_x_22 rfl ?_
    refine a_iconst C dX10_x_23 ?_
    refine a_callV (o := 40) (As := [ii_v 1]) C (m_fails hl g1 w 1) co_X10_fails in_X10 ml_X10_127 im_X10_fails se_X10_fails rfl rfl ar_X10_fails ⟨by decide, by decide, by decide, by decide⟩ rfl (Nat.le_of_ble_eq_true rfl) dX10_x_24 (a_dR ?_) a_nR
    obtain ⟨g2, eg2⟩ : ∃ F : Nat → Nat → Int, F = ii_up g1 40 0 1 := ⟨_, rfl⟩
    rw [← eg2]
    refine a_iret C ?_ (by decide) (by decide) dX10_x_27
    rw [hPost]
    subst eg2 eg1
    exact ⟨rfl, rfl, rfl, by first | rfl | rw [ii_up_up]⟩
  · skip
    omega
set_option maxRecDepth 20000 in
set_option maxHeartbeats 2000000 in
theorem m_y {l : Launch} {E : ab_E} {base : Nat} (hl : l.stackTraces = false) {ad : Nat → Nat} (f : Nat → Nat → Int) (w : Nat × Nat × Int64 × UInt64) (b : Nat) (hb : (b : Int) < f 40 29) (hm : 0 ≤ f 40 29 ∧ f 40 29 ≤ 4)  : ab_M l E base yX10_y cX10_y 2 (some .int) 3 0 0 [.ref (ad 40), ii_v ((b : Nat) : Int)] ab_x4 ad (f, w) (ab_R (ii_v (f 45 b)) ab_x4 ad (ii_up f 40 0 0, w)) := by
  obtain ⟨Post, hPost⟩ : ∃ P : ab_P, P = (ab_R (ii_v (f 45 b)) ab_x4 ad (ii_up f 40 0 0, w)) := ⟨_, rfl⟩
  rw [← hPost]
  refine ab_of RX10 [(0, .ref (ad 40)), (1, ii_v ((b : Nat) : Int))] hl (by decide) rfl (Nat.le_of_ble_eq_true rfl) rfl ?_
  intro p e s m args below meth c C T0 hnm
  refine a_aload_n C dX10_y_0 rfl ?_
  refine a_iconst C dX10_y_1 ?_
  refine a_put (ci := 11) (i := 0) C iw_X10 rfl (by decide) rfl tyX10 tyX10_ok nmX10 rfl rfl fl_X10_114 rfl rfl rfl rfl dX10_y_2 ?_
  obtain ⟨g1, eg1⟩ : ∃ F : Nat → Nat → Int, F = ii_up f 40 0 0 := ⟨_, rfl⟩
  rw [← eg1]
  refine a_aload_n C dX10_y_5 rfl ?_
  refine a_iload_n C dX10_y_6 rfl ?_
  refine a_callV (o := 40) (As := [ii_v ((b : Nat) : Int)]) C (m_isBus hl g1 w ((b : Nat) : Int) (by omega) (by rw [show g1 40 29 = f 40 29 from by rw [eg1]; exact ii_up_k _ _ (by decide)]; omega)) co_X10_isBus in_X10 ml_X10_235 im_X10_isBus se_X10_isBus rfl rfl ar_X10_isBus ⟨by decide, by decide, by decide, by decide⟩ rfl (Nat.le_of_ble_eq_true rfl) dX10_y_7 (a_dR ?_) a_nR
  rw [show g1 40 29 = f 40 29 from by rw [eg1]; exact ii_up_k _ _ (by decide)]
  refine a_bif_eq (tgt := 22) C dX10_y_10 rfl (fun h10 => ?_) (fun h10 => ?_)
  · skip
    omega
  · skip
    refine a_aload_n C dX10_y_13 rfl ?_
    refine a_get (ci := 11) (i := 5) (v := .ref (ad 45)) C iw_X10 rfl (by decide) rfl fl_X10_22 rfl rfl dX10_y_14 ?_
    refine a_iload_n C dX10_y_17 rfl ?_
    refine a_iald (o := 45) (N := 4) b C dX10_y_18 rfl (by omega) (by omega) (by decide) ?_
    refine a_top (w := ii_v (g1 45 b)) rfl ?_
    refine a_top (w := ii_v (f 45 b)) (congrArg (fun q => ii_v q) (show g1 45 b = (f 45 b) by rw [eg1, ii_up_o _ _ _ (by omega)])) ?_
    refine a_goto (tgt := 27) C dX10_y_19 rfl ?_
    refine a_iret C ?_ (by decide) (by decide) dX10_y_27
    rw [hPost]
    subst eg1
    exact ⟨rfl, rfl, rfl, by first | rfl | rw [ii_up_up]⟩
set_option maxRecDepth 20000 in
set_option maxHeartbeats 2000000 in
theorem n_y {l : Launch} {E : ab_E} {base : Nat} (hl : l.stackTraces = false) {ad : Nat → Nat} (f : Nat → Nat → Int) (w : Nat × Nat × Int64 × UInt64) (i : Int) (zi : -2147483648 ≤ i ∧ i < 2147483648) (h : ¬ (0 ≤ i ∧ i < f 40 29)) (hm : 0 ≤ f 40 29 ∧ f 40 29 ≤ 4)  : ab_M l E base yX10_y cX10_y 2 (some .int) 3 0 0 [.ref (ad 40), ii_v i] ab_x4 ad (f, w) (ab_R (ii_v (0)) ab_x4 ad (ii_up f 40 0 1, w)) := by
  obtain ⟨Post, hPost⟩ : ∃ P : ab_P, P = (ab_R (ii_v (0)) ab_x4 ad (ii_up f 40 0 1, w)) := ⟨_, rfl⟩
  rw [← hPost]
  refine ab_of RX10 [(0, .ref (ad 40)), (1, ii_v i)] hl (by decide) rfl (Nat.le_of_ble_eq_true rfl) rfl ?_
  intro p e s m args below meth c C T0 hnm
  refine a_aload_n C dX10_y_0 rfl ?_
  refine a_iconst C dX10_y_1 ?_
  refine a_put (ci := 11) (i := 0) C iw_X10 rfl (by decide) rfl tyX10 tyX10_ok nmX10 rfl rfl fl_X10_114 rfl rfl rfl rfl dX10_y_2 ?_
  obtain ⟨g1, eg1⟩ : ∃ F : Nat → Nat → Int, F = ii_up f 40 0 0 := ⟨_, rfl⟩
  rw [← eg1]
  refine a_aload_n C dX10_y_5 rfl ?_
  refine a_iload_n C dX10_y_6 rfl ?_
  refine a_callV (o := 40) (As := [ii_v i]) C (m_isBus hl g1 w i (by omega) (by rw [show g1 40 29 = f 40 29 from by rw [eg1]; exact ii_up_k _ _ (by decide)]; omega)) co_X10_isBus in_X10 ml_X10_235 im_X10_isBus se_X10_isBus rfl rfl ar_X10_isBus ⟨by decide, by decide, by decide, by decide⟩ rfl (Nat.le_of_ble_eq_true rfl) dX10_y_7 (a_dR ?_) a_nR
  rw [show g1 40 29 = f 40 29 from by rw [eg1]; exact ii_up_k _ _ (by decide)]
  refine a_bif_eq (tgt := 22) C dX10_y_10 rfl (fun h10 => ?_) (fun h10 => ?_)
  · skip
    refine a_aload_n C dX10_y_22 rfl ?_
    refine a_iconst C dX10_y_23 ?_
    refine a_callV (o := 40) (As := [ii_v 1]) C (m_fails hl g1 w 1) co_X10_fails in_X10 ml_X10_127 im_X10_fails se_X10_fails rfl rfl ar_X10_fails ⟨by decide, by decide, by decide, by decide⟩ rfl (Nat.le_of_ble_eq_true rfl) dX10_y_24 (a_dR ?_) a_nR
    obtain ⟨g2, eg2⟩ : ∃ F : Nat → Nat → Int, F = ii_up g1 40 0 1 := ⟨_, rfl⟩
    rw [← eg2]
    refine a_iret C ?_ (by decide) (by decide) dX10_y_27
    rw [hPost]
    subst eg2 eg1
    exact ⟨rfl, rfl, rfl, by first | rfl | rw [ii_up_up]⟩
  · skip
    omega
set_option maxRecDepth 20000 in
set_option maxHeartbeats 2000000 in
theorem m_charge {l : Launch} {E : ab_E} {base : Nat} (hl : l.stackTraces = false) {ad : Nat → Nat} (f : Nat → Nat → Int) (w : Nat × Nat × Int64 × UInt64) (b : Nat) (hb : (b : Int) < f 40 29) (hm : 0 ≤ f 40 29 ∧ f 40 29 ≤ 4)  : ab_M l E base yX10_charge cX10_charge 2 (some .int) 3 0 0 [.ref (ad 40), ii_v ((b : Nat) : Int)] ab_x4 ad (f, w) (ab_R (ii_v (f 43 b)) ab_x4 ad (ii_up f 40 0 0, w)) := by
  obtain ⟨Post, hPost⟩ : ∃ P : ab_P, P = (ab_R (ii_v (f 43 b)) ab_x4 ad (ii_up f 40 0 0, w)) := ⟨_, rfl⟩
  rw [← hPost]
  refine ab_of RX10 [(0, .ref (ad 40)), (1, ii_v ((b : Nat) : Int))] hl (by decide) rfl (Nat.le_of_ble_eq_true rfl) rfl ?_
  intro p e s m args below meth c C T0 hnm
  refine a_aload_n C dX10_charge_0 rfl ?_
  refine a_iconst C dX10_charge_1 ?_
  refine a_put (ci := 11) (i := 0) C iw_X10 rfl (by decide) rfl tyX10 tyX10_ok nmX10 rfl rfl fl_X10_114 rfl rfl rfl rfl dX10_charge_2 ?_
  obtain ⟨g1, eg1⟩ : ∃ F : Nat → Nat → Int, F = ii_up f 40 0 0 := ⟨_, rfl⟩
  rw [← eg1]
  refine a_aload_n C dX10_charge_5 rfl ?_
  refine a_iload_n C dX10_charge_6 rfl ?_
  refine a_callV (o := 40) (As := [ii_v ((b : Nat) : Int)]) C (m_isBus hl g1 w ((b : Nat) : Int) (by omega) (by rw [show g1 40 29 = f 40 29 from by rw [eg1]; exact ii_up_k _ _ (by decide)]; omega)) co_X10_isBus in_X10 ml_X10_235 im_X10_isBus se_X10_isBus rfl rfl ar_X10_isBus ⟨by decide, by decide, by decide, by decide⟩ rfl (Nat.le_of_ble_eq_true rfl) dX10_charge_7 (a_dR ?_) a_nR
  rw [show g1 40 29 = f 40 29 from by rw [eg1]; exact ii_up_k _ _ (by decide)]
  refine a_bif_eq (tgt := 22) C dX10_charge_10 rfl (fun h10 => ?_) (fun h10 => ?_)
  · skip
    omega
  · skip
    refine a_aload_n C dX10_charge_13 rfl ?_
    refine a_get (ci := 11) (i := 3) (v := .ref (ad 43)) C iw_X10 rfl (by decide) rfl fl_X10_16 rfl rfl dX10_charge_14 ?_
    refine a_iload_n C dX10_charge_17 rfl ?_
    refine a_iald (o := 43) (N := 4) b C dX10_charge_18 rfl (by omega) (by omega) (by decide) ?_
    refine a_top (w := ii_v (g1 43 b)) rfl ?_
    refine a_top (w := ii_v (f 43 b)) (congrArg (fun q => ii_v q) (show g1 43 b = (f 43 b) by rw [eg1, ii_up_o _ _ _ (by omega)])) ?_
    refine a_goto (tgt := 27) C dX10_charge_19 rfl ?_
    refine a_iret C ?_ (by decide) (by decide) dX10_charge_27
    rw [hPost]
    subst eg1
    exact ⟨rfl, rfl, rfl, by first | rfl | rw [ii_up_up]⟩
set_option maxRecDepth 20000 in
set_option maxHeartbeats 2000000 in
theorem n_charge {l : Launch} {E : ab_E} {base : Nat} (hl : l.stackTraces = false) {ad : Nat → Nat} (f : Nat → Nat → Int) (w : Nat × Nat × Int64 × UInt64) (i : Int) (zi : -2147483648 ≤ i ∧ i < 2147483648) (h : ¬ (0 ≤ i ∧ i < f 40 29)) (hm : 0 ≤ f 40 29 ∧ f 40 29 ≤ 4)  : ab_M l E base yX10_charge cX10_charge 2 (some .int) 3 0 0 [.ref (ad 40), ii_v i] ab_x4 ad (f, w) (ab_R (ii_v (0)) ab_x4 ad (ii_up f 40 0 1, w)) := by
  obtain ⟨Post, hPost⟩ : ∃ P : ab_P, P = (ab_R (ii_v (0)) ab_x4 ad (ii_up f 40 0 1, w)) := ⟨_, rfl⟩
  rw [← hPost]
  refine ab_of RX10 [(0, .ref (ad 40)), (1, ii_v i)] hl (by decide) rfl (Nat.le_of_ble_eq_true rfl) rfl ?_
  intro p e s m args below meth c C T0 hnm
  refine a_aload_n C dX10_charge_0 rfl ?_
  refine a_iconst C dX10_charge_1 ?_
  refine a_put (ci := 11) (i := 0) C iw_X10 rfl (by decide) rfl tyX10 tyX10_ok nmX10 rfl rfl fl_X10_114 rfl rfl rfl rfl dX10_charge_2 ?_
  obtain ⟨g1, eg1⟩ : ∃ F : Nat → Nat → Int, F = ii_up f 40 0 0 := ⟨_, rfl⟩
  rw [← eg1]
  refine a_aload_n C dX10_charge_5 rfl ?_
  refine a_iload_n C dX10_charge_6 rfl ?_
  refine a_callV (o := 40) (As := [ii_v i]) C (m_isBus hl g1 w i (by omega) (by rw [show g1 40 29 = f 40 29 from by rw [eg1]; exact ii_up_k _ _ (by decide)]; omega)) co_X10_isBus in_X10 ml_X10_235 im_X10_isBus se_X10_isBus rfl rfl ar_X10_isBus ⟨by decide, by decide, by decide, by decide⟩ rfl (Nat.le_of_ble_eq_true rfl) dX10_charge_7 (a_dR ?_) a_nR
  rw [show g1 40 29 = f 40 29 from by rw [eg1]; exact ii_up_k _ _ (by decide)]
  refine a_bif_eq (tgt := 22) C dX10_charge_10 rfl (fun h10 => ?_) (fun h10 => ?_)
  · skip
    refine a_aload_n C dX10_charge_22 rfl ?_
    refine a_iconst C dX10_charge_23 ?_
    refine a_callV (o := 40) (As := [ii_v 1]) C (m_fails hl g1 w 1) co_X10_fails in_X10 ml_X10_127 im_X10_fails se_X10_fails rfl rfl ar_X10_fails ⟨by decide, by decide, by decide, by decide⟩ rfl (Nat.le_of_ble_eq_true rfl) dX10_charge_24 (a_dR ?_) a_nR
    obtain ⟨g2, eg2⟩ : ∃ F : Nat → Nat → Int, F = ii_up g1 40 0 1 := ⟨_, rfl⟩
    rw [← eg2]
    refine a_iret C ?_ (by decide) (by decide) dX10_charge_27
    rw [hPost]
    subst eg2 eg1
    exact ⟨rfl, rfl, rfl, by first | rfl | rw [ii_up_up]⟩
  · skip
    omega
set_option maxRecDepth 20000 in
set_option maxHeartbeats 2000000 in
theorem m_driven {l : Launch} {E : ab_E} {base : Nat} (hl : l.stackTraces = false) {ad : Nat → Nat} (f : Nat → Nat → Int) (w : Nat × Nat × Int64 × UInt64) (b : Nat) (hb : (b : Int) < f 40 29) (hm : 0 ≤ f 40 29 ∧ f 40 29 ≤ 4)  : ab_M l E base yX10_driven cX10_driven 2 (some .int) 3 0 0 [.ref (ad 40), ii_v ((b : Nat) : Int)] ab_x4 ad (f, w) (ab_R (ii_v (f 48 b)) ab_x4 ad (ii_up f 40 0 0, w)) := by
  obtain ⟨Post, hPost⟩ : ∃ P : ab_P, P = (ab_R (ii_v (f 48 b)) ab_x4 ad (ii_up f 40 0 0, w)) := ⟨_, rfl⟩
  rw [← hPost]
  refine ab_of RX10 [(0, .ref (ad 40)), (1, ii_v ((b : Nat) : Int))] hl (by decide) rfl (Nat.le_of_ble_eq_true rfl) rfl ?_
  intro p e s m args below meth c C T0 hnm
  refine a_aload_n C dX10_driven_0 rfl ?_
  refine a_iconst C dX10_driven_1 ?_
  refine a_put (ci := 11) (i := 0) C iw_X10 rfl (by decide) rfl tyX10 tyX10_ok nmX10 rfl rfl fl_X10_114 rfl rfl rfl rfl dX10_driven_2 ?_
  obtain ⟨g1, eg1⟩ : ∃ F : Nat → Nat → Int, F = ii_up f 40 0 0 := ⟨_, rfl⟩
  rw [← eg1]
  refine a_aload_n C dX10_driven_5 rfl ?_
  refine a_iload_n C dX10_driven_6 rfl ?_
  refine a_callV (o := 40) (As := [ii_v ((b : Nat) : Int)]) C (m_isBus hl g1 w ((b : Nat) : Int) (by omega) (by rw [show g1 40 29 = f 40 29 from by rw [eg1]; exact ii_up_k _ _ (by decide)]; omega)) co_X10_isBus in_X10 ml_X10_235 im_X10_isBus se_X10_isBus rfl rfl ar_X10_isBus ⟨by decide, by decide, by decide, by decide⟩ rfl (Nat.le_of_ble_eq_true rfl) dX10_driven_7 (a_dR ?_) a_nR
  rw [show g1 40 29 = f 40 29 from by rw [eg1]; exact ii_up_k _ _ (by decide)]
  refine a_bif_eq (tgt := 22) C dX10_driven_10 rfl (fun h10 => ?_) (fun h10 => ?_)
  · skip
    omega
  · skip
    refine a_aload_n C dX10_driven_13 rfl ?_
    refine a_get (ci := 11) (i := 8) (v := .ref (ad 48)) C iw_X10 rfl (by decide) rfl fl_X10_31 rfl rfl dX10_driven_14 ?_
    refine a_iload_n C dX10_driven_17 rfl ?_
    refine a_iald (o := 48) (N := 4) b C dX10_driven_18 rfl (by omega) (by omega) (by decide) ?_
    refine a_top (w := ii_v (g1 48 b)) rfl ?_
    refine a_top (w := ii_v (f 48 b)) (congrArg (fun q => ii_v q) (show g1 48 b = (f 48 b) by rw [eg1, ii_up_o _ _ _ (by omega)])) ?_
    refine a_goto (tgt := 27) C dX10_driven_19 rfl ?_
    refine a_iret C ?_ (by decide) (by decide) dX10_driven_27
    rw [hPost]
    subst eg1
    exact ⟨rfl, rfl, rfl, by first | rfl | rw [ii_up_up]⟩
set_option maxRecDepth 20000 in
set_option maxHeartbeats 2000000 in
theorem n_driven {l : Launch} {E : ab_E} {base : Nat} (hl : l.stackTraces = false) {ad : Nat → Nat} (f : Nat → Nat → Int) (w : Nat × Nat × Int64 × UInt64) (i : Int) (zi : -2147483648 ≤ i ∧ i < 2147483648) (h : ¬ (0 ≤ i ∧ i < f 40 29)) (hm : 0 ≤ f 40 29 ∧ f 40 29 ≤ 4)  : ab_M l E base yX10_driven cX10_driven 2 (some .int) 3 0 0 [.ref (ad 40), ii_v i] ab_x4 ad (f, w) (ab_R (ii_v (0)) ab_x4 ad (ii_up f 40 0 1, w)) := by
  obtain ⟨Post, hPost⟩ : ∃ P : ab_P, P = (ab_R (ii_v (0)) ab_x4 ad (ii_up f 40 0 1, w)) := ⟨_, rfl⟩
  rw [← hPost]
  refine ab_of RX10 [(0, .ref (ad 40)), (1, ii_v i)] hl (by decide) rfl (Nat.le_of_ble_eq_true rfl) rfl ?_
  intro p e s m args below meth c C T0 hnm
  refine a_aload_n C dX10_driven_0 rfl ?_
  refine a_iconst C dX10_driven_1 ?_
  refine a_put (ci := 11) (i := 0) C iw_X10 rfl (by decide) rfl tyX10 tyX10_ok nmX10 rfl rfl fl_X10_114 rfl rfl rfl rfl dX10_driven_2 ?_
  obtain ⟨g1, eg1⟩ : ∃ F : Nat → Nat → Int, F = ii_up f 40 0 0 := ⟨_, rfl⟩
  rw [← eg1]
  refine a_aload_n C dX10_driven_5 rfl ?_
  refine a_iload_n C dX10_driven_6 rfl ?_
  refine a_callV (o := 40) (As := [ii_v i]) C (m_isBus hl g1 w i (by omega) (by rw [show g1 40 29 = f 40 29 from by rw [eg1]; exact ii_up_k _ _ (by decide)]; omega)) co_X10_isBus in_X10 ml_X10_235 im_X10_isBus se_X10_isBus rfl rfl ar_X10_isBus ⟨by decide, by decide, by decide, by decide⟩ rfl (Nat.le_of_ble_eq_true rfl) dX10_driven_7 (a_dR ?_) a_nR
  rw [show g1 40 29 = f 40 29 from by rw [eg1]; exact ii_up_k _ _ (by decide)]
  refine a_bif_eq (tgt := 22) C dX10_driven_10 rfl (fun h10 => ?_) (fun h10 => ?_)
  · skip
    refine a_aload_n C dX10_driven_22 rfl ?_
    refine a_iconst C dX10_driven_23 ?_
    refine a_callV (o := 40) (As := [ii_v 1]) C (m_fails hl g1 w 1) co_X10_fails in_X10 ml_X10_127 im_X10_fails se_X10_fails rfl rfl ar_X10_fails ⟨by decide, by decide, by decide, by decide⟩ rfl (Nat.le_of_ble_eq_true rfl) dX10_driven_24 (a_dR ?_) a_nR
    obtain ⟨g2, eg2⟩ : ∃ F : Nat → Nat → Int, F = ii_up g1 40 0 1 := ⟨_, rfl⟩
    rw [← eg2]
    refine a_iret C ?_ (by decide) (by decide) dX10_driven_27
    rw [hPost]
    subst eg2 eg1
    exact ⟨rfl, rfl, rfl, by first | rfl | rw [ii_up_up]⟩
  · skip
    omega
set_option maxRecDepth 20000 in
set_option maxHeartbeats 2000000 in
theorem m_empty {l : Launch} {E : ab_E} {base : Nat} (hl : l.stackTraces = false) {ad : Nat → Nat} (f : Nat → Nat → Int) (w : Nat × Nat × Int64 × UInt64) (b : Nat) (hb : (b : Int) < f 40 29) (hm : 0 ≤ f 40 29 ∧ f 40 29 ≤ 4)  : ab_M l E base yX10_empty cX10_empty 2 (some .int) 3 0 0 [.ref (ad 40), ii_v ((b : Nat) : Int)] ab_x4 ad (f, w) (ab_R (ii_v (f 49 b)) ab_x4 ad (ii_up f 40 0 0, w)) := by
  obtain ⟨Post, hPost⟩ : ∃ P : ab_P, P = (ab_R (ii_v (f 49 b)) ab_x4 ad (ii_up f 40 0 0, w)) := ⟨_, rfl⟩
  rw [← hPost]
  refine ab_of RX10 [(0, .ref (ad 40)), (1, ii_v ((b : Nat) : Int))] hl (by decide) rfl (Nat.le_of_ble_eq_true rfl) rfl ?_
  intro p e s m args below meth c C T0 hnm
  refine a_aload_n C dX10_empty_0 rfl ?_
  refine a_iconst C dX10_empty_1 ?_
  refine a_put (ci := 11) (i := 0) C iw_X10 rfl (by decide) rfl tyX10 tyX10_ok nmX10 rfl rfl fl_X10_114 rfl rfl rfl rfl dX10_empty_2 ?_
  obtain ⟨g1, eg1⟩ : ∃ F : Nat → Nat → Int, F = ii_up f 40 0 0 := ⟨_, rfl⟩
  rw [← eg1]
  refine a_aload_n C dX10_empty_5 rfl ?_
  refine a_iload_n C dX10_empty_6 rfl ?_
  refine a_callV (o := 40) (As := [ii_v ((b : Nat) : Int)]) C (m_isBus hl g1 w ((b : Nat) : Int) (by omega) (by rw [show g1 40 29 = f 40 29 from by rw [eg1]; exact ii_up_k _ _ (by decide)]; omega)) co_X10_isBus in_X10 ml_X10_235 im_X10_isBus se_X10_isBus rfl rfl ar_X10_isBus ⟨by decide, by decide, by decide, by decide⟩ rfl (Nat.le_of_ble_eq_true rfl) dX10_empty_7 (a_dR ?_) a_nR
  rw [show g1 40 29 = f 40 29 from by rw [eg1]; exact ii_up_k _ _ (by decide)]
  refine a_bif_eq (tgt := 22) C dX10_empty_10 rfl (fun h10 => ?_) (fun h10 => ?_)
  · skip
    omega
  · skip
    refine a_aload_n C dX10_empty_13 rfl ?_
    refine a_get (ci := 11) (i := 9) (v := .ref (ad 49)) C iw_X10 rfl (by decide) rfl fl_X10_34 rfl rfl dX10_empty_14 ?_
    refine a_iload_n C dX10_empty_17 rfl ?_
    refine a_iald (o := 49) (N := 4) b C dX10_empty_18 rfl (by omega) (by omega) (by decide) ?_
    refine a_top (w := ii_v (g1 49 b)) rfl ?_
    refine a_top (w := ii_v (f 49 b)) (congrArg (fun q => ii_v q) (show g1 49 b = (f 49 b) by rw [eg1, ii_up_o _ _ _ (by omega)])) ?_
    refine a_goto (tgt := 27) C dX10_empty_19 rfl ?_
    refine a_iret C ?_ (by decide) (by decide) dX10_empty_27
    rw [hPost]
    subst eg1
    exact ⟨rfl, rfl, rfl, by first | rfl | rw [ii_up_up]⟩
set_option maxRecDepth 20000 in
set_option maxHeartbeats 2000000 in
theorem n_empty {l : Launch} {E : ab_E} {base : Nat} (hl : l.stackTraces = false) {ad : Nat → Nat} (f : Nat → Nat → Int) (w : Nat × Nat × Int64 × UInt64) (i : Int) (zi : -2147483648 ≤ i ∧ i < 2147483648) (h : ¬ (0 ≤ i ∧ i < f 40 29)) (hm : 0 ≤ f 40 29 ∧ f 40 29 ≤ 4)  : ab_M l E base yX10_empty cX10_empty 2 (some .int) 3 0 0 [.ref (ad 40), ii_v i] ab_x4 ad (f, w) (ab_R (ii_v (0)) ab_x4 ad (ii_up f 40 0 1, w)) := by
  obtain ⟨Post, hPost⟩ : ∃ P : ab_P, P = (ab_R (ii_v (0)) ab_x4 ad (ii_up f 40 0 1, w)) := ⟨_, rfl⟩
  rw [← hPost]
  refine ab_of RX10 [(0, .ref (ad 40)), (1, ii_v i)] hl (by decide) rfl (Nat.le_of_ble_eq_true rfl) rfl ?_
  intro p e s m args below meth c C T0 hnm
  refine a_aload_n C dX10_empty_0 rfl ?_
  refine a_iconst C dX10_empty_1 ?_
  refine a_put (ci := 11) (i := 0) C iw_X10 rfl (by decide) rfl tyX10 tyX10_ok nmX10 rfl rfl fl_X10_114 rfl rfl rfl rfl dX10_empty_2 ?_
  obtain ⟨g1, eg1⟩ : ∃ F : Nat → Nat → Int, F = ii_up f 40 0 0 := ⟨_, rfl⟩
  rw [← eg1]
  refine a_aload_n C dX10_empty_5 rfl ?_
  refine a_iload_n C dX10_empty_6 rfl ?_
  refine a_callV (o := 40) (As := [ii_v i]) C (m_isBus hl g1 w i (by omega) (by rw [show g1 40 29 = f 40 29 from by rw [eg1]; exact ii_up_k _ _ (by decide)]; omega)) co_X10_isBus in_X10 ml_X10_235 im_X10_isBus se_X10_isBus rfl rfl ar_X10_isBus ⟨by decide, by decide, by decide, by decide⟩ rfl (Nat.le_of_ble_eq_true rfl) dX10_empty_7 (a_dR ?_) a_nR
  rw [show g1 40 29 = f 40 29 from by rw [eg1]; exact ii_up_k _ _ (by decide)]
  refine a_bif_eq (tgt := 22) C dX10_empty_10 rfl (fun h10 => ?_) (fun h10 => ?_)
  · skip
    refine a_aload_n C dX10_empty_22 rfl ?_
    refine a_iconst C dX10_empty_23 ?_
    refine a_callV (o := 40) (As := [ii_v 1]) C (m_fails hl g1 w 1) co_X10_fails in_X10 ml_X10_127 im_X10_fails se_X10_fails rfl rfl ar_X10_fails ⟨by decide, by decide, by decide, by decide⟩ rfl (Nat.le_of_ble_eq_true rfl) dX10_empty_24 (a_dR ?_) a_nR
    obtain ⟨g2, eg2⟩ : ∃ F : Nat → Nat → Int, F = ii_up g1 40 0 1 := ⟨_, rfl⟩
    rw [← eg2]
    refine a_iret C ?_ (by decide) (by decide) dX10_empty_27
    rw [hPost]
    subst eg2 eg1
    exact ⟨rfl, rfl, rfl, by first | rfl | rw [ii_up_up]⟩
  · skip
    omega
set_option maxRecDepth 20000 in
set_option maxHeartbeats 2000000 in
theorem m_stops {l : Launch} {E : ab_E} {base : Nat} (hl : l.stackTraces = false) {ad : Nat → Nat} (f : Nat → Nat → Int) (w : Nat × Nat × Int64 × UInt64) (b : Nat) (hb : (b : Int) < f 40 29) (hm : 0 ≤ f 40 29 ∧ f 40 29 ≤ 4)  : ab_M l E base yX10_stops cX10_stops 2 (some .int) 3 0 0 [.ref (ad 40), ii_v ((b : Nat) : Int)] ab_x4 ad (f, w) (ab_R (ii_v (f 51 b)) ab_x4 ad (ii_up f 40 0 0, w)) := by
  obtain ⟨Post, hPost⟩ : ∃ P : ab_P, P = (ab_R (ii_v (f 51 b)) ab_x4 ad (ii_up f 40 0 0, w)) := ⟨_, rfl⟩
  rw [← hPost]
  refine ab_of RX10 [(0, .ref (ad 40)), (1, ii_v ((b : Nat) : Int))] hl (by decide) rfl (Nat.le_of_ble_eq_true rfl) rfl ?_
  intro p e s m args below meth c C T0 hnm
  refine a_aload_n C dX10_stops_0 rfl ?_
  refine a_iconst C dX10_stops_1 ?_
  refine a_put (ci := 11) (i := 0) C iw_X10 rfl (by decide) rfl tyX10 tyX10_ok nmX10 rfl rfl fl_X10_114 rfl rfl rfl rfl dX10_stops_2 ?_
  obtain ⟨g1, eg1⟩ : ∃ F : Nat → Nat → Int, F = ii_up f 40 0 0 := ⟨_, rfl⟩
  rw [← eg1]
  refine a_aload_n C dX10_stops_5 rfl ?_
  refine a_iload_n C dX10_stops_6 rfl ?_
  refine a_callV (o := 40) (As := [ii_v ((b : Nat) : Int)]) C (m_isBus hl g1 w ((b : Nat) : Int) (by omega) (by rw [show g1 40 29 = f 40 29 from by rw [eg1]; exact ii_up_k _ _ (by decide)]; omega)) co_X10_isBus in_X10 ml_X10_235 im_X10_isBus se_X10_isBus rfl rfl ar_X10_isBus ⟨by decide, by decide, by decide, by decide⟩ rfl (Nat.le_of_ble_eq_true rfl) dX10_stops_7 (a_dR ?_) a_nR
  rw [show g1 40 29 = f 40 29 from by rw [eg1]; exact ii_up_k _ _ (by decide)]
  refine a_bif_eq (tgt := 22) C dX10_stops_10 rfl (fun h10 => ?_) (fun h10 => ?_)
  · skip
    omega
  · skip
    refine a_aload_n C dX10_stops_13 rfl ?_
    refine a_get (ci := 11) (i := 11) (v := .ref (ad 51)) C iw_X10 rfl (by decide) rfl fl_X10_40 rfl rfl dX10_stops_14 ?_
    refine a_iload_n C dX10_stops_17 rfl ?_
    refine a_iald (o := 51) (N := 4) b C dX10_stops_18 rfl (by omega) (by omega) (by decide) ?_
    refine a_top (w := ii_v (g1 51 b)) rfl ?_
    refine a_top (w := ii_v (f 51 b)) (congrArg (fun q => ii_v q) (show g1 51 b = (f 51 b) by rw [eg1, ii_up_o _ _ _ (by omega)])) ?_
    refine a_goto (tgt := 27) C dX10_stops_19 rfl ?_
    refine a_iret C ?_ (by decide) (by decide) dX10_stops_27
    rw [hPost]
    subst eg1
    exact ⟨rfl, rfl, rfl, by first | rfl | rw [ii_up_up]⟩
set_option maxRecDepth 20000 in
set_option maxHeartbeats 2000000 in
theorem n_stops {l : Launch} {E : ab_E} {base : Nat} (hl : l.stackTraces = false) {ad : Nat → Nat} (f : Nat → Nat → Int) (w : Nat × Nat × Int64 × UInt64) (i : Int) (zi : -2147483648 ≤ i ∧ i < 2147483648) (h : ¬ (0 ≤ i ∧ i < f 40 29)) (hm : 0 ≤ f 40 29 ∧ f 40 29 ≤ 4)  : ab_M l E base yX10_stops cX10_stops 2 (some .int) 3 0 0 [.ref (ad 40), ii_v i] ab_x4 ad (f, w) (ab_R (ii_v (0)) ab_x4 ad (ii_up f 40 0 1, w)) := by
  obtain ⟨Post, hPost⟩ : ∃ P : ab_P, P = (ab_R (ii_v (0)) ab_x4 ad (ii_up f 40 0 1, w)) := ⟨_, rfl⟩
  rw [← hPost]
  refine ab_of RX10 [(0, .ref (ad 40)), (1, ii_v i)] hl (by decide) rfl (Nat.le_of_ble_eq_true rfl) rfl ?_
  intro p e s m args below meth c C T0 hnm
  refine a_aload_n C dX10_stops_0 rfl ?_
  refine a_iconst C dX10_stops_1 ?_
  refine a_put (ci := 11) (i := 0) C iw_X10 rfl (by decide) rfl tyX10 tyX10_ok nmX10 rfl rfl fl_X10_114 rfl rfl rfl rfl dX10_stops_2 ?_
  obtain ⟨g1, eg1⟩ : ∃ F : Nat → Nat → Int, F = ii_up f 40 0 0 := ⟨_, rfl⟩
  rw [← eg1]
  refine a_aload_n C dX10_stops_5 rfl ?_
  refine a_iload_n C dX10_stops_6 rfl ?_
  refine a_callV (o := 40) (As := [ii_v i]) C (m_isBus hl g1 w i (by omega) (by rw [show g1 40 29 = f 40 29 from by rw [eg1]; exact ii_up_k _ _ (by decide)]; omega)) co_X10_isBus in_X10 ml_X10_235 im_X10_isBus se_X10_isBus rfl rfl ar_X10_isBus ⟨by decide, by decide, by decide, by decide⟩ rfl (Nat.le_of_ble_eq_true rfl) dX10_stops_7 (a_dR ?_) a_nR
  rw [show g1 40 29 = f 40 29 from by rw [eg1]; exact ii_up_k _ _ (by decide)]
  refine a_bif_eq (tgt := 22) C dX10_stops_10 rfl (fun h10 => ?_) (fun h10 => ?_)
  · skip
    refine a_aload_n C dX10_stops_22 rfl ?_
    refine a_iconst C dX10_stops_23 ?_
    refine a_callV (o := 40) (As := [ii_v 1]) C (m_fails hl g1 w 1) co_X10_fails in_X10 ml_X10_127 im_X10_fails se_X10_fails rfl rfl ar_X10_fails ⟨by decide, by decide, by decide, by decide⟩ rfl (Nat.le_of_ble_eq_true rfl) dX10_stops_24 (a_dR ?_) a_nR
    obtain ⟨g2, eg2⟩ : ∃ F : Nat → Nat → Int, F = ii_up g1 40 0 1 := ⟨_, rfl⟩
    rw [← eg2]
    refine a_iret C ?_ (by decide) (by decide) dX10_stops_27
    rw [hPost]
    subst eg2 eg1
    exact ⟨rfl, rfl, rfl, by first | rfl | rw [ii_up_up]⟩
  · skip
    omega
set_option maxRecDepth 20000 in
set_option maxHeartbeats 2000000 in
theorem n_onBoard {l : Launch} {E : ab_E} {base : Nat} (hl : l.stackTraces = false) {ad : Nat → Nat} (f : Nat → Nat → Int) (w : Nat × Nat × Int64 × UInt64) (i : Int) (zi : -2147483648 ≤ i ∧ i < 2147483648) (h : ¬ (0 ≤ i ∧ i < f 40 29)) (hm : 0 ≤ f 40 29 ∧ f 40 29 ≤ 4)  : ab_M l E base yX10_onBoard cX10_onBoard 2 (some .int) 3 0 0 [.ref (ad 40), ii_v i] ab_x4 ad (f, w) (ab_R (ii_v (0)) ab_x4 ad (ii_up f 40 0 1, w)) := by
  obtain ⟨Post, hPost⟩ : ∃ P : ab_P, P = (ab_R (ii_v (0)) ab_x4 ad (ii_up f 40 0 1, w)) := ⟨_, rfl⟩
  rw [← hPost]
  refine ab_of RX10 [(0, .ref (ad 40)), (1, ii_v i)] hl (by decide) rfl (Nat.le_of_ble_eq_true rfl) rfl ?_
  intro p e s m args below meth c C T0 hnm
  refine a_aload_n C dX10_onBoard_0 rfl ?_
  refine a_iconst C dX10_onBoard_1 ?_
  refine a_put (ci := 11) (i := 0) C iw_X10 rfl (by decide) rfl tyX10 tyX10_ok nmX10 rfl rfl fl_X10_114 rfl rfl rfl rfl dX10_onBoard_2 ?_
  obtain ⟨g1, eg1⟩ : ∃ F : Nat → Nat → Int, F = ii_up f 40 0 0 := ⟨_, rfl⟩
  rw [← eg1]
  refine a_aload_n C dX10_onBoard_5 rfl ?_
  refine a_iload_n C dX10_onBoard_6 rfl ?_
  refine a_callV (o := 40) (As := [ii_v i]) C (m_isBus hl g1 w i (by omega) (by rw [show g1 40 29 = f 40 29 from by rw [eg1]; exact ii_up_k _ _ (by decide)]; omega)) co_X10_isBus in_X10 ml_X10_235 im_X10_isBus se_X10_isBus rfl rfl ar_X10_isBus ⟨by decide, by decide, by decide, by decide⟩ rfl (Nat.le_of_ble_eq_true rfl) dX10_onBoard_7 (a_dR ?_) a_nR
  rw [show g1 40 29 = f 40 29 from by rw [eg1]; exact ii_up_k _ _ (by decide)]
  refine a_bif_eq (tgt := 21) C dX10_onBoard_10 rfl (fun h10 => ?_) (fun h10 => ?_)
  · skip
    refine a_aload_n C dX10_onBoard_21 rfl ?_
    refine a_iconst C dX10_onBoard_22 ?_
    refine a_callV (o := 40) (As := [ii_v 1]) C (m_fails hl g1 w 1) co_X10_fails in_X10 ml_X10_127 im_X10_fails se_X10_fails rfl rfl ar_X10_fails ⟨by decide, by decide, by decide, by decide⟩ rfl (Nat.le_of_ble_eq_true rfl) dX10_onBoard_23 (a_dR ?_) a_nR
    obtain ⟨g2, eg2⟩ : ∃ F : Nat → Nat → Int, F = ii_up g1 40 0 1 := ⟨_, rfl⟩
    rw [← eg2]
    refine a_iret C ?_ (by decide) (by decide) dX10_onBoard_26
    rw [hPost]
    subst eg2 eg1
    exact ⟨rfl, rfl, rfl, by first | rfl | rw [ii_up_up]⟩
  · skip
    omega
set_option maxRecDepth 20000 in
set_option maxHeartbeats 2000000 in
theorem n_length {l : Launch} {E : ab_E} {base : Nat} (hl : l.stackTraces = false) {ad : Nat → Nat} (f : Nat → Nat → Int) (w : Nat × Nat × Int64 × UInt64) (i : Int) (zi : -2147483648 ≤ i ∧ i < 2147483648) (h : ¬ (0 ≤ i ∧ i < f 40 29)) (hm : 0 ≤ f 40 29 ∧ f 40 29 ≤ 4)  : ab_M l E base yX10_length cX10_length 2 (some .int) 3 0 0 [.ref (ad 40), ii_v i] ab_x4 ad (f, w) (ab_R (ii_v (0)) ab_x4 ad (ii_up f 40 0 1, w)) := by
  obtain ⟨Post, hPost⟩ : ∃ P : ab_P, P = (ab_R (ii_v (0)) ab_x4 ad (ii_up f 40 0 1, w)) := ⟨_, rfl⟩
  rw [← hPost]
  refine ab_of RX10 [(0, .ref (ad 40)), (1, ii_v i)] hl (by decide) rfl (Nat.le_of_ble_eq_true rfl) rfl ?_
  intro p e s m args below meth c C T0 hnm
  refine a_aload_n C dX10_length_0 rfl ?_
  refine a_iconst C dX10_length_1 ?_
  refine a_put (ci := 11) (i := 0) C iw_X10 rfl (by decide) rfl tyX10 tyX10_ok nmX10 rfl rfl fl_X10_114 rfl rfl rfl rfl dX10_length_2 ?_
  obtain ⟨g1, eg1⟩ : ∃ F : Nat → Nat → Int, F = ii_up f 40 0 0 := ⟨_, rfl⟩
  rw [← eg1]
  refine a_aload_n C dX10_length_5 rfl ?_
  refine a_iload_n C dX10_length_6 rfl ?_
  refine a_callV (o := 40) (As := [ii_v i]) C (m_isBus hl g1 w i (by omega) (by rw [show g1 40 29 = f 40 29 from by rw [eg1]; exact ii_up_k _ _ (by decide)]; omega)) co_X10_isBus in_X10 ml_X10_235 im_X10_isBus se_X10_isBus rfl rfl ar_X10_isBus ⟨by decide, by decide, by decide, by decide⟩ rfl (Nat.le_of_ble_eq_true rfl) dX10_length_7 (a_dR ?_) a_nR
  rw [show g1 40 29 = f 40 29 from by rw [eg1]; exact ii_up_k _ _ (by decide)]
  refine a_bif_eq (tgt := 21) C dX10_length_10 rfl (fun h10 => ?_) (fun h10 => ?_)
  · skip
    refine a_aload_n C dX10_length_21 rfl ?_
    refine a_iconst C dX10_length_22 ?_
    refine a_callV (o := 40) (As := [ii_v 1]) C (m_fails hl g1 w 1) co_X10_fails in_X10 ml_X10_127 im_X10_fails se_X10_fails rfl rfl ar_X10_fails ⟨by decide, by decide, by decide, by decide⟩ rfl (Nat.le_of_ble_eq_true rfl) dX10_length_23 (a_dR ?_) a_nR
    obtain ⟨g2, eg2⟩ : ∃ F : Nat → Nat → Int, F = ii_up g1 40 0 1 := ⟨_, rfl⟩
    rw [← eg2]
    refine a_iret C ?_ (by decide) (by decide) dX10_length_26
    rw [hPost]
    subst eg2 eg1
    exact ⟨rfl, rfl, rfl, by first | rfl | rw [ii_up_up]⟩
  · skip
    omega
set_option maxRecDepth 20000 in
set_option maxHeartbeats 2000000 in
theorem m_latestPickup {l : Launch} {E : ab_E} {base : Nat} (hl : l.stackTraces = false) {ad : Nat → Nat} (f : Nat → Nat → Int) (w : Nat × Nat × Int64 × UInt64) (r : Nat) (hr : (r : Int) < f 40 30) (hm : 0 ≤ f 40 30 ∧ f 40 30 ≤ 30)  : ab_M l E base yX10_latestPickup cX10_latestPickup 2 (some .int) 3 0 0 [.ref (ad 40), ii_v ((r : Nat) : Int)] ab_x4 ad (f, w) (ab_R (ii_v (f 58 r)) ab_x4 ad (ii_up f 40 0 0, w)) := by
  obtain ⟨Post, hPost⟩ : ∃ P : ab_P, P = (ab_R (ii_v (f 58 r)) ab_x4 ad (ii_up f 40 0 0, w)) := ⟨_, rfl⟩
  rw [← hPost]
  refine ab_of RX10 [(0, .ref (ad 40)), (1, ii_v ((r : Nat) : Int))] hl (by decide) rfl (Nat.le_of_ble_eq_true rfl) rfl ?_
  intro p e s m args below meth c C T0 hnm
  refine a_aload_n C dX10_latestPickup_0 rfl ?_
  refine a_iconst C dX10_latestPickup_1 ?_
  refine a_put (ci := 11) (i := 0) C iw_X10 rfl (by decide) rfl tyX10 tyX10_ok nmX10 rfl rfl fl_X10_114 rfl rfl rfl rfl dX10_latestPickup_2 ?_
  obtain ⟨g1, eg1⟩ : ∃ F : Nat → Nat → Int, F = ii_up f 40 0 0 := ⟨_, rfl⟩
  rw [← eg1]
  refine a_aload_n C dX10_latestPickup_5 rfl ?_
  refine a_iload_n C dX10_latestPickup_6 rfl ?_
  refine a_callV (o := 40) (As := [ii_v ((r : Nat) : Int)]) C (m_isRequest hl g1 w ((r : Nat) : Int) (by omega) (by rw [show g1 40 30 = f 40 30 from by rw [eg1]; exact ii_up_k _ _ (by decide)]; omega)) co_X10_isRequest in_X10 ml_X10_229 im_X10_isRequest se_X10_isRequest rfl rfl ar_X10_isRequest ⟨by decide, by decide, by decide, by decide⟩ rfl (Nat.le_of_ble_eq_true rfl) dX10_latestPickup_7 (a_dR ?_) a_nR
  rw [show g1 40 30 = f 40 30 from by rw [eg1]; exact ii_up_k _ _ (by decide)]
  refine a_bif_eq (tgt := 22) C dX10_latestPickup_10 rfl (fun h10 => ?_) (fun h10 => ?_)
  · skip
    omega
  · skip
    refine a_aload_n C dX10_latestPickup_13 rfl ?_
    refine a_get (ci := 11) (i := 18) (v := .ref (ad 58)) C iw_X10 rfl (by decide) rfl fl_X10_61 rfl rfl dX10_latestPickup_14 ?_
    refine a_iload_n C dX10_latestPickup_17 rfl ?_
    refine a_iald (o := 58) (N := 31) r C dX10_latestPickup_18 rfl (by omega) (by omega) (by decide) ?_
    refine a_top (w := ii_v (g1 58 r)) rfl ?_
    refine a_top (w := ii_v (f 58 r)) (congrArg (fun q => ii_v q) (show g1 58 r = (f 58 r) by rw [eg1, ii_up_o _ _ _ (by omega)])) ?_
    refine a_goto (tgt := 27) C dX10_latestPickup_19 rfl ?_
    refine a_iret C ?_ (by decide) (by decide) dX10_latestPickup_27
    rw [hPost]
    subst eg1
    exact ⟨rfl, rfl, rfl, by first | rfl | rw [ii_up_up]⟩
set_option maxRecDepth 20000 in
set_option maxHeartbeats 2000000 in
theorem n_latestPickup {l : Launch} {E : ab_E} {base : Nat} (hl : l.stackTraces = false) {ad : Nat → Nat} (f : Nat → Nat → Int) (w : Nat × Nat × Int64 × UInt64) (i : Int) (zi : -2147483648 ≤ i ∧ i < 2147483648) (h : ¬ (0 ≤ i ∧ i < f 40 30)) (hm : 0 ≤ f 40 30 ∧ f 40 30 ≤ 30)  : ab_M l E base yX10_latestPickup cX10_latestPickup 2 (some .int) 3 0 0 [.ref (ad 40), ii_v i] ab_x4 ad (f, w) (ab_R (ii_v (0)) ab_x4 ad (ii_up f 40 0 1, w)) := by
  obtain ⟨Post, hPost⟩ : ∃ P : ab_P, P = (ab_R (ii_v (0)) ab_x4 ad (ii_up f 40 0 1, w)) := ⟨_, rfl⟩
  rw [← hPost]
  refine ab_of RX10 [(0, .ref (ad 40)), (1, ii_v i)] hl (by decide) rfl (Nat.le_of_ble_eq_true rfl) rfl ?_
  intro p e s m args below meth c C T0 hnm
  refine a_aload_n C dX10_latestPickup_0 rfl ?_
  refine a_iconst C dX10_latestPickup_1 ?_
  refine a_put (ci := 11) (i := 0) C iw_X10 rfl (by decide) rfl tyX10 tyX10_ok nmX10 rfl rfl fl_X10_114 rfl rfl rfl rfl dX10_latestPickup_2 ?_
  obtain ⟨g1, eg1⟩ : ∃ F : Nat → Nat → Int, F = ii_up f 40 0 0 := ⟨_, rfl⟩
  rw [← eg1]
  refine a_aload_n C dX10_latestPickup_5 rfl ?_
  refine a_iload_n C dX10_latestPickup_6 rfl ?_
  refine a_callV (o := 40) (As := [ii_v i]) C (m_isRequest hl g1 w i (by omega) (by rw [show g1 40 30 = f 40 30 from by rw [eg1]; exact ii_up_k _ _ (by decide)]; omega)) co_X10_isRequest in_X10 ml_X10_229 im_X10_isRequest se_X10_isRequest rfl rfl ar_X10_isRequest ⟨by decide, by decide, by decide, by decide⟩ rfl (Nat.le_of_ble_eq_true rfl) dX10_latestPickup_7 (a_dR ?_) a_nR
  rw [show g1 40 30 = f 40 30 from by rw [eg1]; exact ii_up_k _ _ (by decide)]
  refine a_bif_eq (tgt := 22) C dX10_latestPickup_10 rfl (fun h10 => ?_) (fun h10 => ?_)
  · skip
    refine a_aload_n C dX10_latestPickup_22 rfl ?_
    refine a_iconst C dX10_latestPickup_23 ?_
    refine a_callV (o := 40) (As := [ii_v 1]) C (m_fails hl g1 w 1) co_X10_fails in_X10 ml_X10_127 im_X10_fails se_X10_fails rfl rfl ar_X10_fails ⟨by decide, by decide, by decide, by decide⟩ rfl (Nat.le_of_ble_eq_true rfl) dX10_latestPickup_24 (a_dR ?_) a_nR
    obtain ⟨g2, eg2⟩ : ∃ F : Nat → Nat → Int, F = ii_up g1 40 0 1 := ⟨_, rfl⟩
    rw [← eg2]
    refine a_iret C ?_ (by decide) (by decide) dX10_latestPickup_27
    rw [hPost]
    subst eg2 eg1
    exact ⟨rfl, rfl, rfl, by first | rfl | rw [ii_up_up]⟩
  · skip
    omega
set_option maxRecDepth 20000 in
set_option maxHeartbeats 2000000 in
theorem m_longestRide {l : Launch} {E : ab_E} {base : Nat} (hl : l.stackTraces = false) {ad : Nat → Nat} (f : Nat → Nat → Int) (w : Nat × Nat × Int64 × UInt64) (r : Nat) (hr : (r : Int) < f 40 30) (hm : 0 ≤ f 40 30 ∧ f 40 30 ≤ 30)  : ab_M l E base yX10_longestRide cX10_longestRide 2 (some .int) 3 0 0 [.ref (ad 40), ii_v ((r : Nat) : Int)] ab_x4 ad (f, w) (ab_R (ii_v (f 59 r)) ab_x4 ad (ii_up f 40 0 0, w)) := by
  obtain ⟨Post, hPost⟩ : ∃ P : ab_P, P = (ab_R (ii_v (f 59 r)) ab_x4 ad (ii_up f 40 0 0, w)) := ⟨_, rfl⟩
  rw [← hPost]
  refine ab_of RX10 [(0, .ref (ad 40)), (1, ii_v ((r : Nat) : Int))] hl (by decide) rfl (Nat.le_of_ble_eq_true rfl) rfl ?_
  intro p e s m args below meth c C T0 hnm
  refine a_aload_n C dX10_longestRide_0 rfl ?_
  refine a_iconst C dX10_longestRide_1 ?_
  refine a_put (ci := 11) (i := 0) C iw_X10 rfl (by decide) rfl tyX10 tyX10_ok nmX10 rfl rfl fl_X10_114 rfl rfl rfl rfl dX10_longestRide_2 ?_
  obtain ⟨g1, eg1⟩ : ∃ F : Nat → Nat → Int, F = ii_up f 40 0 0 := ⟨_, rfl⟩
  rw [← eg1]
  refine a_aload_n C dX10_longestRide_5 rfl ?_
  refine a_iload_n C dX10_longestRide_6 rfl ?_
  refine a_callV (o := 40) (As := [ii_v ((r : Nat) : Int)]) C (m_isRequest hl g1 w ((r : Nat) : Int) (by omega) (by rw [show g1 40 30 = f 40 30 from by rw [eg1]; exact ii_up_k _ _ (by decide)]; omega)) co_X10_isRequest in_X10 ml_X10_229 im_X10_isRequest se_X10_isRequest rfl rfl ar_X10_isRequest ⟨by decide, by decide, by decide, by decide⟩ rfl (Nat.le_of_ble_eq_true rfl) dX10_longestRide_7 (a_dR ?_) a_nR
  rw [show g1 40 30 = f 40 30 from by rw [eg1]; exact ii_up_k _ _ (by decide)]
  refine a_bif_eq (tgt := 22) C dX10_longestRide_10 rfl (fun h10 => ?_) (fun h10 => ?_)
  · skip
    omega
  · skip
    refine a_aload_n C dX10_longestRide_13 rfl ?_
    refine a_get (ci := 11) (i := 19) (v := .ref (ad 59)) C iw_X10 rfl (by decide) rfl fl_X10_64 rfl rfl dX10_longestRide_14 ?_
    refine a_iload_n C dX10_longestRide_17 rfl ?_
    refine a_iald (o := 59) (N := 31) r C dX10_longestRide_18 rfl (by omega) (by omega) (by decide) ?_
    refine a_top (w := ii_v (g1 59 r)) rfl ?_
    refine a_top (w := ii_v (f 59 r)) (congrArg (fun q => ii_v q) (show g1 59 r = (f 59 r) by rw [eg1, ii_up_o _ _ _ (by omega)])) ?_
    refine a_goto (tgt := 27) C dX10_longestRide_19 rfl ?_
    refine a_iret C ?_ (by decide) (by decide) dX10_longestRide_27
    rw [hPost]
    subst eg1
    exact ⟨rfl, rfl, rfl, by first | rfl | rw [ii_up_up]⟩
set_option maxRecDepth 20000 in
set_option maxHeartbeats 2000000 in
theorem n_longestRide {l : Launch} {E : ab_E} {base : Nat} (hl : l.stackTraces = false) {ad : Nat → Nat} (f : Nat → Nat → Int) (w : Nat × Nat × Int64 × UInt64) (i : Int) (zi : -2147483648 ≤ i ∧ i < 2147483648) (h : ¬ (0 ≤ i ∧ i < f 40 30)) (hm : 0 ≤ f 40 30 ∧ f 40 30 ≤ 30)  : ab_M l E base yX10_longestRide cX10_longestRide 2 (some .int) 3 0 0 [.ref (ad 40), ii_v i] ab_x4 ad (f, w) (ab_R (ii_v (0)) ab_x4 ad (ii_up f 40 0 1, w)) := by
  obtain ⟨Post, hPost⟩ : ∃ P : ab_P, P = (ab_R (ii_v (0)) ab_x4 ad (ii_up f 40 0 1, w)) := ⟨_, rfl⟩
  rw [← hPost]
  refine ab_of RX10 [(0, .ref (ad 40)), (1, ii_v i)] hl (by decide) rfl (Nat.le_of_ble_eq_true rfl) rfl ?_
  intro p e s m args below meth c C T0 hnm
  refine a_aload_n C dX10_longestRide_0 rfl ?_
  refine a_iconst C dX10_longestRide_1 ?_
  refine a_put (ci := 11) (i := 0) C iw_X10 rfl (by decide) rfl tyX10 tyX10_ok nmX10 rfl rfl fl_X10_114 rfl rfl rfl rfl dX10_longestRide_2 ?_
  obtain ⟨g1, eg1⟩ : ∃ F : Nat → Nat → Int, F = ii_up f 40 0 0 := ⟨_, rfl⟩
  rw [← eg1]
  refine a_aload_n C dX10_longestRide_5 rfl ?_
  refine a_iload_n C dX10_longestRide_6 rfl ?_
  refine a_callV (o := 40) (As := [ii_v i]) C (m_isRequest hl g1 w i (by omega) (by rw [show g1 40 30 = f 40 30 from by rw [eg1]; exact ii_up_k _ _ (by decide)]; omega)) co_X10_isRequest in_X10 ml_X10_229 im_X10_isRequest se_X10_isRequest rfl rfl ar_X10_isRequest ⟨by decide, by decide, by decide, by decide⟩ rfl (Nat.le_of_ble_eq_true rfl) dX10_longestRide_7 (a_dR ?_) a_nR
  rw [show g1 40 30 = f 40 30 from by rw [eg1]; exact ii_up_k _ _ (by decide)]
  refine a_bif_eq (tgt := 22) C dX10_longestRide_10 rfl (fun h10 => ?_) (fun h10 => ?_)
  · skip
    refine a_aload_n C dX10_longestRide_22 rfl ?_
    refine a_iconst C dX10_longestRide_23 ?_
    refine a_callV (o := 40) (As := [ii_v 1]) C (m_fails hl g1 w 1) co_X10_fails in_X10 ml_X10_127 im_X10_fails se_X10_fails rfl rfl ar_X10_fails ⟨by decide, by decide, by decide, by decide⟩ rfl (Nat.le_of_ble_eq_true rfl) dX10_longestRide_24 (a_dR ?_) a_nR
    obtain ⟨g2, eg2⟩ : ∃ F : Nat → Nat → Int, F = ii_up g1 40 0 1 := ⟨_, rfl⟩
    rw [← eg2]
    refine a_iret C ?_ (by decide) (by decide) dX10_longestRide_27
    rw [hPost]
    subst eg2 eg1
    exact ⟨rfl, rfl, rfl, by first | rfl | rw [ii_up_up]⟩
  · skip
    omega
set_option maxRecDepth 20000 in
set_option maxHeartbeats 2000000 in
theorem m_entryBus {l : Launch} {E : ab_E} {base : Nat} (hl : l.stackTraces = false) {ad : Nat → Nat} (f : Nat → Nat → Int) (w : Nat × Nat × Int64 × UInt64) (k : Nat) (hk : (k : Int) < f 40 31) (hm : 0 ≤ f 40 31 ∧ f 40 31 ≤ 60)  : ab_M l E base yX10_entryBus cX10_entryBus 2 (some .int) 3 0 0 [.ref (ad 40), ii_v ((k : Nat) : Int)] ab_x4 ad (f, w) (ab_R (ii_v (f 65 k)) ab_x4 ad (ii_up f 40 0 0, w)) := by
  obtain ⟨Post, hPost⟩ : ∃ P : ab_P, P = (ab_R (ii_v (f 65 k)) ab_x4 ad (ii_up f 40 0 0, w)) := ⟨_, rfl⟩
  rw [← hPost]
  refine ab_of RX10 [(0, .ref (ad 40)), (1, ii_v ((k : Nat) : Int))] hl (by decide) rfl (Nat.le_of_ble_eq_true rfl) rfl ?_
  intro p e s m args below meth c C T0 hnm
  refine a_aload_n C dX10_entryBus_0 rfl ?_
  refine a_iconst C dX10_entryBus_1 ?_
  refine a_put (ci := 11) (i := 0) C iw_X10 rfl (by decide) rfl tyX10 tyX10_ok nmX10 rfl rfl fl_X10_114 rfl rfl rfl rfl dX10_entryBus_2 ?_
  obtain ⟨g1, eg1⟩ : ∃ F : Nat → Nat → Int, F = ii_up f 40 0 0 := ⟨_, rfl⟩
  rw [← eg1]
  refine a_aload_n C dX10_entryBus_5 rfl ?_
  refine a_iload_n C dX10_entryBus_6 rfl ?_
  refine a_callV (o := 40) (As := [ii_v ((k : Nat) : Int)]) C (m_isEntry hl g1 w ((k : Nat) : Int) (by omega) (by rw [show g1 40 31 = f 40 31 from by rw [eg1]; exact ii_up_k _ _ (by decide)]; omega)) co_X10_isEntry in_X10 ml_X10_274 im_X10_isEntry se_X10_isEntry rfl rfl ar_X10_isEntry ⟨by decide, by decide, by decide, by decide⟩ rfl (Nat.le_of_ble_eq_true rfl) dX10_entryBus_7 (a_dR ?_) a_nR
  rw [show g1 40 31 = f 40 31 from by rw [eg1]; exact ii_up_k _ _ (by decide)]
  refine a_bif_eq (tgt := 22) C dX10_entryBus_10 rfl (fun h10 => ?_) (fun h10 => ?_)
  · skip
    omega
  · skip
    refine a_aload_n C dX10_entryBus_13 rfl ?_
    refine a_get (ci := 11) (i := 25) (v := .ref (ad 65)) C iw_X10 rfl (by decide) rfl fl_X10_83 rfl rfl dX10_entryBus_14 ?_
    refine a_iload_n C dX10_entryBus_17 rfl ?_
    refine a_iald (o := 65) (N := 60) k C dX10_entryBus_18 rfl (by omega) (by omega) (by decide) ?_
    refine a_top (w := ii_v (g1 65 k)) rfl ?_
    refine a_top (w := ii_v (f 65 k)) (congrArg (fun q => ii_v q) (show g1 65 k = (f 65 k) by rw [eg1, ii_up_o _ _ _ (by omega)])) ?_
    refine a_goto (tgt := 27) C dX10_entryBus_19 rfl ?_
    refine a_iret C ?_ (by decide) (by decide) dX10_entryBus_27
    rw [hPost]
    subst eg1
    exact ⟨rfl, rfl, rfl, by first | rfl | rw [ii_up_up]⟩
set_option maxRecDepth 20000 in
set_option maxHeartbeats 2000000 in
theorem n_entryBus {l : Launch} {E : ab_E} {base : Nat} (hl : l.stackTraces = false) {ad : Nat → Nat} (f : Nat → Nat → Int) (w : Nat × Nat × Int64 × UInt64) (i : Int) (zi : -2147483648 ≤ i ∧ i < 2147483648) (h : ¬ (0 ≤ i ∧ i < f 40 31)) (hm : 0 ≤ f 40 31 ∧ f 40 31 ≤ 60)  : ab_M l E base yX10_entryBus cX10_entryBus 2 (some .int) 3 0 0 [.ref (ad 40), ii_v i] ab_x4 ad (f, w) (ab_R (ii_v (0)) ab_x4 ad (ii_up f 40 0 1, w)) := by
  obtain ⟨Post, hPost⟩ : ∃ P : ab_P, P = (ab_R (ii_v (0)) ab_x4 ad (ii_up f 40 0 1, w)) := ⟨_, rfl⟩
  rw [← hPost]
  refine ab_of RX10 [(0, .ref (ad 40)), (1, ii_v i)] hl (by decide) rfl (Nat.le_of_ble_eq_true rfl) rfl ?_
  intro p e s m args below meth c C T0 hnm
  refine a_aload_n C dX10_entryBus_0 rfl ?_
  refine a_iconst C dX10_entryBus_1 ?_
  refine a_put (ci := 11) (i := 0) C iw_X10 rfl (by decide) rfl tyX10 tyX10_ok nmX10 rfl rfl fl_X10_114 rfl rfl rfl rfl dX10_entryBus_2 ?_
  obtain ⟨g1, eg1⟩ : ∃ F : Nat → Nat → Int, F = ii_up f 40 0 0 := ⟨_, rfl⟩
  rw [← eg1]
  refine a_aload_n C dX10_entryBus_5 rfl ?_
  refine a_iload_n C dX10_entryBus_6 rfl ?_
  refine a_callV (o := 40) (As := [ii_v i]) C (m_isEntry hl g1 w i (by omega) (by rw [show g1 40 31 = f 40 31 from by rw [eg1]; exact ii_up_k _ _ (by decide)]; omega)) co_X10_isEntry in_X10 ml_X10_274 im_X10_isEntry se_X10_isEntry rfl rfl ar_X10_isEntry ⟨by decide, by decide, by decide, by decide⟩ rfl (Nat.le_of_ble_eq_true rfl) dX10_entryBus_7 (a_dR ?_) a_nR
  rw [show g1 40 31 = f 40 31 from by rw [eg1]; exact ii_up_k _ _ (by decide)]
  refine a_bif_eq (tgt := 22) C dX10_entryBus_10 rfl (fun h10 => ?_) (fun h10 => ?_)
  · skip
    refine a_aload_n C dX10_entryBus_22 rfl ?_
    refine a_iconst C dX10_entryBus_23 ?_
    refine a_callV (o := 40) (As := [ii_v 1]) C (m_fails hl g1 w 1) co_X10_fails in_X10 ml_X10_127 im_X10_fails se_X10_fails rfl rfl ar_X10_fails ⟨by decide, by decide, by decide, by decide⟩ rfl (Nat.le_of_ble_eq_true rfl) dX10_entryBus_24 (a_dR ?_) a_nR
    obtain ⟨g2, eg2⟩ : ∃ F : Nat → Nat → Int, F = ii_up g1 40 0 1 := ⟨_, rfl⟩
    rw [← eg2]
    refine a_iret C ?_ (by decide) (by decide) dX10_entryBus_27
    rw [hPost]
    subst eg2 eg1
    exact ⟨rfl, rfl, rfl, by first | rfl | rw [ii_up_up]⟩
  · skip
    omega
set_option maxRecDepth 20000 in
set_option maxHeartbeats 2000000 in
theorem m_entryRequest {l : Launch} {E : ab_E} {base : Nat} (hl : l.stackTraces = false) {ad : Nat → Nat} (f : Nat → Nat → Int) (w : Nat × Nat × Int64 × UInt64) (k : Nat) (hk : (k : Int) < f 40 31) (hm : 0 ≤ f 40 31 ∧ f 40 31 ≤ 60)  : ab_M l E base yX10_entryRequest cX10_entryRequest 2 (some .int) 3 0 0 [.ref (ad 40), ii_v ((k : Nat) : Int)] ab_x4 ad (f, w) (ab_R (ii_v (f 66 k)) ab_x4 ad (ii_up f 40 0 0, w)) := by
  obtain ⟨Post, hPost⟩ : ∃ P : ab_P, P = (ab_R (ii_v (f 66 k)) ab_x4 ad (ii_up f 40 0 0, w)) := ⟨_, rfl⟩
  rw [← hPost]
  refine ab_of RX10 [(0, .ref (ad 40)), (1, ii_v ((k : Nat) : Int))] hl (by decide) rfl (Nat.le_of_ble_eq_true rfl) rfl ?_
  intro p e s m args below meth c C T0 hnm
  refine a_aload_n C dX10_entryRequest_0 rfl ?_
  refine a_iconst C dX10_entryRequest_1 ?_
  refine a_put (ci := 11) (i := 0) C iw_X10 rfl (by decide) rfl tyX10 tyX10_ok nmX10 rfl rfl fl_X10_114 rfl rfl rfl rfl dX10_entryRequest_2 ?_
  obtain ⟨g1, eg1⟩ : ∃ F : Nat → Nat → Int, F = ii_up f 40 0 0 := ⟨_, rfl⟩
  rw [← eg1]
  refine a_aload_n C dX10_entryRequest_5 rfl ?_
  refine a_iload_n C dX10_entryRequest_6 rfl ?_
  refine a_callV (o := 40) (As := [ii_v ((k : Nat) : Int)]) C (m_isEntry hl g1 w ((k : Nat) : Int) (by omega) (by rw [show g1 40 31 = f 40 31 from by rw [eg1]; exact ii_up_k _ _ (by decide)]; omega)) co_X10_isEntry in_X10 ml_X10_274 im_X10_isEntry se_X10_isEntry rfl rfl ar_X10_isEntry ⟨by decide, by decide, by decide, by decide⟩ rfl (Nat.le_of_ble_eq_true rfl) dX10_entryRequest_7 (a_dR ?_) a_nR
  rw [show g1 40 31 = f 40 31 from by rw [eg1]; exact ii_up_k _ _ (by decide)]
  refine a_bif_eq (tgt := 22) C dX10_entryRequest_10 rfl (fun h10 => ?_) (fun h10 => ?_)
  · skip
    omega
  · skip
    refine a_aload_n C dX10_entryRequest_13 rfl ?_
    refine a_get (ci := 11) (i := 26) (v := .ref (ad 66)) C iw_X10 rfl (by decide) rfl fl_X10_86 rfl rfl dX10_entryRequest_14 ?_
    refine a_iload_n C dX10_entryRequest_17 rfl ?_
    refine a_iald (o := 66) (N := 60) k C dX10_entryRequest_18 rfl (by omega) (by omega) (by decide) ?_
    refine a_top (w := ii_v (g1 66 k)) rfl ?_
    refine a_top (w := ii_v (f 66 k)) (congrArg (fun q => ii_v q) (show g1 66 k = (f 66 k) by rw [eg1, ii_up_o _ _ _ (by omega)])) ?_
    refine a_goto (tgt := 27) C dX10_entryRequest_19 rfl ?_
    refine a_iret C ?_ (by decide) (by decide) dX10_entryRequest_27
    rw [hPost]
    subst eg1
    exact ⟨rfl, rfl, rfl, by first | rfl | rw [ii_up_up]⟩
set_option maxRecDepth 20000 in
set_option maxHeartbeats 2000000 in
theorem n_entryRequest {l : Launch} {E : ab_E} {base : Nat} (hl : l.stackTraces = false) {ad : Nat → Nat} (f : Nat → Nat → Int) (w : Nat × Nat × Int64 × UInt64) (i : Int) (zi : -2147483648 ≤ i ∧ i < 2147483648) (h : ¬ (0 ≤ i ∧ i < f 40 31)) (hm : 0 ≤ f 40 31 ∧ f 40 31 ≤ 60)  : ab_M l E base yX10_entryRequest cX10_entryRequest 2 (some .int) 3 0 0 [.ref (ad 40), ii_v i] ab_x4 ad (f, w) (ab_R (ii_v (0)) ab_x4 ad (ii_up f 40 0 1, w)) := by
  obtain ⟨Post, hPost⟩ : ∃ P : ab_P, P = (ab_R (ii_v (0)) ab_x4 ad (ii_up f 40 0 1, w)) := ⟨_, rfl⟩
  rw [← hPost]
  refine ab_of RX10 [(0, .ref (ad 40)), (1, ii_v i)] hl (by decide) rfl (Nat.le_of_ble_eq_true rfl) rfl ?_
  intro p e s m args below meth c C T0 hnm
  refine a_aload_n C dX10_entryRequest_0 rfl ?_
  refine a_iconst C dX10_entryRequest_1 ?_
  refine a_put (ci := 11) (i := 0) C iw_X10 rfl (by decide) rfl tyX10 tyX10_ok nmX10 rfl rfl fl_X10_114 rfl rfl rfl rfl dX10_entryRequest_2 ?_
  obtain ⟨g1, eg1⟩ : ∃ F : Nat → Nat → Int, F = ii_up f 40 0 0 := ⟨_, rfl⟩
  rw [← eg1]
  refine a_aload_n C dX10_entryRequest_5 rfl ?_
  refine a_iload_n C dX10_entryRequest_6 rfl ?_
  refine a_callV (o := 40) (As := [ii_v i]) C (m_isEntry hl g1 w i (by omega) (by rw [show g1 40 31 = f 40 31 from by rw [eg1]; exact ii_up_k _ _ (by decide)]; omega)) co_X10_isEntry in_X10 ml_X10_274 im_X10_isEntry se_X10_isEntry rfl rfl ar_X10_isEntry ⟨by decide, by decide, by decide, by decide⟩ rfl (Nat.le_of_ble_eq_true rfl) dX10_entryRequest_7 (a_dR ?_) a_nR
  rw [show g1 40 31 = f 40 31 from by rw [eg1]; exact ii_up_k _ _ (by decide)]
  refine a_bif_eq (tgt := 22) C dX10_entryRequest_10 rfl (fun h10 => ?_) (fun h10 => ?_)
  · skip
    refine a_aload_n C dX10_entryRequest_22 rfl ?_
    refine a_iconst C dX10_entryRequest_23 ?_
    refine a_callV (o := 40) (As := [ii_v 1]) C (m_fails hl g1 w 1) co_X10_fails in_X10 ml_X10_127 im_X10_fails se_X10_fails rfl rfl ar_X10_fails ⟨by decide, by decide, by decide, by decide⟩ rfl (Nat.le_of_ble_eq_true rfl) dX10_entryRequest_24 (a_dR ?_) a_nR
    obtain ⟨g2, eg2⟩ : ∃ F : Nat → Nat → Int, F = ii_up g1 40 0 1 := ⟨_, rfl⟩
    rw [← eg2]
    refine a_iret C ?_ (by decide) (by decide) dX10_entryRequest_27
    rw [hPost]
    subst eg2 eg1
    exact ⟨rfl, rfl, rfl, by first | rfl | rw [ii_up_up]⟩
  · skip
    omega
set_option maxRecDepth 20000 in
set_option maxHeartbeats 2000000 in
theorem m_entryTime {l : Launch} {E : ab_E} {base : Nat} (hl : l.stackTraces = false) {ad : Nat → Nat} (f : Nat → Nat → Int) (w : Nat × Nat × Int64 × UInt64) (k : Nat) (hk : (k : Int) < f 40 31) (hm : 0 ≤ f 40 31 ∧ f 40 31 ≤ 60)  : ab_M l E base yX10_entryTime cX10_entryTime 2 (some .int) 3 0 0 [.ref (ad 40), ii_v ((k : Nat) : Int)] ab_x4 ad (f, w) (ab_R (ii_v (f 67 k)) ab_x4 ad (ii_up f 40 0 0, w)) := by
  obtain ⟨Post, hPost⟩ : ∃ P : ab_P, P = (ab_R (ii_v (f 67 k)) ab_x4 ad (ii_up f 40 0 0, w)) := ⟨_, rfl⟩
  rw [← hPost]
  refine ab_of RX10 [(0, .ref (ad 40)), (1, ii_v ((k : Nat) : Int))] hl (by decide) rfl (Nat.le_of_ble_eq_true rfl) rfl ?_
  intro p e s m args below meth c C T0 hnm
  refine a_aload_n C dX10_entryTime_0 rfl ?_
  refine a_iconst C dX10_entryTime_1 ?_
  refine a_put (ci := 11) (i := 0) C iw_X10 rfl (by decide) rfl tyX10 tyX10_ok nmX10 rfl rfl fl_X10_114 rfl rfl rfl rfl dX10_entryTime_2 ?_
  obtain ⟨g1, eg1⟩ : ∃ F : Nat → Nat → Int, F = ii_up f 40 0 0 := ⟨_, rfl⟩
  rw [← eg1]
  refine a_aload_n C dX10_entryTime_5 rfl ?_
  refine a_iload_n C dX10_entryTime_6 rfl ?_
  refine a_callV (o := 40) (As := [ii_v ((k : Nat) : Int)]) C (m_isEntry hl g1 w ((k : Nat) : Int) (by omega) (by rw [show g1 40 31 = f 40 31 from by rw [eg1]; exact ii_up_k _ _ (by decide)]; omega)) co_X10_isEntry in_X10 ml_X10_274 im_X10_isEntry se_X10_isEntry rfl rfl ar_X10_isEntry ⟨by decide, by decide, by decide, by decide⟩ rfl (Nat.le_of_ble_eq_true rfl) dX10_entryTime_7 (a_dR ?_) a_nR
  rw [show g1 40 31 = f 40 31 from by rw [eg1]; exact ii_up_k _ _ (by decide)]
  refine a_bif_eq (tgt := 22) C dX10_entryTime_10 rfl (fun h10 => ?_) (fun h10 => ?_)
  · skip
    omega
  · skip
    refine a_aload_n C dX10_entryTime_13 rfl ?_
    refine a_get (ci := 11) (i := 27) (v := .ref (ad 67)) C iw_X10 rfl (by decide) rfl fl_X10_89 rfl rfl dX10_entryTime_14 ?_
    refine a_iload_n C dX10_entryTime_17 rfl ?_
    refine a_iald (o := 67) (N := 60) k C dX10_entryTime_18 rfl (by omega) (by omega) (by decide) ?_
    refine a_top (w := ii_v (g1 67 k)) rfl ?_
    refine a_top (w := ii_v (f 67 k)) (congrArg (fun q => ii_v q) (show g1 67 k = (f 67 k) by rw [eg1, ii_up_o _ _ _ (by omega)])) ?_
    refine a_goto (tgt := 27) C dX10_entryTime_19 rfl ?_
    refine a_iret C ?_ (by decide) (by decide) dX10_entryTime_27
    rw [hPost]
    subst eg1
    exact ⟨rfl, rfl, rfl, by first | rfl | rw [ii_up_up]⟩
set_option maxRecDepth 20000 in
set_option maxHeartbeats 2000000 in
theorem n_entryTime {l : Launch} {E : ab_E} {base : Nat} (hl : l.stackTraces = false) {ad : Nat → Nat} (f : Nat → Nat → Int) (w : Nat × Nat × Int64 × UInt64) (i : Int) (zi : -2147483648 ≤ i ∧ i < 2147483648) (h : ¬ (0 ≤ i ∧ i < f 40 31)) (hm : 0 ≤ f 40 31 ∧ f 40 31 ≤ 60)  : ab_M l E base yX10_entryTime cX10_entryTime 2 (some .int) 3 0 0 [.ref (ad 40), ii_v i] ab_x4 ad (f, w) (ab_R (ii_v (0)) ab_x4 ad (ii_up f 40 0 1, w)) := by
  obtain ⟨Post, hPost⟩ : ∃ P : ab_P, P = (ab_R (ii_v (0)) ab_x4 ad (ii_up f 40 0 1, w)) := ⟨_, rfl⟩
  rw [← hPost]
  refine ab_of RX10 [(0, .ref (ad 40)), (1, ii_v i)] hl (by decide) rfl (Nat.le_of_ble_eq_true rfl) rfl ?_
  intro p e s m args below meth c C T0 hnm
  refine a_aload_n C dX10_entryTime_0 rfl ?_
  refine a_iconst C dX10_entryTime_1 ?_
  refine a_put (ci := 11) (i := 0) C iw_X10 rfl (by decide) rfl tyX10 tyX10_ok nmX10 rfl rfl fl_X10_114 rfl rfl rfl rfl dX10_entryTime_2 ?_
  obtain ⟨g1, eg1⟩ : ∃ F : Nat → Nat → Int, F = ii_up f 40 0 0 := ⟨_, rfl⟩
  rw [← eg1]
  refine a_aload_n C dX10_entryTime_5 rfl ?_
  refine a_iload_n C dX10_entryTime_6 rfl ?_
  refine a_callV (o := 40) (As := [ii_v i]) C (m_isEntry hl g1 w i (by omega) (by rw [show g1 40 31 = f 40 31 from by rw [eg1]; exact ii_up_k _ _ (by decide)]; omega)) co_X10_isEntry in_X10 ml_X10_274 im_X10_isEntry se_X10_isEntry rfl rfl ar_X10_isEntry ⟨by decide, by decide, by decide, by decide⟩ rfl (Nat.le_of_ble_eq_true rfl) dX10_entryTime_7 (a_dR ?_) a_nR
  rw [show g1 40 31 = f 40 31 from by rw [eg1]; exact ii_up_k _ _ (by decide)]
  refine a_bif_eq (tgt := 22) C dX10_entryTime_10 rfl (fun h10 => ?_) (fun h10 => ?_)
  · skip
    refine a_aload_n C dX10_entryTime_22 rfl ?_
    refine a_iconst C dX10_entryTime_23 ?_
    refine a_callV (o := 40) (As := [ii_v 1]) C (m_fails hl g1 w 1) co_X10_fails in_X10 ml_X10_127 im_X10_fails se_X10_fails rfl rfl ar_X10_fails ⟨by decide, by decide, by decide, by decide⟩ rfl (Nat.le_of_ble_eq_true rfl) dX10_entryTime_24 (a_dR ?_) a_nR
    obtain ⟨g2, eg2⟩ : ∃ F : Nat → Nat → Int, F = ii_up g1 40 0 1 := ⟨_, rfl⟩
    rw [← eg2]
    refine a_iret C ?_ (by decide) (by decide) dX10_entryTime_27
    rw [hPost]
    subst eg2 eg1
    exact ⟨rfl, rfl, rfl, by first | rfl | rw [ii_up_up]⟩
  · skip
    omega
set_option maxRecDepth 20000 in
set_option maxHeartbeats 2000000 in
theorem m_entryDistance {l : Launch} {E : ab_E} {base : Nat} (hl : l.stackTraces = false) {ad : Nat → Nat} (f : Nat → Nat → Int) (w : Nat × Nat × Int64 × UInt64) (k : Nat) (hk : (k : Int) < f 40 31) (hm : 0 ≤ f 40 31 ∧ f 40 31 ≤ 60)  : ab_M l E base yX10_entryDistance cX10_entryDistance 2 (some .int) 3 0 0 [.ref (ad 40), ii_v ((k : Nat) : Int)] ab_x4 ad (f, w) (ab_R (ii_v (f 68 k)) ab_x4 ad (ii_up f 40 0 0, w)) := by
  obtain ⟨Post, hPost⟩ : ∃ P : ab_P, P = (ab_R (ii_v (f 68 k)) ab_x4 ad (ii_up f 40 0 0, w)) := ⟨_, rfl⟩
  rw [← hPost]
  refine ab_of RX10 [(0, .ref (ad 40)), (1, ii_v ((k : Nat) : Int))] hl (by decide) rfl (Nat.le_of_ble_eq_true rfl) rfl ?_
  intro p e s m args below meth c C T0 hnm
  refine a_aload_n C dX10_entryDistance_0 rfl ?_
  refine a_iconst C dX10_entryDistance_1 ?_
  refine a_put (ci := 11) (i := 0) C iw_X10 rfl (by decide) rfl tyX10 tyX10_ok nmX10 rfl rfl fl_X10_114 rfl rfl rfl rfl dX10_entryDistance_2 ?_
  obtain ⟨g1, eg1⟩ : ∃ F : Nat → Nat → Int, F = ii_up f 40 0 0 := ⟨_, rfl⟩
  rw [← eg1]
  refine a_aload_n C dX10_entryDistance_5 rfl ?_
  refine a_iload_n C dX10_entryDistance_6 rfl ?_
  refine a_callV (o := 40) (As := [ii_v ((k : Nat) : Int)]) C (m_isEntry hl g1 w ((k : Nat) : Int) (by omega) (by rw [show g1 40 31 = f 40 31 from by rw [eg1]; exact ii_up_k _ _ (by decide)]; omega)) co_X10_isEntry in_X10 ml_X10_274 im_X10_isEntry se_X10_isEntry rfl rfl ar_X10_isEntry ⟨by decide, by decide, by decide, by decide⟩ rfl (Nat.le_of_ble_eq_true rfl) dX10_entryDistance_7 (a_dR ?_) a_nR
  rw [show g1 40 31 = f 40 31 from by rw [eg1]; exact ii_up_k _ _ (by decide)]
  refine a_bif_eq (tgt := 22) C dX10_entryDistance_10 rfl (fun h10 => ?_) (fun h10 => ?_)
  · skip
    omega
  · skip
    refine a_aload_n C dX10_entryDistance_13 rfl ?_
    refine a_get (ci := 11) (i := 28) (v := .ref (ad 68)) C iw_X10 rfl (by decide) rfl fl_X10_92 rfl rfl dX10_entryDistance_14 ?_
    refine a_iload_n C dX10_entryDistance_17 rfl ?_
    refine a_iald (o := 68) (N := 60) k C dX10_entryDistance_18 rfl (by omega) (by omega) (by decide) ?_
    refine a_top (w := ii_v (g1 68 k)) rfl ?_
    refine a_top (w := ii_v (f 68 k)) (congrArg (fun q => ii_v q) (show g1 68 k = (f 68 k) by rw [eg1, ii_up_o _ _ _ (by omega)])) ?_
    refine a_goto (tgt := 27) C dX10_entryDistance_19 rfl ?_
    refine a_iret C ?_ (by decide) (by decide) dX10_entryDistance_27
    rw [hPost]
    subst eg1
    exact ⟨rfl, rfl, rfl, by first | rfl | rw [ii_up_up]⟩
set_option maxRecDepth 20000 in
set_option maxHeartbeats 2000000 in
theorem n_entryDistance {l : Launch} {E : ab_E} {base : Nat} (hl : l.stackTraces = false) {ad : Nat → Nat} (f : Nat → Nat → Int) (w : Nat × Nat × Int64 × UInt64) (i : Int) (zi : -2147483648 ≤ i ∧ i < 2147483648) (h : ¬ (0 ≤ i ∧ i < f 40 31)) (hm : 0 ≤ f 40 31 ∧ f 40 31 ≤ 60)  : ab_M l E base yX10_entryDistance cX10_entryDistance 2 (some .int) 3 0 0 [.ref (ad 40), ii_v i] ab_x4 ad (f, w) (ab_R (ii_v (0)) ab_x4 ad (ii_up f 40 0 1, w)) := by
  obtain ⟨Post, hPost⟩ : ∃ P : ab_P, P = (ab_R (ii_v (0)) ab_x4 ad (ii_up f 40 0 1, w)) := ⟨_, rfl⟩
  rw [← hPost]
  refine ab_of RX10 [(0, .ref (ad 40)), (1, ii_v i)] hl (by decide) rfl (Nat.le_of_ble_eq_true rfl) rfl ?_
  intro p e s m args below meth c C T0 hnm
  refine a_aload_n C dX10_entryDistance_0 rfl ?_
  refine a_iconst C dX10_entryDistance_1 ?_
  refine a_put (ci := 11) (i := 0) C iw_X10 rfl (by decide) rfl tyX10 tyX10_ok nmX10 rfl rfl fl_X10_114 rfl rfl rfl rfl dX10_entryDistance_2 ?_
  obtain ⟨g1, eg1⟩ : ∃ F : Nat → Nat → Int, F = ii_up f 40 0 0 := ⟨_, rfl⟩
  rw [← eg1]
  refine a_aload_n C dX10_entryDistance_5 rfl ?_
  refine a_iload_n C dX10_entryDistance_6 rfl ?_
  refine a_callV (o := 40) (As := [ii_v i]) C (m_isEntry hl g1 w i (by omega) (by rw [show g1 40 31 = f 40 31 from by rw [eg1]; exact ii_up_k _ _ (by decide)]; omega)) co_X10_isEntry in_X10 ml_X10_274 im_X10_isEntry se_X10_isEntry rfl rfl ar_X10_isEntry ⟨by decide, by decide, by decide, by decide⟩ rfl (Nat.le_of_ble_eq_true rfl) dX10_entryDistance_7 (a_dR ?_) a_nR
  rw [show g1 40 31 = f 40 31 from by rw [eg1]; exact ii_up_k _ _ (by decide)]
  refine a_bif_eq (tgt := 22) C dX10_entryDistance_10 rfl (fun h10 => ?_) (fun h10 => ?_)
  · skip
    refine a_aload_n C dX10_entryDistance_22 rfl ?_
    refine a_iconst C dX10_entryDistance_23 ?_
    refine a_callV (o := 40) (As := [ii_v 1]) C (m_fails hl g1 w 1) co_X10_fails in_X10 ml_X10_127 im_X10_fails se_X10_fails rfl rfl ar_X10_fails ⟨by decide, by decide, by decide, by decide⟩ rfl (Nat.le_of_ble_eq_true rfl) dX10_entryDistance_24 (a_dR ?_) a_nR
    obtain ⟨g2, eg2⟩ : ∃ F : Nat → Nat → Int, F = ii_up g1 40 0 1 := ⟨_, rfl⟩
    rw [← eg2]
    refine a_iret C ?_ (by decide) (by decide) dX10_entryDistance_27
    rw [hPost]
    subst eg2 eg1
    exact ⟨rfl, rfl, rfl, by first | rfl | rw [ii_up_up]⟩
  · skip
    omega
set_option maxRecDepth 20000 in
set_option maxHeartbeats 2000000 in
theorem m_status {l : Launch} {E : ab_E} {base : Nat} (hl : l.stackTraces = false) {ad : Nat → Nat} (f : Nat → Nat → Int) (w : Nat × Nat × Int64 × UInt64) (r : Nat) (hr : (r : Int) < f 40 30) (hm : 0 ≤ f 40 30 ∧ f 40 30 ≤ 30) (hst : st_ok (f 63 r))  : ab_M l E base yX10_status cX10_status 2 (some .char) 3 0 0 [.ref (ad 40), ii_v ((r : Nat) : Int)] ab_x4 ad (f, w) (ab_R (ii_v (f 63 r)) ab_x4 ad (ii_up f 40 0 0, w)) := by
  obtain ⟨Post, hPost⟩ : ∃ P : ab_P, P = (ab_R (ii_v (f 63 r)) ab_x4 ad (ii_up f 40 0 0, w)) := ⟨_, rfl⟩
  rw [← hPost]
  refine ab_of RX10 [(0, .ref (ad 40)), (1, ii_v ((r : Nat) : Int))] hl (by decide) rfl (Nat.le_of_ble_eq_true rfl) rfl ?_
  intro p e s m args below meth c C T0 hnm
  refine a_aload_n C dX10_status_0 rfl ?_
  refine a_iconst C dX10_status_1 ?_
  refine a_put (ci := 11) (i := 0) C iw_X10 rfl (by decide) rfl tyX10 tyX10_ok nmX10 rfl rfl fl_X10_114 rfl rfl rfl rfl dX10_status_2 ?_
  obtain ⟨g1, eg1⟩ : ∃ F : Nat → Nat → Int, F = ii_up f 40 0 0 := ⟨_, rfl⟩
  rw [← eg1]
  refine a_aload_n C dX10_status_5 rfl ?_
  refine a_iload_n C dX10_status_6 rfl ?_
  refine a_callV (o := 40) (As := [ii_v ((r : Nat) : Int)]) C (m_isRequest hl g1 w ((r : Nat) : Int) (by omega) (by rw [show g1 40 30 = f 40 30 from by rw [eg1]; exact ii_up_k _ _ (by decide)]; omega)) co_X10_isRequest in_X10 ml_X10_229 im_X10_isRequest se_X10_isRequest rfl rfl ar_X10_isRequest ⟨by decide, by decide, by decide, by decide⟩ rfl (Nat.le_of_ble_eq_true rfl) dX10_status_7 (a_dR ?_) a_nR
  rw [show g1 40 30 = f 40 30 from by rw [eg1]; exact ii_up_k _ _ (by decide)]
  refine a_bif_eq (tgt := 22) C dX10_status_10 rfl (fun h10 => ?_) (fun h10 => ?_)
  · skip
    omega
  · skip
    refine a_aload_n C dX10_status_13 rfl ?_
    refine a_get (ci := 11) (i := 23) (v := .ref (ad 63)) C iw_X10 rfl (by decide) rfl fl_X10_76 rfl rfl dX10_status_14 ?_
    refine a_iload_n C dX10_status_17 rfl ?_
    refine a_cald (o := 63) (N := 31) r C dX10_status_18 rfl (by omega) (by omega) (by decide) ?_
    refine a_top (w := ii_v (g1 63 r)) rfl ?_
    refine a_top (w := ii_v (f 63 r)) (congrArg (fun q => ii_v q) (show g1 63 r = (f 63 r) by rw [eg1, ii_up_o _ _ _ (by omega)])) ?_
    refine a_goto (tgt := 28) C dX10_status_19 rfl ?_
    refine a_zret C (st_nc hst) ?_ (by decide) (by decide) dX10_status_28
    rw [hPost]
    subst eg1
    exact ⟨rfl, rfl, rfl, by first | rfl | rw [ii_up_up]⟩
set_option maxRecDepth 20000 in
set_option maxHeartbeats 2000000 in
theorem n_status {l : Launch} {E : ab_E} {base : Nat} (hl : l.stackTraces = false) {ad : Nat → Nat} (f : Nat → Nat → Int) (w : Nat × Nat × Int64 × UInt64) (i : Int) (zi : -2147483648 ≤ i ∧ i < 2147483648) (h : ¬ (0 ≤ i ∧ i < f 40 30)) (hm : 0 ≤ f 40 30 ∧ f 40 30 ≤ 30)  : ab_M l E base yX10_status cX10_status 2 (some .char) 3 0 0 [.ref (ad 40), ii_v i] ab_x4 ad (f, w) (ab_R (ii_v (0)) ab_x4 ad (ii_up f 40 0 1, w)) := by
  obtain ⟨Post, hPost⟩ : ∃ P : ab_P, P = (ab_R (ii_v (0)) ab_x4 ad (ii_up f 40 0 1, w)) := ⟨_, rfl⟩
  rw [← hPost]
  refine ab_of RX10 [(0, .ref (ad 40)), (1, ii_v i)] hl (by decide) rfl (Nat.le_of_ble_eq_true rfl) rfl ?_
  intro p e s m args below meth c C T0 hnm
  refine a_aload_n C dX10_status_0 rfl ?_
  refine a_iconst C dX10_status_1 ?_
  refine a_put (ci := 11) (i := 0) C iw_X10 rfl (by decide) rfl tyX10 tyX10_ok nmX10 rfl rfl fl_X10_114 rfl rfl rfl rfl dX10_status_2 ?_
  obtain ⟨g1, eg1⟩ : ∃ F : Nat → Nat → Int, F = ii_up f 40 0 0 := ⟨_, rfl⟩
  rw [← eg1]
  refine a_aload_n C dX10_status_5 rfl ?_
  refine a_iload_n C dX10_status_6 rfl ?_
  refine a_callV (o := 40) (As := [ii_v i]) C (m_isRequest hl g1 w i (by omega) (by rw [show g1 40 30 = f 40 30 from by rw [eg1]; exact ii_up_k _ _ (by decide)]; omega)) co_X10_isRequest in_X10 ml_X10_229 im_X10_isRequest se_X10_isRequest rfl rfl ar_X10_isRequest ⟨by decide, by decide, by decide, by decide⟩ rfl (Nat.le_of_ble_eq_true rfl) dX10_status_7 (a_dR ?_) a_nR
  rw [show g1 40 30 = f 40 30 from by rw [eg1]; exact ii_up_k _ _ (by decide)]
  refine a_bif_eq (tgt := 22) C dX10_status_10 rfl (fun h10 => ?_) (fun h10 => ?_)
  · skip
    refine a_aload_n C dX10_status_22 rfl ?_
    refine a_iconst C dX10_status_23 ?_
    refine a_callV (o := 40) (As := [ii_v 1]) C (m_fails hl g1 w 1) co_X10_fails in_X10 ml_X10_127 im_X10_fails se_X10_fails rfl rfl ar_X10_fails ⟨by decide, by decide, by decide, by decide⟩ rfl (Nat.le_of_ble_eq_true rfl) dX10_status_24 (a_dR ?_) a_nR
    obtain ⟨g2, eg2⟩ : ∃ F : Nat → Nat → Int, F = ii_up g1 40 0 1 := ⟨_, rfl⟩
    rw [← eg2]
    refine a_i2c C dX10_status_27 (by decide) ?_
    refine a_zret C (by decide) ?_ (by decide) (by decide) dX10_status_28
    rw [hPost]
    subst eg2 eg1
    exact ⟨rfl, rfl, rfl, by first | rfl | rw [ii_up_up]⟩
  · skip
    omega
set_option maxRecDepth 20000 in
set_option maxHeartbeats 2000000 in
theorem n_reason {l : Launch} {E : ab_E} {base : Nat} (hl : l.stackTraces = false) {ad : Nat → Nat} (f : Nat → Nat → Int) (w : Nat × Nat × Int64 × UInt64) (i : Int) (zi : -2147483648 ≤ i ∧ i < 2147483648) (h : ¬ (0 ≤ i ∧ i < f 40 30)) (hm : 0 ≤ f 40 30 ∧ f 40 30 ≤ 30)  : ab_M l E base yX10_reason cX10_reason 2 (some .char) 4 0 0 [.ref (ad 40), ii_v i] ab_x4 ad (f, w) (ab_R (ii_v (0)) ab_x4 ad (ii_up f 40 0 1, w)) := by
  obtain ⟨Post, hPost⟩ : ∃ P : ab_P, P = (ab_R (ii_v (0)) ab_x4 ad (ii_up f 40 0 1, w)) := ⟨_, rfl⟩
  rw [← hPost]
  refine ab_of RX10 [(0, .ref (ad 40)), (1, ii_v i)] hl (by decide) rfl (Nat.le_of_ble_eq_true rfl) rfl ?_
  intro p e s m args below meth c C T0 hnm
  refine a_aload_n C dX10_reason_0 rfl ?_
  refine a_iconst C dX10_reason_1 ?_
  refine a_put (ci := 11) (i := 0) C iw_X10 rfl (by decide) rfl tyX10 tyX10_ok nmX10 rfl rfl fl_X10_114 rfl rfl rfl rfl dX10_reason_2 ?_
  obtain ⟨g1, eg1⟩ : ∃ F : Nat → Nat → Int, F = ii_up f 40 0 0 := ⟨_, rfl⟩
  rw [← eg1]
  refine a_aload_n C dX10_reason_5 rfl ?_
  refine a_iload_n C dX10_reason_6 rfl ?_
  refine a_callV (o := 40) (As := [ii_v i]) C (m_isRequest hl g1 w i (by omega) (by rw [show g1 40 30 = f 40 30 from by rw [eg1]; exact ii_up_k _ _ (by decide)]; omega)) co_X10_isRequest in_X10 ml_X10_229 im_X10_isRequest se_X10_isRequest rfl rfl ar_X10_isRequest ⟨by decide, by decide, by decide, by decide⟩ rfl (Nat.le_of_ble_eq_true rfl) dX10_reason_7 (a_dR ?_) a_nR
  rw [show g1 40 30 = f 40 30 from by rw [eg1]; exact ii_up_k _ _ (by decide)]
  refine a_bif_ne (tgt := 20) C dX10_reason_10 rfl (fun h10 => ?_) (fun h10 => ?_)
  · skip
    omega
  · skip
    refine a_aload_n C dX10_reason_13 rfl ?_
    refine a_iconst C dX10_reason_14 ?_
    refine a_callV (o := 40) (As := [ii_v 1]) C (m_fails hl g1 w 1) co_X10_fails in_X10 ml_X10_127 im_X10_fails se_X10_fails rfl rfl ar_X10_fails ⟨by decide, by decide, by decide, by decide⟩ rfl (Nat.le_of_ble_eq_true rfl) dX10_reason_15 (a_dR ?_) a_nR
    obtain ⟨g2, eg2⟩ : ∃ F : Nat → Nat → Int, F = ii_up g1 40 0 1 := ⟨_, rfl⟩
    rw [← eg2]
    refine a_i2c C dX10_reason_18 (by decide) ?_
    refine a_zret C (by decide) ?_ (by decide) (by decide) dX10_reason_19
    rw [hPost]
    subst eg2 eg1
    exact ⟨rfl, rfl, rfl, by first | rfl | rw [ii_up_up]⟩
set_option maxRecDepth 20000 in
set_option maxHeartbeats 2000000 in
theorem n_busOf {l : Launch} {E : ab_E} {base : Nat} (hl : l.stackTraces = false) {ad : Nat → Nat} (f : Nat → Nat → Int) (w : Nat × Nat × Int64 × UInt64) (i : Int) (zi : -2147483648 ≤ i ∧ i < 2147483648) (h : ¬ (0 ≤ i ∧ i < f 40 30)) (hm : 0 ≤ f 40 30 ∧ f 40 30 ≤ 30)  : ab_M l E base yX10_busOf cX10_busOf 2 (some .int) 4 0 0 [.ref (ad 40), ii_v i] ab_x4 ad (f, w) (ab_R (ii_v (0)) ab_x4 ad (ii_up f 40 0 1, w)) := by
  obtain ⟨Post, hPost⟩ : ∃ P : ab_P, P = (ab_R (ii_v (0)) ab_x4 ad (ii_up f 40 0 1, w)) := ⟨_, rfl⟩
  rw [← hPost]
  refine ab_of RX10 [(0, .ref (ad 40)), (1, ii_v i)] hl (by decide) rfl (Nat.le_of_ble_eq_true rfl) rfl ?_
  intro p e s m args below meth c C T0 hnm
  refine a_aload_n C dX10_busOf_0 rfl ?_
  refine a_iconst C dX10_busOf_1 ?_
  refine a_put (ci := 11) (i := 0) C iw_X10 rfl (by decide) rfl tyX10 tyX10_ok nmX10 rfl rfl fl_X10_114 rfl rfl rfl rfl dX10_busOf_2 ?_
  obtain ⟨g1, eg1⟩ : ∃ F : Nat → Nat → Int, F = ii_up f 40 0 0 := ⟨_, rfl⟩
  rw [← eg1]
  refine a_aload_n C dX10_busOf_5 rfl ?_
  refine a_iload_n C dX10_busOf_6 rfl ?_
  refine a_callV (o := 40) (As := [ii_v i]) C (m_isRequest hl g1 w i (by omega) (by rw [show g1 40 30 = f 40 30 from by rw [eg1]; exact ii_up_k _ _ (by decide)]; omega)) co_X10_isRequest in_X10 ml_X10_229 im_X10_isRequest se_X10_isRequest rfl rfl ar_X10_isRequest ⟨by decide, by decide, by decide, by decide⟩ rfl (Nat.le_of_ble_eq_true rfl) dX10_busOf_7 (a_dR ?_) a_nR
  rw [show g1 40 30 = f 40 30 from by rw [eg1]; exact ii_up_k _ _ (by decide)]
  refine a_bif_ne (tgt := 19) C dX10_busOf_10 rfl (fun h10 => ?_) (fun h10 => ?_)
  · skip
    omega
  · skip
    refine a_aload_n C dX10_busOf_13 rfl ?_
    refine a_iconst C dX10_busOf_14 ?_
    refine a_callV (o := 40) (As := [ii_v 1]) C (m_fails hl g1 w 1) co_X10_fails in_X10 ml_X10_127 im_X10_fails se_X10_fails rfl rfl ar_X10_fails ⟨by decide, by decide, by decide, by decide⟩ rfl (Nat.le_of_ble_eq_true rfl) dX10_busOf_15 (a_dR ?_) a_nR
    obtain ⟨g2, eg2⟩ : ∃ F : Nat → Nat → Int, F = ii_up g1 40 0 1 := ⟨_, rfl⟩
    rw [← eg2]
    refine a_iret C ?_ (by decide) (by decide) dX10_busOf_18
    rw [hPost]
    subst eg2 eg1
    exact ⟨rfl, rfl, rfl, by first | rfl | rw [ii_up_up]⟩
set_option maxRecDepth 20000 in
set_option maxHeartbeats 2000000 in
theorem n_cancel {l : Launch} {E : ab_E} {base : Nat} (hl : l.stackTraces = false) {ad : Nat → Nat} (f : Nat → Nat → Int) (w : Nat × Nat × Int64 × UInt64) (i : Int) (zi : -2147483648 ≤ i ∧ i < 2147483648) (h : ¬ (0 ≤ i ∧ i < f 40 30)) (hm : 0 ≤ f 40 30 ∧ f 40 30 ≤ 30)  : ab_M l E base yX10_cancel cX10_cancel 6 (some .int) 4 0 0 [.ref (ad 40), ii_v i] ab_x4 ad (f, w) (ab_R (ii_v (0)) ab_x4 ad (ii_up f 40 0 1, w)) := by
  obtain ⟨Post, hPost⟩ : ∃ P : ab_P, P = (ab_R (ii_v (0)) ab_x4 ad (ii_up f 40 0 1, w)) := ⟨_, rfl⟩
  rw [← hPost]
  refine ab_of RX10 [(0, .ref (ad 40)), (1, ii_v i)] hl (by decide) rfl (Nat.le_of_ble_eq_true rfl) rfl ?_
  intro p e s m args below meth c C T0 hnm
  refine a_aload_n C dX10_cancel_0 rfl ?_
  refine a_iconst C dX10_cancel_1 ?_
  refine a_put (ci := 11) (i := 0) C iw_X10 rfl (by decide) rfl tyX10 tyX10_ok nmX10 rfl rfl fl_X10_114 rfl rfl rfl rfl dX10_cancel_2 ?_
  obtain ⟨g1, eg1⟩ : ∃ F : Nat → Nat → Int, F = ii_up f 40 0 0 := ⟨_, rfl⟩
  rw [← eg1]
  refine a_aload_n C dX10_cancel_5 rfl ?_
  refine a_iload_n C dX10_cancel_6 rfl ?_
  refine a_callV (o := 40) (As := [ii_v i]) C (m_isRequest hl g1 w i (by omega) (by rw [show g1 40 30 = f 40 30 from by rw [eg1]; exact ii_up_k _ _ (by decide)]; omega)) co_X10_isRequest in_X10 ml_X10_229 im_X10_isRequest se_X10_isRequest rfl rfl ar_X10_isRequest ⟨by decide, by decide, by decide, by decide⟩ rfl (Nat.le_of_ble_eq_true rfl) dX10_cancel_7 (a_dR ?_) a_nR
  rw [show g1 40 30 = f 40 30 from by rw [eg1]; exact ii_up_k _ _ (by decide)]
  refine a_bif_ne (tgt := 19) C dX10_cancel_10 rfl (fun h10 => ?_) (fun h10 => ?_)
  · skip
    omega
  · skip
    refine a_aload_n C dX10_cancel_13 rfl ?_
    refine a_iconst C dX10_cancel_14 ?_
    refine a_callV (o := 40) (As := [ii_v 1]) C (m_fails hl g1 w 1) co_X10_fails in_X10 ml_X10_127 im_X10_fails se_X10_fails rfl rfl ar_X10_fails ⟨by decide, by decide, by decide, by decide⟩ rfl (Nat.le_of_ble_eq_true rfl) dX10_cancel_15 (a_dR ?_) a_nR
    obtain ⟨g2, eg2⟩ : ∃ F : Nat → Nat → Int, F = ii_up g1 40 0 1 := ⟨_, rfl⟩
    rw [← eg2]
    refine a_iret C ?_ (by decide) (by decide) dX10_cancel_18
    rw [hPost]
    subst eg2 eg1
    exact ⟨rfl, rfl, rfl, by first | rfl | rw [ii_up_up]⟩
set_option maxRecDepth 20000 in
set_option maxHeartbeats 2000000 in
theorem n_pickupTime {l : Launch} {E : ab_E} {base : Nat} (hl : l.stackTraces = false) {ad : Nat → Nat} (f : Nat → Nat → Int) (w : Nat × Nat × Int64 × UInt64) (i : Int) (zi : -2147483648 ≤ i ∧ i < 2147483648) (h : ¬ (0 ≤ i ∧ i < f 40 30)) (hm : 0 ≤ f 40 30 ∧ f 40 30 ≤ 30)  : ab_M l E base yX10_pickupTime cX10_pickupTime 2 (some .int) 4 0 0 [.ref (ad 40), ii_v i] ab_x4 ad (f, w) (ab_R (ii_v (0)) ab_x4 ad (ii_up f 40 0 1, w)) := by
  obtain ⟨Post, hPost⟩ : ∃ P : ab_P, P = (ab_R (ii_v (0)) ab_x4 ad (ii_up f 40 0 1, w)) := ⟨_, rfl⟩
  rw [← hPost]
  refine ab_of RX10 [(0, .ref (ad 40)), (1, ii_v i)] hl (by decide) rfl (Nat.le_of_ble_eq_true rfl) rfl ?_
  intro p e s m args below meth c C T0 hnm
  refine a_aload_n C dX10_pickupTime_0 rfl ?_
  refine a_iconst C dX10_pickupTime_1 ?_
  refine a_put (ci := 11) (i := 0) C iw_X10 rfl (by decide) rfl tyX10 tyX10_ok nmX10 rfl rfl fl_X10_114 rfl rfl rfl rfl dX10_pickupTime_2 ?_
  obtain ⟨g1, eg1⟩ : ∃ F : Nat → Nat → Int, F = ii_up f 40 0 0 := ⟨_, rfl⟩
  rw [← eg1]
  refine a_aload_n C dX10_pickupTime_5 rfl ?_
  refine a_iload_n C dX10_pickupTime_6 rfl ?_
  refine a_callV (o := 40) (As := [ii_v i]) C (m_isRequest hl g1 w i (by omega) (by rw [show g1 40 30 = f 40 30 from by rw [eg1]; exact ii_up_k _ _ (by decide)]; omega)) co_X10_isRequest in_X10 ml_X10_229 im_X10_isRequest se_X10_isRequest rfl rfl ar_X10_isRequest ⟨by decide, by decide, by decide, by decide⟩ rfl (Nat.le_of_ble_eq_true rfl) dX10_pickupTime_7 (a_dR ?_) a_nR
  rw [show g1 40 30 = f 40 30 from by rw [eg1]; exact ii_up_k _ _ (by decide)]
  refine a_bif_ne (tgt := 19) C dX10_pickupTime_10 rfl (fun h10 => ?_) (fun h10 => ?_)
  · skip
    omega
  · skip
    refine a_aload_n C dX10_pickupTime_13 rfl ?_
    refine a_iconst C dX10_pickupTime_14 ?_
    refine a_callV (o := 40) (As := [ii_v 1]) C (m_fails hl g1 w 1) co_X10_fails in_X10 ml_X10_127 im_X10_fails se_X10_fails rfl rfl ar_X10_fails ⟨by decide, by decide, by decide, by decide⟩ rfl (Nat.le_of_ble_eq_true rfl) dX10_pickupTime_15 (a_dR ?_) a_nR
    obtain ⟨g2, eg2⟩ : ∃ F : Nat → Nat → Int, F = ii_up g1 40 0 1 := ⟨_, rfl⟩
    rw [← eg2]
    refine a_iret C ?_ (by decide) (by decide) dX10_pickupTime_18
    rw [hPost]
    subst eg2 eg1
    exact ⟨rfl, rfl, rfl, by first | rfl | rw [ii_up_up]⟩
set_option maxRecDepth 20000 in
set_option maxHeartbeats 2000000 in
theorem n_dropTime {l : Launch} {E : ab_E} {base : Nat} (hl : l.stackTraces = false) {ad : Nat → Nat} (f : Nat → Nat → Int) (w : Nat × Nat × Int64 × UInt64) (i : Int) (zi : -2147483648 ≤ i ∧ i < 2147483648) (h : ¬ (0 ≤ i ∧ i < f 40 30)) (hm : 0 ≤ f 40 30 ∧ f 40 30 ≤ 30)  : ab_M l E base yX10_dropTime cX10_dropTime 2 (some .int) 4 0 0 [.ref (ad 40), ii_v i] ab_x4 ad (f, w) (ab_R (ii_v (0)) ab_x4 ad (ii_up f 40 0 1, w)) := by
  obtain ⟨Post, hPost⟩ : ∃ P : ab_P, P = (ab_R (ii_v (0)) ab_x4 ad (ii_up f 40 0 1, w)) := ⟨_, rfl⟩
  rw [← hPost]
  refine ab_of RX10 [(0, .ref (ad 40)), (1, ii_v i)] hl (by decide) rfl (Nat.le_of_ble_eq_true rfl) rfl ?_
  intro p e s m args below meth c C T0 hnm
  refine a_aload_n C dX10_dropTime_0 rfl ?_
  refine a_iconst C dX10_dropTime_1 ?_
  refine a_put (ci := 11) (i := 0) C iw_X10 rfl (by decide) rfl tyX10 tyX10_ok nmX10 rfl rfl fl_X10_114 rfl rfl rfl rfl dX10_dropTime_2 ?_
  obtain ⟨g1, eg1⟩ : ∃ F : Nat → Nat → Int, F = ii_up f 40 0 0 := ⟨_, rfl⟩
  rw [← eg1]
  refine a_aload_n C dX10_dropTime_5 rfl ?_
  refine a_iload_n C dX10_dropTime_6 rfl ?_
  refine a_callV (o := 40) (As := [ii_v i]) C (m_isRequest hl g1 w i (by omega) (by rw [show g1 40 30 = f 40 30 from by rw [eg1]; exact ii_up_k _ _ (by decide)]; omega)) co_X10_isRequest in_X10 ml_X10_229 im_X10_isRequest se_X10_isRequest rfl rfl ar_X10_isRequest ⟨by decide, by decide, by decide, by decide⟩ rfl (Nat.le_of_ble_eq_true rfl) dX10_dropTime_7 (a_dR ?_) a_nR
  rw [show g1 40 30 = f 40 30 from by rw [eg1]; exact ii_up_k _ _ (by decide)]
  refine a_bif_ne (tgt := 19) C dX10_dropTime_10 rfl (fun h10 => ?_) (fun h10 => ?_)
  · skip
    omega
  · skip
    refine a_aload_n C dX10_dropTime_13 rfl ?_
    refine a_iconst C dX10_dropTime_14 ?_
    refine a_callV (o := 40) (As := [ii_v 1]) C (m_fails hl g1 w 1) co_X10_fails in_X10 ml_X10_127 im_X10_fails se_X10_fails rfl rfl ar_X10_fails ⟨by decide, by decide, by decide, by decide⟩ rfl (Nat.le_of_ble_eq_true rfl) dX10_dropTime_15 (a_dR ?_) a_nR
    obtain ⟨g2, eg2⟩ : ∃ F : Nat → Nat → Int, F = ii_up g1 40 0 1 := ⟨_, rfl⟩
    rw [← eg2]
    refine a_iret C ?_ (by decide) (by decide) dX10_dropTime_18
    rw [hPost]
    subst eg2 eg1
    exact ⟨rfl, rfl, rfl, by first | rfl | rw [ii_up_up]⟩
set_option maxRecDepth 20000 in
set_option maxHeartbeats 2000000 in
theorem n_bestLength {l : Launch} {E : ab_E} {base : Nat} (hl : l.stackTraces = false) {ad : Nat → Nat} (f : Nat → Nat → Int) (w : Nat × Nat × Int64 × UInt64) (i : Int) (zi : -2147483648 ≤ i ∧ i < 2147483648) (h : ¬ (0 ≤ i ∧ i < f 40 29)) (hm : 0 ≤ f 40 29 ∧ f 40 29 ≤ 4)  : ab_M l E base yX10_bestLength cX10_bestLength 2 (some .int) 4 0 0 [.ref (ad 40), ii_v i] ab_x4 ad (f, w) (ab_R (ii_v (0)) ab_x4 ad (ii_up f 40 0 1, w)) := by
  obtain ⟨Post, hPost⟩ : ∃ P : ab_P, P = (ab_R (ii_v (0)) ab_x4 ad (ii_up f 40 0 1, w)) := ⟨_, rfl⟩
  rw [← hPost]
  refine ab_of RX10 [(0, .ref (ad 40)), (1, ii_v i)] hl (by decide) rfl (Nat.le_of_ble_eq_true rfl) rfl ?_
  intro p e s m args below meth c C T0 hnm
  refine a_aload_n C dX10_bestLength_0 rfl ?_
  refine a_iconst C dX10_bestLength_1 ?_
  refine a_put (ci := 11) (i := 0) C iw_X10 rfl (by decide) rfl tyX10 tyX10_ok nmX10 rfl rfl fl_X10_114 rfl rfl rfl rfl dX10_bestLength_2 ?_
  obtain ⟨g1, eg1⟩ : ∃ F : Nat → Nat → Int, F = ii_up f 40 0 0 := ⟨_, rfl⟩
  rw [← eg1]
  refine a_aload_n C dX10_bestLength_5 rfl ?_
  refine a_iload_n C dX10_bestLength_6 rfl ?_
  refine a_callV (o := 40) (As := [ii_v i]) C (m_isBus hl g1 w i (by omega) (by rw [show g1 40 29 = f 40 29 from by rw [eg1]; exact ii_up_k _ _ (by decide)]; omega)) co_X10_isBus in_X10 ml_X10_235 im_X10_isBus se_X10_isBus rfl rfl ar_X10_isBus ⟨by decide, by decide, by decide, by decide⟩ rfl (Nat.le_of_ble_eq_true rfl) dX10_bestLength_7 (a_dR ?_) a_nR
  rw [show g1 40 29 = f 40 29 from by rw [eg1]; exact ii_up_k _ _ (by decide)]
  refine a_bif_ne (tgt := 19) C dX10_bestLength_10 rfl (fun h10 => ?_) (fun h10 => ?_)
  · skip
    omega
  · skip
    refine a_aload_n C dX10_bestLength_13 rfl ?_
    refine a_iconst C dX10_bestLength_14 ?_
    refine a_callV (o := 40) (As := [ii_v 1]) C (m_fails hl g1 w 1) co_X10_fails in_X10 ml_X10_127 im_X10_fails se_X10_fails rfl rfl ar_X10_fails ⟨by decide, by decide, by decide, by decide⟩ rfl (Nat.le_of_ble_eq_true rfl) dX10_bestLength_15 (a_dR ?_) a_nR
    obtain ⟨g2, eg2⟩ : ∃ F : Nat → Nat → Int, F = ii_up g1 40 0 1 := ⟨_, rfl⟩
    rw [← eg2]
    refine a_iret C ?_ (by decide) (by decide) dX10_bestLength_18
    rw [hPost]
    subst eg2 eg1
    exact ⟨rfl, rfl, rfl, by first | rfl | rw [ii_up_up]⟩
set_option maxRecDepth 20000 in
set_option maxHeartbeats 2000000 in
theorem n_improve {l : Launch} {E : ab_E} {base : Nat} (hl : l.stackTraces = false) {ad : Nat → Nat} (f : Nat → Nat → Int) (w : Nat × Nat × Int64 × UInt64) (i : Int) (zi : -2147483648 ≤ i ∧ i < 2147483648) (h : ¬ (0 ≤ i ∧ i < f 40 29)) (hm : 0 ≤ f 40 29 ∧ f 40 29 ≤ 4)  : ab_M l E base yX10_improve cX10_improve 4 (some .int) 4 0 0 [.ref (ad 40), ii_v i] ab_x4 ad (f, w) (ab_R (ii_v (0)) ab_x4 ad (ii_up f 40 0 1, w)) := by
  obtain ⟨Post, hPost⟩ : ∃ P : ab_P, P = (ab_R (ii_v (0)) ab_x4 ad (ii_up f 40 0 1, w)) := ⟨_, rfl⟩
  rw [← hPost]
  refine ab_of RX10 [(0, .ref (ad 40)), (1, ii_v i)] hl (by decide) rfl (Nat.le_of_ble_eq_true rfl) rfl ?_
  intro p e s m args below meth c C T0 hnm
  refine a_aload_n C dX10_improve_0 rfl ?_
  refine a_iconst C dX10_improve_1 ?_
  refine a_put (ci := 11) (i := 0) C iw_X10 rfl (by decide) rfl tyX10 tyX10_ok nmX10 rfl rfl fl_X10_114 rfl rfl rfl rfl dX10_improve_2 ?_
  obtain ⟨g1, eg1⟩ : ∃ F : Nat → Nat → Int, F = ii_up f 40 0 0 := ⟨_, rfl⟩
  rw [← eg1]
  refine a_aload_n C dX10_improve_5 rfl ?_
  refine a_iload_n C dX10_improve_6 rfl ?_
  refine a_callV (o := 40) (As := [ii_v i]) C (m_isBus hl g1 w i (by omega) (by rw [show g1 40 29 = f 40 29 from by rw [eg1]; exact ii_up_k _ _ (by decide)]; omega)) co_X10_isBus in_X10 ml_X10_235 im_X10_isBus se_X10_isBus rfl rfl ar_X10_isBus ⟨by decide, by decide, by decide, by decide⟩ rfl (Nat.le_of_ble_eq_true rfl) dX10_improve_7 (a_dR ?_) a_nR
  rw [show g1 40 29 = f 40 29 from by rw [eg1]; exact ii_up_k _ _ (by decide)]
  refine a_bif_ne (tgt := 19) C dX10_improve_10 rfl (fun h10 => ?_) (fun h10 => ?_)
  · skip
    omega
  · skip
    refine a_aload_n C dX10_improve_13 rfl ?_
    refine a_iconst C dX10_improve_14 ?_
    refine a_callV (o := 40) (As := [ii_v 1]) C (m_fails hl g1 w 1) co_X10_fails in_X10 ml_X10_127 im_X10_fails se_X10_fails rfl rfl ar_X10_fails ⟨by decide, by decide, by decide, by decide⟩ rfl (Nat.le_of_ble_eq_true rfl) dX10_improve_15 (a_dR ?_) a_nR
    obtain ⟨g2, eg2⟩ : ∃ F : Nat → Nat → Int, F = ii_up g1 40 0 1 := ⟨_, rfl⟩
    rw [← eg2]
    refine a_iret C ?_ (by decide) (by decide) dX10_improve_18
    rw [hPost]
    subst eg2 eg1
    exact ⟨rfl, rfl, rfl, by first | rfl | rw [ii_up_up]⟩
set_option maxRecDepth 20000 in
set_option maxHeartbeats 2000000 in
theorem m_reason {l : Launch} {E : ab_E} {base : Nat} (hl : l.stackTraces = false) {ad : Nat → Nat} (f : Nat → Nat → Int) (w : Nat × Nat × Int64 × UInt64) (r : Nat) (hr : (r : Int) < f 40 30) (hm : 0 ≤ f 40 30 ∧ f 40 30 ≤ 30) (hst : st_ok (f 63 r)) (h : f 63 r = 120) (hre : f 64 r = 115 ∨ f 64 r = 119 ∨ f 64 r = 100 ∨ f 64 r = 98) : ab_M l E base yX10_reason cX10_reason 2 (some .char) 3 0 0 [.ref (ad 40), ii_v ((r : Nat) : Int)] ab_x4 ad (f, w) (ab_R (ii_v (f 64 r)) ab_x4 ad (ii_up f 40 0 0, w)) := by
  obtain ⟨Post, hPost⟩ : ∃ P : ab_P, P = (ab_R (ii_v (f 64 r)) ab_x4 ad (ii_up f 40 0 0, w)) := ⟨_, rfl⟩
  rw [← hPost]
  refine ab_of RX10 [(0, .ref (ad 40)), (1, ii_v ((r : Nat) : Int))] hl (by decide) rfl (Nat.le_of_ble_eq_true rfl) rfl ?_
  intro p e s m args below meth c C T0 hnm
  refine a_aload_n C dX10_reason_0 rfl ?_
  refine a_iconst C dX10_reason_1 ?_
  refine a_put (ci := 11) (i := 0) C iw_X10 rfl (by decide) rfl tyX10 tyX10_ok nmX10 rfl rfl fl_X10_114 rfl rfl rfl rfl dX10_reason_2 ?_
  obtain ⟨g1, eg1⟩ : ∃ F : Nat → Nat → Int, F = ii_up f 40 0 0 := ⟨_, rfl⟩
  rw [← eg1]
  refine a_aload_n C dX10_reason_5 rfl ?_
  refine a_iload_n C dX10_reason_6 rfl ?_
  refine a_callV (o := 40) (As := [ii_v ((r : Nat) : Int)]) C (m_isRequest hl g1 w ((r : Nat) : Int) (by omega) (by rw [show g1 40 30 = f 40 30 from by rw [eg1]; exact ii_up_k _ _ (by decide)]; omega)) co_X10_isRequest in_X10 ml_X10_229 im_X10_isRequest se_X10_isRequest rfl rfl ar_X10_isRequest ⟨by decide, by decide, by decide, by decide⟩ rfl (Nat.le_of_ble_eq_true rfl) dX10_reason_7 (a_dR ?_) a_nR
  rw [show g1 40 30 = f 40 30 from by rw [eg1]; exact ii_up_k _ _ (by decide)]
  refine a_bif_ne (tgt := 20) C dX10_reason_10 rfl (fun h10 => ?_) (fun h10 => ?_)
  · skip
    refine a_aload_n C dX10_reason_20 rfl ?_
    refine a_get (ci := 11) (i := 23) (v := .ref (ad 63)) C iw_X10 rfl (by decide) rfl fl_X10_76 rfl rfl dX10_reason_21 ?_
    refine a_iload_n C dX10_reason_24 rfl ?_
    refine a_cald (o := 63) (N := 31) r C dX10_reason_25 rfl (by omega) (by omega) (by decide) ?_
    refine a_top (w := ii_v (g1 63 r)) rfl ?_
    refine a_top (w := ii_v (f 63 r)) (congrArg (fun q => ii_v q) (show g1 63 r = (f 63 r) by rw [eg1, ii_up_o _ _ _ (by omega)])) ?_
    refine a_bipush C dX10_reason_26 (by decide) ?_
    refine a_icmp_ne (tgt := 40) C dX10_reason_28 rfl (by unfold ii_B; omega) (by unfold ii_B; omega) (fun h28 => ?_) (fun h28 => ?_)
    · skip
      exact absurd h h28
    · skip
      refine a_aload_n C dX10_reason_31 rfl ?_
      refine a_get (ci := 11) (i := 24) (v := .ref (ad 64)) C iw_X10 rfl (by decide) rfl fl_X10_80 rfl rfl dX10_reason_32 ?_
      refine a_iload_n C dX10_reason_35 rfl ?_
      refine a_cald (o := 64) (N := 31) r C dX10_reason_36 rfl (by omega) (by omega) (by decide) ?_
      refine a_top (w := ii_v (g1 64 r)) rfl ?_
      refine a_top (w := ii_v (f 64 r)) (congrArg (fun q => ii_v q) (show g1 64 r = (f 64 r) by rw [eg1, ii_up_o _ _ _ (by omega)])) ?_
      refine a_goto (tgt := 46) C dX10_reason_37 rfl ?_
      refine a_zret C (re_nc hre) ?_ (by decide) (by decide) dX10_reason_46
      rw [hPost]
      subst eg1
      exact ⟨rfl, rfl, rfl, by first | rfl | rw [ii_up_up]⟩
  · skip
    omega
set_option maxRecDepth 20000 in
set_option maxHeartbeats 2000000 in
theorem n2_reason {l : Launch} {E : ab_E} {base : Nat} (hl : l.stackTraces = false) {ad : Nat → Nat} (f : Nat → Nat → Int) (w : Nat × Nat × Int64 × UInt64) (r : Nat) (hr : (r : Int) < f 40 30) (hm : 0 ≤ f 40 30 ∧ f 40 30 ≤ 30) (hst : st_ok (f 63 r)) (h : f 63 r ≠ 120) : ab_M l E base yX10_reason cX10_reason 2 (some .char) 3 0 0 [.ref (ad 40), ii_v ((r : Nat) : Int)] ab_x4 ad (f, w) (ab_R (ii_v (0)) ab_x4 ad (ii_up f 40 0 2, w)) := by
  obtain ⟨Post, hPost⟩ : ∃ P : ab_P, P = (ab_R (ii_v (0)) ab_x4 ad (ii_up f 40 0 2, w)) := ⟨_, rfl⟩
  rw [← hPost]
  refine ab_of RX10 [(0, .ref (ad 40)), (1, ii_v ((r : Nat) : Int))] hl (by decide) rfl (Nat.le_of_ble_eq_true rfl) rfl ?_
  intro p e s m args below meth c C T0 hnm
  have hstb := st_b hst
  refine a_aload_n C dX10_reason_0 rfl ?_
  refine a_iconst C dX10_reason_1 ?_
  refine a_put (ci := 11) (i := 0) C iw_X10 rfl (by decide) rfl tyX10 tyX10_ok nmX10 rfl rfl fl_X10_114 rfl rfl rfl rfl dX10_reason_2 ?_
  obtain ⟨g1, eg1⟩ : ∃ F : Nat → Nat → Int, F = ii_up f 40 0 0 := ⟨_, rfl⟩
  rw [← eg1]
  refine a_aload_n C dX10_reason_5 rfl ?_
  refine a_iload_n C dX10_reason_6 rfl ?_
  refine a_callV (o := 40) (As := [ii_v ((r : Nat) : Int)]) C (m_isRequest hl g1 w ((r : Nat) : Int) (by omega) (by rw [show g1 40 30 = f 40 30 from by rw [eg1]; exact ii_up_k _ _ (by decide)]; omega)) co_X10_isRequest in_X10 ml_X10_229 im_X10_isRequest se_X10_isRequest rfl rfl ar_X10_isRequest ⟨by decide, by decide, by decide, by decide⟩ rfl (Nat.le_of_ble_eq_true rfl) dX10_reason_7 (a_dR ?_) a_nR
  rw [show g1 40 30 = f 40 30 from by rw [eg1]; exact ii_up_k _ _ (by decide)]
  refine a_bif_ne (tgt := 20) C dX10_reason_10 rfl (fun h10 => ?_) (fun h10 => ?_)
  · skip
    refine a_aload_n C dX10_reason_20 rfl ?_
    refine a_get (ci := 11) (i := 23) (v := .ref (ad 63)) C iw_X10 rfl (by decide) rfl fl_X10_76 rfl rfl dX10_reason_21 ?_
    refine a_iload_n C dX10_reason_24 rfl ?_
    refine a_cald (o := 63) (N := 31) r C dX10_reason_25 rfl (by omega) (by omega) (by decide) ?_
    refine a_top (w := ii_v (g1 63 r)) rfl ?_
    refine a_top (w := ii_v (f 63 r)) (congrArg (fun q => ii_v q) (show g1 63 r = (f 63 r) by rw [eg1, ii_up_o _ _ _ (by omega)])) ?_
    refine a_bipush C dX10_reason_26 (by decide) ?_
    refine a_icmp_ne (tgt := 40) C dX10_reason_28 rfl (by unfold ii_B; omega) (by unfold ii_B; omega) (fun h28 => ?_) (fun h28 => ?_)
    · skip
      refine a_aload_n C dX10_reason_40 rfl ?_
      refine a_iconst C dX10_reason_41 ?_
      refine a_callV (o := 40) (As := [ii_v 2]) C (m_fails hl g1 w 2) co_X10_fails in_X10 ml_X10_127 im_X10_fails se_X10_fails rfl rfl ar_X10_fails ⟨by decide, by decide, by decide, by decide⟩ rfl (Nat.le_of_ble_eq_true rfl) dX10_reason_42 (a_dR ?_) a_nR
      obtain ⟨g2, eg2⟩ : ∃ F : Nat → Nat → Int, F = ii_up g1 40 0 2 := ⟨_, rfl⟩
      rw [← eg2]
      refine a_i2c C dX10_reason_45 (by decide) ?_
      refine a_zret C (by decide) ?_ (by decide) (by decide) dX10_reason_46
      rw [hPost]
      subst eg2 eg1
      exact ⟨rfl, rfl, rfl, by first | rfl | rw [ii_up_up]⟩
    · skip
      exact absurd (by omega) h
  · skip
    omega
set_option maxRecDepth 20000 in
set_option maxHeartbeats 2000000 in
theorem m_busOf {l : Launch} {E : ab_E} {base : Nat} (hl : l.stackTraces = false) {ad : Nat → Nat} (f : Nat → Nat → Int) (w : Nat × Nat × Int64 × UInt64) (r : Nat) (hr : (r : Int) < f 40 30) (hm : 0 ≤ f 40 30 ∧ f 40 30 ≤ 30) (hst : st_ok (f 63 r)) (h : f 63 r ≠ 120) : ab_M l E base yX10_busOf cX10_busOf 2 (some .int) 3 0 0 [.ref (ad 40), ii_v ((r : Nat) : Int)] ab_x4 ad (f, w) (ab_R (ii_v (f 60 r)) ab_x4 ad (ii_up f 40 0 0, w)) := by
  obtain ⟨Post, hPost⟩ : ∃ P : ab_P, P = (ab_R (ii_v (f 60 r)) ab_x4 ad (ii_up f 40 0 0, w)) := ⟨_, rfl⟩
  rw [← hPost]
  refine ab_of RX10 [(0, .ref (ad 40)), (1, ii_v ((r : Nat) : Int))] hl (by decide) rfl (Nat.le_of_ble_eq_true rfl) rfl ?_
  intro p e s m args below meth c C T0 hnm
  have hstb := st_b hst
  refine a_aload_n C dX10_busOf_0 rfl ?_
  refine a_iconst C dX10_busOf_1 ?_
  refine a_put (ci := 11) (i := 0) C iw_X10 rfl (by decide) rfl tyX10 tyX10_ok nmX10 rfl rfl fl_X10_114 rfl rfl rfl rfl dX10_busOf_2 ?_
  obtain ⟨g1, eg1⟩ : ∃ F : Nat → Nat → Int, F = ii_up f 40 0 0 := ⟨_, rfl⟩
  rw [← eg1]
  refine a_aload_n C dX10_busOf_5 rfl ?_
  refine a_iload_n C dX10_busOf_6 rfl ?_
  refine a_callV (o := 40) (As := [ii_v ((r : Nat) : Int)]) C (m_isRequest hl g1 w ((r : Nat) : Int) (by omega) (by rw [show g1 40 30 = f 40 30 from by rw [eg1]; exact ii_up_k _ _ (by decide)]; omega)) co_X10_isRequest in_X10 ml_X10_229 im_X10_isRequest se_X10_isRequest rfl rfl ar_X10_isRequest ⟨by decide, by decide, by decide, by decide⟩ rfl (Nat.le_of_ble_eq_true rfl) dX10_busOf_7 (a_dR ?_) a_nR
  rw [show g1 40 30 = f 40 30 from by rw [eg1]; exact ii_up_k _ _ (by decide)]
  refine a_bif_ne (tgt := 19) C dX10_busOf_10 rfl (fun h10 => ?_) (fun h10 => ?_)
  · skip
    refine a_aload_n C dX10_busOf_19 rfl ?_
    refine a_get (ci := 11) (i := 23) (v := .ref (ad 63)) C iw_X10 rfl (by decide) rfl fl_X10_76 rfl rfl dX10_busOf_20 ?_
    refine a_iload_n C dX10_busOf_23 rfl ?_
    refine a_cald (o := 63) (N := 31) r C dX10_busOf_24 rfl (by omega) (by omega) (by decide) ?_
    refine a_top (w := ii_v (g1 63 r)) rfl ?_
    refine a_top (w := ii_v (f 63 r)) (congrArg (fun q => ii_v q) (show g1 63 r = (f 63 r) by rw [eg1, ii_up_o _ _ _ (by omega)])) ?_
    refine a_bipush C dX10_busOf_25 (by decide) ?_
    refine a_icmp_ne (tgt := 38) C dX10_busOf_27 rfl (by unfold ii_B; omega) (by unfold ii_B; omega) (fun h27 => ?_) (fun h27 => ?_)
    · skip
      refine a_aload_n C dX10_busOf_38 rfl ?_
      refine a_get (ci := 11) (i := 20) (v := .ref (ad 60)) C iw_X10 rfl (by decide) rfl fl_X10_67 rfl rfl dX10_busOf_39 ?_
      refine a_iload_n C dX10_busOf_42 rfl ?_
      refine a_iald (o := 60) (N := 31) r C dX10_busOf_43 rfl (by omega) (by omega) (by decide) ?_
      refine a_top (w := ii_v (g1 60 r)) rfl ?_
      refine a_top (w := ii_v (f 60 r)) (congrArg (fun q => ii_v q) (show g1 60 r = (f 60 r) by rw [eg1, ii_up_o _ _ _ (by omega)])) ?_
      refine a_iret C ?_ (by decide) (by decide) dX10_busOf_44
      rw [hPost]
      subst eg1
      exact ⟨rfl, rfl, rfl, by first | rfl | rw [ii_up_up]⟩
    · skip
      exact absurd (by omega) h
  · skip
    omega
set_option maxRecDepth 20000 in
set_option maxHeartbeats 2000000 in
theorem n2_busOf {l : Launch} {E : ab_E} {base : Nat} (hl : l.stackTraces = false) {ad : Nat → Nat} (f : Nat → Nat → Int) (w : Nat × Nat × Int64 × UInt64) (r : Nat) (hr : (r : Int) < f 40 30) (hm : 0 ≤ f 40 30 ∧ f 40 30 ≤ 30) (hst : st_ok (f 63 r)) (h : f 63 r = 120) : ab_M l E base yX10_busOf cX10_busOf 2 (some .int) 3 0 0 [.ref (ad 40), ii_v ((r : Nat) : Int)] ab_x4 ad (f, w) (ab_R (ii_v (0)) ab_x4 ad (ii_up f 40 0 2, w)) := by
  obtain ⟨Post, hPost⟩ : ∃ P : ab_P, P = (ab_R (ii_v (0)) ab_x4 ad (ii_up f 40 0 2, w)) := ⟨_, rfl⟩
  rw [← hPost]
  refine ab_of RX10 [(0, .ref (ad 40)), (1, ii_v ((r : Nat) : Int))] hl (by decide) rfl (Nat.le_of_ble_eq_true rfl) rfl ?_
  intro p e s m args below meth c C T0 hnm
  have hstb := st_b hst
  refine a_aload_n C dX10_busOf_0 rfl ?_
  refine a_iconst C dX10_busOf_1 ?_
  refine a_put (ci := 11) (i := 0) C iw_X10 rfl (by decide) rfl tyX10 tyX10_ok nmX10 rfl rfl fl_X10_114 rfl rfl rfl rfl dX10_busOf_2 ?_
  obtain ⟨g1, eg1⟩ : ∃ F : Nat → Nat → Int, F = ii_up f 40 0 0 := ⟨_, rfl⟩
  rw [← eg1]
  refine a_aload_n C dX10_busOf_5 rfl ?_
  refine a_iload_n C dX10_busOf_6 rfl ?_
  refine a_callV (o := 40) (As := [ii_v ((r : Nat) : Int)]) C (m_isRequest hl g1 w ((r : Nat) : Int) (by omega) (by rw [show g1 40 30 = f 40 30 from by rw [eg1]; exact ii_up_k _ _ (by decide)]; omega)) co_X10_isRequest in_X10 ml_X10_229 im_X10_isRequest se_X10_isRequest rfl rfl ar_X10_isRequest ⟨by decide, by decide, by decide, by decide⟩ rfl (Nat.le_of_ble_eq_true rfl) dX10_busOf_7 (a_dR ?_) a_nR
  rw [show g1 40 30 = f 40 30 from by rw [eg1]; exact ii_up_k _ _ (by decide)]
  refine a_bif_ne (tgt := 19) C dX10_busOf_10 rfl (fun h10 => ?_) (fun h10 => ?_)
  · skip
    refine a_aload_n C dX10_busOf_19 rfl ?_
    refine a_get (ci := 11) (i := 23) (v := .ref (ad 63)) C iw_X10 rfl (by decide) rfl fl_X10_76 rfl rfl dX10_busOf_20 ?_
    refine a_iload_n C dX10_busOf_23 rfl ?_
    refine a_cald (o := 63) (N := 31) r C dX10_busOf_24 rfl (by omega) (by omega) (by decide) ?_
    refine a_top (w := ii_v (g1 63 r)) rfl ?_
    refine a_top (w := ii_v (f 63 r)) (congrArg (fun q => ii_v q) (show g1 63 r = (f 63 r) by rw [eg1, ii_up_o _ _ _ (by omega)])) ?_
    refine a_bipush C dX10_busOf_25 (by decide) ?_
    refine a_icmp_ne (tgt := 38) C dX10_busOf_27 rfl (by unfold ii_B; omega) (by unfold ii_B; omega) (fun h27 => ?_) (fun h27 => ?_)
    · skip
      exact absurd h h27
    · skip
      refine a_aload_n C dX10_busOf_30 rfl ?_
      refine a_iconst C dX10_busOf_31 ?_
      refine a_callV (o := 40) (As := [ii_v 2]) C (m_fails hl g1 w 2) co_X10_fails in_X10 ml_X10_127 im_X10_fails se_X10_fails rfl rfl ar_X10_fails ⟨by decide, by decide, by decide, by decide⟩ rfl (Nat.le_of_ble_eq_true rfl) dX10_busOf_32 (a_dR ?_) a_nR
      obtain ⟨g2, eg2⟩ : ∃ F : Nat → Nat → Int, F = ii_up g1 40 0 2 := ⟨_, rfl⟩
      rw [← eg2]
      refine a_goto (tgt := 44) C dX10_busOf_35 rfl ?_
      refine a_iret C ?_ (by decide) (by decide) dX10_busOf_44
      rw [hPost]
      subst eg2 eg1
      exact ⟨rfl, rfl, rfl, by first | rfl | rw [ii_up_up]⟩
  · skip
    omega
set_option maxRecDepth 20000 in
set_option maxHeartbeats 2000000 in
theorem n2_cancel {l : Launch} {E : ab_E} {base : Nat} (hl : l.stackTraces = false) {ad : Nat → Nat} (f : Nat → Nat → Int) (w : Nat × Nat × Int64 × UInt64) (r : Nat) (hr : (r : Int) < f 40 30) (hm : 0 ≤ f 40 30 ∧ f 40 30 ≤ 30) (hst : st_ok (f 63 r)) (h : f 63 r ≠ 119) : ab_M l E base yX10_cancel cX10_cancel 6 (some .int) 4 0 0 [.ref (ad 40), ii_v ((r : Nat) : Int)] ab_x4 ad (f, w) (ab_R (ii_v (0)) ab_x4 ad (ii_up f 40 0 2, w)) := by
  obtain ⟨Post, hPost⟩ : ∃ P : ab_P, P = (ab_R (ii_v (0)) ab_x4 ad (ii_up f 40 0 2, w)) := ⟨_, rfl⟩
  rw [← hPost]
  refine ab_of RX10 [(0, .ref (ad 40)), (1, ii_v ((r : Nat) : Int))] hl (by decide) rfl (Nat.le_of_ble_eq_true rfl) rfl ?_
  intro p e s m args below meth c C T0 hnm
  have hstb := st_b hst
  refine a_aload_n C dX10_cancel_0 rfl ?_
  refine a_iconst C dX10_cancel_1 ?_
  refine a_put (ci := 11) (i := 0) C iw_X10 rfl (by decide) rfl tyX10 tyX10_ok nmX10 rfl rfl fl_X10_114 rfl rfl rfl rfl dX10_cancel_2 ?_
  obtain ⟨g1, eg1⟩ : ∃ F : Nat → Nat → Int, F = ii_up f 40 0 0 := ⟨_, rfl⟩
  rw [← eg1]
  refine a_aload_n C dX10_cancel_5 rfl ?_
  refine a_iload_n C dX10_cancel_6 rfl ?_
  refine a_callV (o := 40) (As := [ii_v ((r : Nat) : Int)]) C (m_isRequest hl g1 w ((r : Nat) : Int) (by omega) (by rw [show g1 40 30 = f 40 30 from by rw [eg1]; exact ii_up_k _ _ (by decide)]; omega)) co_X10_isRequest in_X10 ml_X10_229 im_X10_isRequest se_X10_isRequest rfl rfl ar_X10_isRequest ⟨by decide, by decide, by decide, by decide⟩ rfl (Nat.le_of_ble_eq_true rfl) dX10_cancel_7 (a_dR ?_) a_nR
  rw [show g1 40 30 = f 40 30 from by rw [eg1]; exact ii_up_k _ _ (by decide)]
  refine a_bif_ne (tgt := 19) C dX10_cancel_10 rfl (fun h10 => ?_) (fun h10 => ?_)
  · skip
    refine a_aload_n C dX10_cancel_19 rfl ?_
    refine a_get (ci := 11) (i := 23) (v := .ref (ad 63)) C iw_X10 rfl (by decide) rfl fl_X10_76 rfl rfl dX10_cancel_20 ?_
    refine a_iload_n C dX10_cancel_23 rfl ?_
    refine a_cald (o := 63) (N := 31) r C dX10_cancel_24 rfl (by omega) (by omega) (by decide) ?_
    refine a_top (w := ii_v (g1 63 r)) rfl ?_
    refine a_top (w := ii_v (f 63 r)) (congrArg (fun q => ii_v q) (show g1 63 r = (f 63 r) by rw [eg1, ii_up_o _ _ _ (by omega)])) ?_
    refine a_bipush C dX10_cancel_25 (by decide) ?_
    refine a_icmp_eq (tgt := 36) C dX10_cancel_27 rfl (by unfold ii_B; omega) (by unfold ii_B; omega) (fun h27 => ?_) (fun h27 => ?_)
    · skip
      exact absurd h27 h
    · skip
      refine a_aload_n C dX10_cancel_30 rfl ?_
      refine a_iconst C dX10_cancel_31 ?_
      refine a_callV (o := 40) (As := [ii_v 2]) C (m_fails hl g1 w 2) co_X10_fails in_X10 ml_X10_127 im_X10_fails se_X10_fails rfl rfl ar_X10_fails ⟨by decide, by decide, by decide, by decide⟩ rfl (Nat.le_of_ble_eq_true rfl) dX10_cancel_32 (a_dR ?_) a_nR
      obtain ⟨g2, eg2⟩ : ∃ F : Nat → Nat → Int, F = ii_up g1 40 0 2 := ⟨_, rfl⟩
      rw [← eg2]
      refine a_iret C ?_ (by decide) (by decide) dX10_cancel_35
      rw [hPost]
      subst eg2 eg1
      exact ⟨rfl, rfl, rfl, by first | rfl | rw [ii_up_up]⟩
  · skip
    omega
set_option maxRecDepth 20000 in
set_option maxHeartbeats 2000000 in
theorem n2_pickupTime {l : Launch} {E : ab_E} {base : Nat} (hl : l.stackTraces = false) {ad : Nat → Nat} (f : Nat → Nat → Int) (w : Nat × Nat × Int64 × UInt64) (r : Nat) (hr : (r : Int) < f 40 30) (hm : 0 ≤ f 40 30 ∧ f 40 30 ≤ 30) (hst : st_ok (f 63 r)) (h : f 63 r = 120 ∨ f 63 r = 99) : ab_M l E base yX10_pickupTime cX10_pickupTime 2 (some .int) 4 0 0 [.ref (ad 40), ii_v ((r : Nat) : Int)] ab_x4 ad (f, w) (ab_R (ii_v (0)) ab_x4 ad (ii_up f 40 0 2, w)) := by
  obtain ⟨Post, hPost⟩ : ∃ P : ab_P, P = (ab_R (ii_v (0)) ab_x4 ad (ii_up f 40 0 2, w)) := ⟨_, rfl⟩
  rw [← hPost]
  refine ab_of RX10 [(0, .ref (ad 40)), (1, ii_v ((r : Nat) : Int))] hl (by decide) rfl (Nat.le_of_ble_eq_true rfl) rfl ?_
  intro p e s m args below meth c C T0 hnm
  have hstb := st_b hst
  refine a_aload_n C dX10_pickupTime_0 rfl ?_
  refine a_iconst C dX10_pickupTime_1 ?_
  refine a_put (ci := 11) (i := 0) C iw_X10 rfl (by decide) rfl tyX10 tyX10_ok nmX10 rfl rfl fl_X10_114 rfl rfl rfl rfl dX10_pickupTime_2 ?_
  obtain ⟨g1, eg1⟩ : ∃ F : Nat → Nat → Int, F = ii_up f 40 0 0 := ⟨_, rfl⟩
  rw [← eg1]
  refine a_aload_n C dX10_pickupTime_5 rfl ?_
  refine a_iload_n C dX10_pickupTime_6 rfl ?_
  refine a_callV (o := 40) (As := [ii_v ((r : Nat) : Int)]) C (m_isRequest hl g1 w ((r : Nat) : Int) (by omega) (by rw [show g1 40 30 = f 40 30 from by rw [eg1]; exact ii_up_k _ _ (by decide)]; omega)) co_X10_isRequest in_X10 ml_X10_229 im_X10_isRequest se_X10_isRequest rfl rfl ar_X10_isRequest ⟨by decide, by decide, by decide, by decide⟩ rfl (Nat.le_of_ble_eq_true rfl) dX10_pickupTime_7 (a_dR ?_) a_nR
  rw [show g1 40 30 = f 40 30 from by rw [eg1]; exact ii_up_k _ _ (by decide)]
  refine a_bif_ne (tgt := 19) C dX10_pickupTime_10 rfl (fun h10 => ?_) (fun h10 => ?_)
  · skip
    refine a_aload_n C dX10_pickupTime_19 rfl ?_
    refine a_get (ci := 11) (i := 23) (v := .ref (ad 63)) C iw_X10 rfl (by decide) rfl fl_X10_76 rfl rfl dX10_pickupTime_20 ?_
    refine a_iload_n C dX10_pickupTime_23 rfl ?_
    refine a_cald (o := 63) (N := 31) r C dX10_pickupTime_24 rfl (by omega) (by omega) (by decide) ?_
    refine a_top (w := ii_v (g1 63 r)) rfl ?_
    refine a_top (w := ii_v (f 63 r)) (congrArg (fun q => ii_v q) (show g1 63 r = (f 63 r) by rw [eg1, ii_up_o _ _ _ (by omega)])) ?_
    refine a_bipush C dX10_pickupTime_25 (by decide) ?_
    refine a_icmp_eq (tgt := 41) C dX10_pickupTime_27 rfl (by unfold ii_B; omega) (by unfold ii_B; omega) (fun h27 => ?_) (fun h27 => ?_)
    · skip
      refine a_aload_n C dX10_pickupTime_41 rfl ?_
      refine a_iconst C dX10_pickupTime_42 ?_
      refine a_callV (o := 40) (As := [ii_v 2]) C (m_fails hl g1 w 2) co_X10_fails in_X10 ml_X10_127 im_X10_fails se_X10_fails rfl rfl ar_X10_fails ⟨by decide, by decide, by decide, by decide⟩ rfl (Nat.le_of_ble_eq_true rfl) dX10_pickupTime_43 (a_dR ?_) a_nR
      obtain ⟨g2, eg2⟩ : ∃ F : Nat → Nat → Int, F = ii_up g1 40 0 2 := ⟨_, rfl⟩
      rw [← eg2]
      refine a_iret C ?_ (by decide) (by decide) dX10_pickupTime_46
      rw [hPost]
      subst eg2 eg1
      exact ⟨rfl, rfl, rfl, by first | rfl | rw [ii_up_up]⟩
    · skip
      refine a_aload_n C dX10_pickupTime_30 rfl ?_
      refine a_get (ci := 11) (i := 23) (v := .ref (ad 63)) C iw_X10 rfl (by decide) rfl fl_X10_76 rfl rfl dX10_pickupTime_31 ?_
      refine a_iload_n C dX10_pickupTime_34 rfl ?_
      refine a_cald (o := 63) (N := 31) r C dX10_pickupTime_35 rfl (by omega) (by omega) (by decide) ?_
      refine a_top (w := ii_v (g1 63 r)) rfl ?_
      refine a_top (w := ii_v (f 63 r)) (congrArg (fun q => ii_v q) (show g1 63 r = (f 63 r) by rw [eg1, ii_up_o _ _ _ (by omega)])) ?_
      refine a_bipush C dX10_pickupTime_36 (by decide) ?_
      refine a_icmp_ne (tgt := 47) C dX10_pickupTime_38 rfl (by unfold ii_B; omega) (by unfold ii_B; omega) (fun h38 => ?_) (fun h38 => ?_)
      · skip
        omega
      · skip
        refine a_aload_n C dX10_pickupTime_41 rfl ?_
        refine a_iconst C dX10_pickupTime_42 ?_
        refine a_callV (o := 40) (As := [ii_v 2]) C (m_fails hl g1 w 2) co_X10_fails in_X10 ml_X10_127 im_X10_fails se_X10_fails rfl rfl ar_X10_fails ⟨by decide, by decide, by decide, by decide⟩ rfl (Nat.le_of_ble_eq_true rfl) dX10_pickupTime_43 (a_dR ?_) a_nR
        obtain ⟨g3, eg3⟩ : ∃ F : Nat → Nat → Int, F = ii_up g1 40 0 2 := ⟨_, rfl⟩
        rw [← eg3]
        refine a_iret C ?_ (by decide) (by decide) dX10_pickupTime_46
        rw [hPost]
        subst eg3 eg1
        exact ⟨rfl, rfl, rfl, by first | rfl | rw [ii_up_up]⟩
  · skip
    omega
set_option maxRecDepth 20000 in
set_option maxHeartbeats 2000000 in
theorem n2_dropTime {l : Launch} {E : ab_E} {base : Nat} (hl : l.stackTraces = false) {ad : Nat → Nat} (f : Nat → Nat → Int) (w : Nat × Nat × Int64 × UInt64) (r : Nat) (hr : (r : Int) < f 40 30) (hm : 0 ≤ f 40 30 ∧ f 40 30 ≤ 30) (hst : st_ok (f 63 r)) (h : f 63 r = 120 ∨ f 63 r = 99) : ab_M l E base yX10_dropTime cX10_dropTime 2 (some .int) 4 0 0 [.ref (ad 40), ii_v ((r : Nat) : Int)] ab_x4 ad (f, w) (ab_R (ii_v (0)) ab_x4 ad (ii_up f 40 0 2, w)) := by
  obtain ⟨Post, hPost⟩ : ∃ P : ab_P, P = (ab_R (ii_v (0)) ab_x4 ad (ii_up f 40 0 2, w)) := ⟨_, rfl⟩
  rw [← hPost]
  refine ab_of RX10 [(0, .ref (ad 40)), (1, ii_v ((r : Nat) : Int))] hl (by decide) rfl (Nat.le_of_ble_eq_true rfl) rfl ?_
  intro p e s m args below meth c C T0 hnm
  have hstb := st_b hst
  refine a_aload_n C dX10_dropTime_0 rfl ?_
  refine a_iconst C dX10_dropTime_1 ?_
  refine a_put (ci := 11) (i := 0) C iw_X10 rfl (by decide) rfl tyX10 tyX10_ok nmX10 rfl rfl fl_X10_114 rfl rfl rfl rfl dX10_dropTime_2 ?_
  obtain ⟨g1, eg1⟩ : ∃ F : Nat → Nat → Int, F = ii_up f 40 0 0 := ⟨_, rfl⟩
  rw [← eg1]
  refine a_aload_n C dX10_dropTime_5 rfl ?_
  refine a_iload_n C dX10_dropTime_6 rfl ?_
  refine a_callV (o := 40) (As := [ii_v ((r : Nat) : Int)]) C (m_isRequest hl g1 w ((r : Nat) : Int) (by omega) (by rw [show g1 40 30 = f 40 30 from by rw [eg1]; exact ii_up_k _ _ (by decide)]; omega)) co_X10_isRequest in_X10 ml_X10_229 im_X10_isRequest se_X10_isRequest rfl rfl ar_X10_isRequest ⟨by decide, by decide, by decide, by decide⟩ rfl (Nat.le_of_ble_eq_true rfl) dX10_dropTime_7 (a_dR ?_) a_nR
  rw [show g1 40 30 = f 40 30 from by rw [eg1]; exact ii_up_k _ _ (by decide)]
  refine a_bif_ne (tgt := 19) C dX10_dropTime_10 rfl (fun h10 => ?_) (fun h10 => ?_)
  · skip
    refine a_aload_n C dX10_dropTime_19 rfl ?_
    refine a_get (ci := 11) (i := 23) (v := .ref (ad 63)) C iw_X10 rfl (by decide) rfl fl_X10_76 rfl rfl dX10_dropTime_20 ?_
    refine a_iload_n C dX10_dropTime_23 rfl ?_
    refine a_cald (o := 63) (N := 31) r C dX10_dropTime_24 rfl (by omega) (by omega) (by decide) ?_
    refine a_top (w := ii_v (g1 63 r)) rfl ?_
    refine a_top (w := ii_v (f 63 r)) (congrArg (fun q => ii_v q) (show g1 63 r = (f 63 r) by rw [eg1, ii_up_o _ _ _ (by omega)])) ?_
    refine a_bipush C dX10_dropTime_25 (by decide) ?_
    refine a_icmp_eq (tgt := 41) C dX10_dropTime_27 rfl (by unfold ii_B; omega) (by unfold ii_B; omega) (fun h27 => ?_) (fun h27 => ?_)
    · skip
      refine a_aload_n C dX10_dropTime_41 rfl ?_
      refine a_iconst C dX10_dropTime_42 ?_
      refine a_callV (o := 40) (As := [ii_v 2]) C (m_fails hl g1 w 2) co_X10_fails in_X10 ml_X10_127 im_X10_fails se_X10_fails rfl rfl ar_X10_fails ⟨by decide, by decide, by decide, by decide⟩ rfl (Nat.le_of_ble_eq_true rfl) dX10_dropTime_43 (a_dR ?_) a_nR
      obtain ⟨g2, eg2⟩ : ∃ F : Nat → Nat → Int, F = ii_up g1 40 0 2 := ⟨_, rfl⟩
      rw [← eg2]
      refine a_iret C ?_ (by decide) (by decide) dX10_dropTime_46
      rw [hPost]
      subst eg2 eg1
      exact ⟨rfl, rfl, rfl, by first | rfl | rw [ii_up_up]⟩
    · skip
      refine a_aload_n C dX10_dropTime_30 rfl ?_
      refine a_get (ci := 11) (i := 23) (v := .ref (ad 63)) C iw_X10 rfl (by decide) rfl fl_X10_76 rfl rfl dX10_dropTime_31 ?_
      refine a_iload_n C dX10_dropTime_34 rfl ?_
      refine a_cald (o := 63) (N := 31) r C dX10_dropTime_35 rfl (by omega) (by omega) (by decide) ?_
      refine a_top (w := ii_v (g1 63 r)) rfl ?_
      refine a_top (w := ii_v (f 63 r)) (congrArg (fun q => ii_v q) (show g1 63 r = (f 63 r) by rw [eg1, ii_up_o _ _ _ (by omega)])) ?_
      refine a_bipush C dX10_dropTime_36 (by decide) ?_
      refine a_icmp_ne (tgt := 47) C dX10_dropTime_38 rfl (by unfold ii_B; omega) (by unfold ii_B; omega) (fun h38 => ?_) (fun h38 => ?_)
      · skip
        omega
      · skip
        refine a_aload_n C dX10_dropTime_41 rfl ?_
        refine a_iconst C dX10_dropTime_42 ?_
        refine a_callV (o := 40) (As := [ii_v 2]) C (m_fails hl g1 w 2) co_X10_fails in_X10 ml_X10_127 im_X10_fails se_X10_fails rfl rfl ar_X10_fails ⟨by decide, by decide, by decide, by decide⟩ rfl (Nat.le_of_ble_eq_true rfl) dX10_dropTime_43 (a_dR ?_) a_nR
        obtain ⟨g3, eg3⟩ : ∃ F : Nat → Nat → Int, F = ii_up g1 40 0 2 := ⟨_, rfl⟩
        rw [← eg3]
        refine a_iret C ?_ (by decide) (by decide) dX10_dropTime_46
        rw [hPost]
        subst eg3 eg1
        exact ⟨rfl, rfl, rfl, by first | rfl | rw [ii_up_up]⟩
  · skip
    omega
set_option maxRecDepth 20000 in
set_option maxHeartbeats 2000000 in
theorem m_pickupTime2 {l : Launch} {E : ab_E} {base : Nat} (hl : l.stackTraces = false) {ad : Nat → Nat} (f : Nat → Nat → Int) (w : Nat × Nat × Int64 × UInt64) (r : Nat) (hr : (r : Int) < f 40 30) (hm : 0 ≤ f 40 30 ∧ f 40 30 ≤ 30) (hst : st_ok (f 63 r)) (h : f 63 r ≠ 120 ∧ f 63 r ≠ 99 ∧ f 63 r ≠ 119) : ab_M l E base yX10_pickupTime cX10_pickupTime 2 (some .int) 4 0 0 [.ref (ad 40), ii_v ((r : Nat) : Int)] ab_x4 ad (f, w) (ab_R (ii_v (f 61 r)) ab_x4 ad (ii_up f 40 0 0, w)) := by
  obtain ⟨Post, hPost⟩ : ∃ P : ab_P, P = (ab_R (ii_v (f 61 r)) ab_x4 ad (ii_up f 40 0 0, w)) := ⟨_, rfl⟩
  rw [← hPost]
  refine ab_of RX10 [(0, .ref (ad 40)), (1, ii_v ((r : Nat) : Int))] hl (by decide) rfl (Nat.le_of_ble_eq_true rfl) rfl ?_
  intro p e s m args below meth c C T0 hnm
  have hstb := st_b hst
  refine a_aload_n C dX10_pickupTime_0 rfl ?_
  refine a_iconst C dX10_pickupTime_1 ?_
  refine a_put (ci := 11) (i := 0) C iw_X10 rfl (by decide) rfl tyX10 tyX10_ok nmX10 rfl rfl fl_X10_114 rfl rfl rfl rfl dX10_pickupTime_2 ?_
  obtain ⟨g1, eg1⟩ : ∃ F : Nat → Nat → Int, F = ii_up f 40 0 0 := ⟨_, rfl⟩
  rw [← eg1]
  refine a_aload_n C dX10_pickupTime_5 rfl ?_
  refine a_iload_n C dX10_pickupTime_6 rfl ?_
  refine a_callV (o := 40) (As := [ii_v ((r : Nat) : Int)]) C (m_isRequest hl g1 w ((r : Nat) : Int) (by omega) (by rw [show g1 40 30 = f 40 30 from by rw [eg1]; exact ii_up_k _ _ (by decide)]; omega)) co_X10_isRequest in_X10 ml_X10_229 im_X10_isRequest se_X10_isRequest rfl rfl ar_X10_isRequest ⟨by decide, by decide, by decide, by decide⟩ rfl (Nat.le_of_ble_eq_true rfl) dX10_pickupTime_7 (a_dR ?_) a_nR
  rw [show g1 40 30 = f 40 30 from by rw [eg1]; exact ii_up_k _ _ (by decide)]
  refine a_bif_ne (tgt := 19) C dX10_pickupTime_10 rfl (fun h10 => ?_) (fun h10 => ?_)
  · skip
    refine a_aload_n C dX10_pickupTime_19 rfl ?_
    refine a_get (ci := 11) (i := 23) (v := .ref (ad 63)) C iw_X10 rfl (by decide) rfl fl_X10_76 rfl rfl dX10_pickupTime_20 ?_
    refine a_iload_n C dX10_pickupTime_23 rfl ?_
    refine a_cald (o := 63) (N := 31) r C dX10_pickupTime_24 rfl (by omega) (by omega) (by decide) ?_
    refine a_top (w := ii_v (g1 63 r)) rfl ?_
    refine a_top (w := ii_v (f 63 r)) (congrArg (fun q => ii_v q) (show g1 63 r = (f 63 r) by rw [eg1, ii_up_o _ _ _ (by omega)])) ?_
    refine a_bipush C dX10_pickupTime_25 (by decide) ?_
    refine a_icmp_eq (tgt := 41) C dX10_pickupTime_27 rfl (by unfold ii_B; omega) (by unfold ii_B; omega) (fun h27 => ?_) (fun h27 => ?_)
    · skip
      omega
    · skip
      refine a_aload_n C dX10_pickupTime_30 rfl ?_
      refine a_get (ci := 11) (i := 23) (v := .ref (ad 63)) C iw_X10 rfl (by decide) rfl fl_X10_76 rfl rfl dX10_pickupTime_31 ?_
      refine a_iload_n C dX10_pickupTime_34 rfl ?_
      refine a_cald (o := 63) (N := 31) r C dX10_pickupTime_35 rfl (by omega) (by omega) (by decide) ?_
      refine a_top (w := ii_v (g1 63 r)) rfl ?_
      refine a_top (w := ii_v (f 63 r)) (congrArg (fun q => ii_v q) (show g1 63 r = (f 63 r) by rw [eg1, ii_up_o _ _ _ (by omega)])) ?_
      refine a_bipush C dX10_pickupTime_36 (by decide) ?_
      refine a_icmp_ne (tgt := 47) C dX10_pickupTime_38 rfl (by unfold ii_B; omega) (by unfold ii_B; omega) (fun h38 => ?_) (fun h38 => ?_)
      · skip
        refine a_aload_n C dX10_pickupTime_47 rfl ?_
        refine a_get (ci := 11) (i := 23) (v := .ref (ad 63)) C iw_X10 rfl (by decide) rfl fl_X10_76 rfl rfl dX10_pickupTime_48 ?_
        refine a_iload_n C dX10_pickupTime_51 rfl ?_
        refine a_cald (o := 63) (N := 31) r C dX10_pickupTime_52 rfl (by omega) (by omega) (by decide) ?_
        refine a_top (w := ii_v (g1 63 r)) rfl ?_
        refine a_top (w := ii_v (f 63 r)) (congrArg (fun q => ii_v q) (show g1 63 r = (f 63 r) by rw [eg1, ii_up_o _ _ _ (by omega)])) ?_
        refine a_bipush C dX10_pickupTime_53 (by decide) ?_
        refine a_icmp_ne (tgt := 68) C dX10_pickupTime_55 rfl (by unfold ii_B; omega) (by unfold ii_B; omega) (fun h55 => ?_) (fun h55 => ?_)
        · skip
          refine a_aload_n C dX10_pickupTime_68 rfl ?_
          refine a_get (ci := 11) (i := 21) (v := .ref (ad 61)) C iw_X10 rfl (by decide) rfl fl_X10_70 rfl rfl dX10_pickupTime_69 ?_
          refine a_iload_n C dX10_pickupTime_72 rfl ?_
          refine a_iald (o := 61) (N := 31) r C dX10_pickupTime_73 rfl (by omega) (by omega) (by decide) ?_
          refine a_top (w := ii_v (g1 61 r)) rfl ?_
          refine a_top (w := ii_v (f 61 r)) (congrArg (fun q => ii_v q) (show g1 61 r = (f 61 r) by rw [eg1, ii_up_o _ _ _ (by omega)])) ?_
          refine a_iret C ?_ (by decide) (by decide) dX10_pickupTime_74
          rw [hPost]
          subst eg1
          exact ⟨rfl, rfl, rfl, by first | rfl | rw [ii_up_up]⟩
        · skip
          omega
      · skip
        omega
  · skip
    omega
set_option maxRecDepth 20000 in
set_option maxHeartbeats 2000000 in
theorem m_dropTime {l : Launch} {E : ab_E} {base : Nat} (hl : l.stackTraces = false) {ad : Nat → Nat} (f : Nat → Nat → Int) (w : Nat × Nat × Int64 × UInt64) (r : Nat) (hr : (r : Int) < f 40 30) (hm : 0 ≤ f 40 30 ∧ f 40 30 ≤ 30) (hst : st_ok (f 63 r)) (h : f 63 r = 100) : ab_M l E base yX10_dropTime cX10_dropTime 2 (some .int) 4 0 0 [.ref (ad 40), ii_v ((r : Nat) : Int)] ab_x4 ad (f, w) (ab_R (ii_v (f 62 r)) ab_x4 ad (ii_up f 40 0 0, w)) := by
  obtain ⟨Post, hPost⟩ : ∃ P : ab_P, P = (ab_R (ii_v (f 62 r)) ab_x4 ad (ii_up f 40 0 0, w)) := ⟨_, rfl⟩
  rw [← hPost]
  refine ab_of RX10 [(0, .ref (ad 40)), (1, ii_v ((r : Nat) : Int))] hl (by decide) rfl (Nat.le_of_ble_eq_true rfl) rfl ?_
  intro p e s m args below meth c C T0 hnm
  have hstb := st_b hst
  refine a_aload_n C dX10_dropTime_0 rfl ?_
  refine a_iconst C dX10_dropTime_1 ?_
  refine a_put (ci := 11) (i := 0) C iw_X10 rfl (by decide) rfl tyX10 tyX10_ok nmX10 rfl rfl fl_X10_114 rfl rfl rfl rfl dX10_dropTime_2 ?_
  obtain ⟨g1, eg1⟩ : ∃ F : Nat → Nat → Int, F = ii_up f 40 0 0 := ⟨_, rfl⟩
  rw [← eg1]
  refine a_aload_n C dX10_dropTime_5 rfl ?_
  refine a_iload_n C dX10_dropTime_6 rfl ?_
  refine a_callV (o := 40) (As := [ii_v ((r : Nat) : Int)]) C (m_isRequest hl g1 w ((r : Nat) : Int) (by omega) (by rw [show g1 40 30 = f 40 30 from by rw [eg1]; exact ii_up_k _ _ (by decide)]; omega)) co_X10_isRequest in_X10 ml_X10_229 im_X10_isRequest se_X10_isRequest rfl rfl ar_X10_isRequest ⟨by decide, by decide, by decide, by decide⟩ rfl (Nat.le_of_ble_eq_true rfl) dX10_dropTime_7 (a_dR ?_) a_nR
  rw [show g1 40 30 = f 40 30 from by rw [eg1]; exact ii_up_k _ _ (by decide)]
  refine a_bif_ne (tgt := 19) C dX10_dropTime_10 rfl (fun h10 => ?_) (fun h10 => ?_)
  · skip
    refine a_aload_n C dX10_dropTime_19 rfl ?_
    refine a_get (ci := 11) (i := 23) (v := .ref (ad 63)) C iw_X10 rfl (by decide) rfl fl_X10_76 rfl rfl dX10_dropTime_20 ?_
    refine a_iload_n C dX10_dropTime_23 rfl ?_
    refine a_cald (o := 63) (N := 31) r C dX10_dropTime_24 rfl (by omega) (by omega) (by decide) ?_
    refine a_top (w := ii_v (g1 63 r)) rfl ?_
    refine a_top (w := ii_v (f 63 r)) (congrArg (fun q => ii_v q) (show g1 63 r = (f 63 r) by rw [eg1, ii_up_o _ _ _ (by omega)])) ?_
    refine a_bipush C dX10_dropTime_25 (by decide) ?_
    refine a_icmp_eq (tgt := 41) C dX10_dropTime_27 rfl (by unfold ii_B; omega) (by unfold ii_B; omega) (fun h27 => ?_) (fun h27 => ?_)
    · skip
      omega
    · skip
      refine a_aload_n C dX10_dropTime_30 rfl ?_
      refine a_get (ci := 11) (i := 23) (v := .ref (ad 63)) C iw_X10 rfl (by decide) rfl fl_X10_76 rfl rfl dX10_dropTime_31 ?_
      refine a_iload_n C dX10_dropTime_34 rfl ?_
      refine a_cald (o := 63) (N := 31) r C dX10_dropTime_35 rfl (by omega) (by omega) (by decide) ?_
      refine a_top (w := ii_v (g1 63 r)) rfl ?_
      refine a_top (w := ii_v (f 63 r)) (congrArg (fun q => ii_v q) (show g1 63 r = (f 63 r) by rw [eg1, ii_up_o _ _ _ (by omega)])) ?_
      refine a_bipush C dX10_dropTime_36 (by decide) ?_
      refine a_icmp_ne (tgt := 47) C dX10_dropTime_38 rfl (by unfold ii_B; omega) (by unfold ii_B; omega) (fun h38 => ?_) (fun h38 => ?_)
      · skip
        refine a_aload_n C dX10_dropTime_47 rfl ?_
        refine a_get (ci := 11) (i := 23) (v := .ref (ad 63)) C iw_X10 rfl (by decide) rfl fl_X10_76 rfl rfl dX10_dropTime_48 ?_
        refine a_iload_n C dX10_dropTime_51 rfl ?_
        refine a_cald (o := 63) (N := 31) r C dX10_dropTime_52 rfl (by omega) (by omega) (by decide) ?_
        refine a_top (w := ii_v (g1 63 r)) rfl ?_
        refine a_top (w := ii_v (f 63 r)) (congrArg (fun q => ii_v q) (show g1 63 r = (f 63 r) by rw [eg1, ii_up_o _ _ _ (by omega)])) ?_
        refine a_bipush C dX10_dropTime_53 (by decide) ?_
        refine a_icmp_ne (tgt := 67) C dX10_dropTime_55 rfl (by unfold ii_B; omega) (by unfold ii_B; omega) (fun h55 => ?_) (fun h55 => ?_)
        · skip
          omega
        · skip
          refine a_aload_n C dX10_dropTime_58 rfl ?_
          refine a_get (ci := 11) (i := 22) (v := .ref (ad 62)) C iw_X10 rfl (by decide) rfl fl_X10_73 rfl rfl dX10_dropTime_59 ?_
          refine a_iload_n C dX10_dropTime_62 rfl ?_
          refine a_iald (o := 62) (N := 31) r C dX10_dropTime_63 rfl (by omega) (by omega) (by decide) ?_
          refine a_top (w := ii_v (g1 62 r)) rfl ?_
          refine a_top (w := ii_v (f 62 r)) (congrArg (fun q => ii_v q) (show g1 62 r = (f 62 r) by rw [eg1, ii_up_o _ _ _ (by omega)])) ?_
          refine a_goto (tgt := 76) C dX10_dropTime_64 rfl ?_
          refine a_iret C ?_ (by decide) (by decide) dX10_dropTime_76
          rw [hPost]
          subst eg1
          exact ⟨rfl, rfl, rfl, by first | rfl | rw [ii_up_up]⟩
      · skip
        omega
  · skip
    omega
set_option maxRecDepth 20000 in
set_option maxHeartbeats 2000000 in
theorem m_requests {l : Launch} {E : ab_E} {base : Nat} (hl : l.stackTraces = false) {ad : Nat → Nat} (f : Nat → Nat → Int) (w : Nat × Nat × Int64 × UInt64)  : ab_M l E base yX10_requests cX10_requests 1 (some .int) 1 0 0 [.ref (ad 40)] ab_x4 ad (f, w) (ab_R (ii_v (f 40 30)) ab_x4 ad (ii_up f 40 0 0, w)) := by
  obtain ⟨Post, hPost⟩ : ∃ P : ab_P, P = (ab_R (ii_v (f 40 30)) ab_x4 ad (ii_up f 40 0 0, w)) := ⟨_, rfl⟩
  rw [← hPost]
  refine ab_of RX10 [(0, .ref (ad 40))] hl (by decide) rfl (Nat.le_of_ble_eq_true rfl) rfl ?_
  intro p e s m args below meth c C T0 hnm
  refine a_aload_n C dX10_requests_0 rfl ?_
  refine a_iconst C dX10_requests_1 ?_
  refine a_put (ci := 11) (i := 0) C iw_X10 rfl (by decide) rfl tyX10 tyX10_ok nmX10 rfl rfl fl_X10_114 rfl rfl rfl rfl dX10_requests_2 ?_
  obtain ⟨g1, eg1⟩ : ∃ F : Nat → Nat → Int, F = ii_up f 40 0 0 := ⟨_, rfl⟩
  rw [← eg1]
  refine a_aload_n C dX10_requests_5 rfl ?_
  refine a_get (ci := 11) (i := 30) (v := ii_v (g1 40 30)) C iw_X10 rfl (by decide) rfl fl_X10_124 rfl rfl dX10_requests_6 ?_
  refine a_top (w := ii_v (f 40 30)) (congrArg (fun q => ii_v q) (show g1 40 30 = (f 40 30) by rw [eg1, ii_up_k _ _ (by first | decide | omega)])) ?_
  refine a_iret C ?_ (by decide) (by decide) dX10_requests_9
  rw [hPost]
  subst eg1
  exact ⟨rfl, rfl, rfl, by first | rfl | rw [ii_up_up]⟩
set_option maxRecDepth 20000 in
set_option maxHeartbeats 2000000 in
theorem m_entries {l : Launch} {E : ab_E} {base : Nat} (hl : l.stackTraces = false) {ad : Nat → Nat} (f : Nat → Nat → Int) (w : Nat × Nat × Int64 × UInt64)  : ab_M l E base yX10_entries cX10_entries 1 (some .int) 1 0 0 [.ref (ad 40)] ab_x4 ad (f, w) (ab_R (ii_v (f 40 31)) ab_x4 ad (ii_up f 40 0 0, w)) := by
  obtain ⟨Post, hPost⟩ : ∃ P : ab_P, P = (ab_R (ii_v (f 40 31)) ab_x4 ad (ii_up f 40 0 0, w)) := ⟨_, rfl⟩
  rw [← hPost]
  refine ab_of RX10 [(0, .ref (ad 40))] hl (by decide) rfl (Nat.le_of_ble_eq_true rfl) rfl ?_
  intro p e s m args below meth c C T0 hnm
  refine a_aload_n C dX10_entries_0 rfl ?_
  refine a_iconst C dX10_entries_1 ?_
  refine a_put (ci := 11) (i := 0) C iw_X10 rfl (by decide) rfl tyX10 tyX10_ok nmX10 rfl rfl fl_X10_114 rfl rfl rfl rfl dX10_entries_2 ?_
  obtain ⟨g1, eg1⟩ : ∃ F : Nat → Nat → Int, F = ii_up f 40 0 0 := ⟨_, rfl⟩
  rw [← eg1]
  refine a_aload_n C dX10_entries_5 rfl ?_
  refine a_get (ci := 11) (i := 31) (v := ii_v (g1 40 31)) C iw_X10 rfl (by decide) rfl fl_X10_202 rfl rfl dX10_entries_6 ?_
  refine a_top (w := ii_v (f 40 31)) (congrArg (fun q => ii_v q) (show g1 40 31 = (f 40 31) by rw [eg1, ii_up_k _ _ (by first | decide | omega)])) ?_
  refine a_iret C ?_ (by decide) (by decide) dX10_entries_9
  rw [hPost]
  subst eg1
  exact ⟨rfl, rfl, rfl, by first | rfl | rw [ii_up_up]⟩
set_option maxRecDepth 20000 in
set_option maxHeartbeats 2000000 in
theorem m_now {l : Launch} {E : ab_E} {base : Nat} (hl : l.stackTraces = false) {ad : Nat → Nat} (f : Nat → Nat → Int) (w : Nat × Nat × Int64 × UInt64)  : ab_M l E base yX10_now cX10_now 1 (some .int) 1 0 0 [.ref (ad 40)] ab_x4 ad (f, w) (ab_R (ii_v (f 40 32)) ab_x4 ad (ii_up f 40 0 0, w)) := by
  obtain ⟨Post, hPost⟩ : ∃ P : ab_P, P = (ab_R (ii_v (f 40 32)) ab_x4 ad (ii_up f 40 0 0, w)) := ⟨_, rfl⟩
  rw [← hPost]
  refine ab_of RX10 [(0, .ref (ad 40))] hl (by decide) rfl (Nat.le_of_ble_eq_true rfl) rfl ?_
  intro p e s m args below meth c C T0 hnm
  refine a_aload_n C dX10_now_0 rfl ?_
  refine a_iconst C dX10_now_1 ?_
  refine a_put (ci := 11) (i := 0) C iw_X10 rfl (by decide) rfl tyX10 tyX10_ok nmX10 rfl rfl fl_X10_114 rfl rfl rfl rfl dX10_now_2 ?_
  obtain ⟨g1, eg1⟩ : ∃ F : Nat → Nat → Int, F = ii_up f 40 0 0 := ⟨_, rfl⟩
  rw [← eg1]
  refine a_aload_n C dX10_now_5 rfl ?_
  refine a_get (ci := 11) (i := 32) (v := ii_v (g1 40 32)) C iw_X10 rfl (by decide) rfl fl_X10_157 rfl rfl dX10_now_6 ?_
  refine a_top (w := ii_v (f 40 32)) (congrArg (fun q => ii_v q) (show g1 40 32 = (f 40 32) by rw [eg1, ii_up_k _ _ (by first | decide | omega)])) ?_
  refine a_iret C ?_ (by decide) (by decide) dX10_now_9
  rw [hPost]
  subst eg1
  exact ⟨rfl, rfl, rfl, by first | rfl | rw [ii_up_up]⟩
set_option maxRecDepth 20000 in
set_option maxHeartbeats 2000000 in
theorem m_thrown {l : Launch} {E : ab_E} {base : Nat} (hl : l.stackTraces = false) {ad : Nat → Nat} (f : Nat → Nat → Int) (w : Nat × Nat × Int64 × UInt64)  : ab_M l E base yX10_thrown cX10_thrown 1 (some .int) 1 0 0 [.ref (ad 40)] ab_x4 ad (f, w) (ab_R (ii_v (f 40 0)) ab_x4 ad (f, w)) := by
  obtain ⟨Post, hPost⟩ : ∃ P : ab_P, P = (ab_R (ii_v (f 40 0)) ab_x4 ad (f, w)) := ⟨_, rfl⟩
  rw [← hPost]
  refine ab_of RX10 [(0, .ref (ad 40))] hl (by decide) rfl (Nat.le_of_ble_eq_true rfl) rfl ?_
  intro p e s m args below meth c C T0 hnm
  refine a_aload_n C dX10_thrown_0 rfl ?_
  refine a_get (ci := 11) (i := 0) (v := ii_v (f 40 0)) C iw_X10 rfl (by decide) rfl fl_X10_114 rfl rfl dX10_thrown_1 ?_
  refine a_iret C ?_ (by decide) (by decide) dX10_thrown_4
  rw [hPost]
  exact ⟨rfl, rfl, rfl, rfl⟩
set_option maxRecDepth 20000 in
set_option maxHeartbeats 2000000 in
theorem m_setDetour {l : Launch} {E : ab_E} {base : Nat} (hl : l.stackTraces = false) {ad : Nat → Nat} (f : Nat → Nat → Int) (w : Nat × Nat × Int64 × UInt64) (i : Int) (zi : -2147483648 ≤ i ∧ i < 2147483648) (h : 0 ≤ i ∧ i ≤ 200) : ab_M l E base yX10_setDetour cX10_setDetour 3 (some .int) 3 0 0 [.ref (ad 40), ii_v i] ab_x4 ad (f, w) (ab_R (ii_v (f 40 33)) ab_x4 ad (ii_up (ii_up f 40 0 0) 40 33 i, w)) := by
  obtain ⟨Post, hPost⟩ : ∃ P : ab_P, P = (ab_R (ii_v (f 40 33)) ab_x4 ad (ii_up (ii_up f 40 0 0) 40 33 i, w)) := ⟨_, rfl⟩
  rw [← hPost]
  refine ab_of RX10 [(0, .ref (ad 40)), (1, ii_v i)] hl (by decide) rfl (Nat.le_of_ble_eq_true rfl) rfl ?_
  intro p e s m args below meth c C T0 hnm
  refine a_aload_n C dX10_setDetour_0 rfl ?_
  refine a_iconst C dX10_setDetour_1 ?_
  refine a_put (ci := 11) (i := 0) C iw_X10 rfl (by decide) rfl tyX10 tyX10_ok nmX10 rfl rfl fl_X10_114 rfl rfl rfl rfl dX10_setDetour_2 ?_
  obtain ⟨g1, eg1⟩ : ∃ F : Nat → Nat → Int, F = ii_up f 40 0 0 := ⟨_, rfl⟩
  rw [← eg1]
  refine a_iload_n C dX10_setDetour_5 rfl ?_
  refine a_iconst C dX10_setDetour_6 ?_
  refine a_sipush C dX10_setDetour_7 (by decide) ?_
  refine a_callS (As := [ii_v i, ii_v 0, ii_v 200]) C (m_isBetween hl g1 w i 0 200 (by omega) (by omega) (by omega)) co_X10_isBetween in_X10 ml_X10_120 sc_X10_isBetween ar_X10_isBetween ⟨by decide, by decide, by decide, by decide⟩ rfl (Nat.le_of_ble_eq_true rfl) dX10_setDetour_10 (a_dR ?_) a_nR
  refine a_bif_ne (tgt := 22) C dX10_setDetour_13 rfl (fun h13 => ?_) (fun h13 => ?_)
  · skip
    refine a_aload_n C dX10_setDetour_22 rfl ?_
    refine a_get (ci := 11) (i := 33) (v := ii_v (g1 40 33)) C iw_X10 rfl (by decide) rfl fl_X10_95 rfl rfl dX10_setDetour_23 ?_
    refine a_top (w := ii_v (f 40 33)) (congrArg (fun q => ii_v q) (show g1 40 33 = (f 40 33) by rw [eg1, ii_up_k _ _ (by first | decide | omega)])) ?_
    refine a_istore_n (L' := [(0, .ref (ad 40)), (1, ii_v i), (2, ii_v (f 40 33))]) C dX10_setDetour_26 (by decide) rfl ?_
    refine a_aload_n C dX10_setDetour_27 rfl ?_
    refine a_iload_n C dX10_setDetour_28 rfl ?_
    refine a_put (ci := 11) (i := 33) C iw_X10 rfl (by decide) rfl tyX10 tyX10_ok nmX10 rfl rfl fl_X10_95 rfl rfl rfl rfl dX10_setDetour_29 ?_
    obtain ⟨g2, eg2⟩ : ∃ F : Nat → Nat → Int, F = ii_up g1 40 33 i := ⟨_, rfl⟩
    rw [← eg2]
    refine a_iload_n C dX10_setDetour_32 rfl ?_
    refine a_iret C ?_ (by decide) (by decide) dX10_setDetour_33
    rw [hPost]
    subst eg2 eg1
    exact ⟨rfl, rfl, rfl, by first | rfl | rw [ii_up_up]⟩
  · skip
    exact absurd h h13
set_option maxRecDepth 20000 in
set_option maxHeartbeats 2000000 in
theorem n_setDetour {l : Launch} {E : ab_E} {base : Nat} (hl : l.stackTraces = false) {ad : Nat → Nat} (f : Nat → Nat → Int) (w : Nat × Nat × Int64 × UInt64) (i : Int) (zi : -2147483648 ≤ i ∧ i < 2147483648) (h : ¬ (0 ≤ i ∧ i ≤ 200)) : ab_M l E base yX10_setDetour cX10_setDetour 3 (some .int) 3 0 0 [.ref (ad 40), ii_v i] ab_x4 ad (f, w) (ab_R (ii_v (0)) ab_x4 ad (ii_up f 40 0 1, w)) := by
  obtain ⟨Post, hPost⟩ : ∃ P : ab_P, P = (ab_R (ii_v (0)) ab_x4 ad (ii_up f 40 0 1, w)) := ⟨_, rfl⟩
  rw [← hPost]
  refine ab_of RX10 [(0, .ref (ad 40)), (1, ii_v i)] hl (by decide) rfl (Nat.le_of_ble_eq_true rfl) rfl ?_
  intro p e s m args below meth c C T0 hnm
  refine a_aload_n C dX10_setDetour_0 rfl ?_
  refine a_iconst C dX10_setDetour_1 ?_
  refine a_put (ci := 11) (i := 0) C iw_X10 rfl (by decide) rfl tyX10 tyX10_ok nmX10 rfl rfl fl_X10_114 rfl rfl rfl rfl dX10_setDetour_2 ?_
  obtain ⟨g1, eg1⟩ : ∃ F : Nat → Nat → Int, F = ii_up f 40 0 0 := ⟨_, rfl⟩
  rw [← eg1]
  refine a_iload_n C dX10_setDetour_5 rfl ?_
  refine a_iconst C dX10_setDetour_6 ?_
  refine a_sipush C dX10_setDetour_7 (by decide) ?_
  refine a_callS (As := [ii_v i, ii_v 0, ii_v 200]) C (m_isBetween hl g1 w i 0 200 (by omega) (by omega) (by omega)) co_X10_isBetween in_X10 ml_X10_120 sc_X10_isBetween ar_X10_isBetween ⟨by decide, by decide, by decide, by decide⟩ rfl (Nat.le_of_ble_eq_true rfl) dX10_setDetour_10 (a_dR ?_) a_nR
  refine a_bif_ne (tgt := 22) C dX10_setDetour_13 rfl (fun h13 => ?_) (fun h13 => ?_)
  · skip
    exact absurd h13 h
  · skip
    refine a_aload_n C dX10_setDetour_16 rfl ?_
    refine a_iconst C dX10_setDetour_17 ?_
    refine a_callV (o := 40) (As := [ii_v 1]) C (m_fails hl g1 w 1) co_X10_fails in_X10 ml_X10_127 im_X10_fails se_X10_fails rfl rfl ar_X10_fails ⟨by decide, by decide, by decide, by decide⟩ rfl (Nat.le_of_ble_eq_true rfl) dX10_setDetour_18 (a_dR ?_) a_nR
    obtain ⟨g2, eg2⟩ : ∃ F : Nat → Nat → Int, F = ii_up g1 40 0 1 := ⟨_, rfl⟩
    rw [← eg2]
    refine a_iret C ?_ (by decide) (by decide) dX10_setDetour_21
    rw [hPost]
    subst eg2 eg1
    exact ⟨rfl, rfl, rfl, by first | rfl | rw [ii_up_up]⟩
set_option maxRecDepth 20000 in
set_option maxHeartbeats 2000000 in
theorem m_setWait {l : Launch} {E : ab_E} {base : Nat} (hl : l.stackTraces = false) {ad : Nat → Nat} (f : Nat → Nat → Int) (w : Nat × Nat × Int64 × UInt64) (i : Int) (zi : -2147483648 ≤ i ∧ i < 2147483648) (h : 0 ≤ i ∧ i ≤ 60) : ab_M l E base yX10_setWait cX10_setWait 3 (some .int) 3 0 0 [.ref (ad 40), ii_v i] ab_x4 ad (f, w) (ab_R (ii_v (f 40 34)) ab_x4 ad (ii_up (ii_up f 40 0 0) 40 34 i, w)) := by
  obtain ⟨Post, hPost⟩ : ∃ P : ab_P, P = (ab_R (ii_v (f 40 34)) ab_x4 ad (ii_up (ii_up f 40 0 0) 40 34 i, w)) := ⟨_, rfl⟩
  rw [← hPost]
  refine ab_of RX10 [(0, .ref (ad 40)), (1, ii_v i)] hl (by decide) rfl (Nat.le_of_ble_eq_true rfl) rfl ?_
  intro p e s m args below meth c C T0 hnm
  refine a_aload_n C dX10_setWait_0 rfl ?_
  refine a_iconst C dX10_setWait_1 ?_
  refine a_put (ci := 11) (i := 0) C iw_X10 rfl (by decide) rfl tyX10 tyX10_ok nmX10 rfl rfl fl_X10_114 rfl rfl rfl rfl dX10_setWait_2 ?_
  obtain ⟨g1, eg1⟩ : ∃ F : Nat → Nat → Int, F = ii_up f 40 0 0 := ⟨_, rfl⟩
  rw [← eg1]
  refine a_iload_n C dX10_setWait_5 rfl ?_
  refine a_iconst C dX10_setWait_6 ?_
  refine a_bipush C dX10_setWait_7 (by decide) ?_
  refine a_callS (As := [ii_v i, ii_v 0, ii_v 60]) C (m_isBetween hl g1 w i 0 60 (by omega) (by omega) (by omega)) co_X10_isBetween in_X10 ml_X10_120 sc_X10_isBetween ar_X10_isBetween ⟨by decide, by decide, by decide, by decide⟩ rfl (Nat.le_of_ble_eq_true rfl) dX10_setWait_9 (a_dR ?_) a_nR
  refine a_bif_ne (tgt := 21) C dX10_setWait_12 rfl (fun h12 => ?_) (fun h12 => ?_)
  · skip
    refine a_aload_n C dX10_setWait_21 rfl ?_
    refine a_get (ci := 11) (i := 34) (v := ii_v (g1 40 34)) C iw_X10 rfl (by decide) rfl fl_X10_99 rfl rfl dX10_setWait_22 ?_
    refine a_top (w := ii_v (f 40 34)) (congrArg (fun q => ii_v q) (show g1 40 34 = (f 40 34) by rw [eg1, ii_up_k _ _ (by first | decide | omega)])) ?_
    refine a_istore_n (L' := [(0, .ref (ad 40)), (1, ii_v i), (2, ii_v (f 40 34))]) C dX10_setWait_25 (by decide) rfl ?_
    refine a_aload_n C dX10_setWait_26 rfl ?_
    refine a_iload_n C dX10_setWait_27 rfl ?_
    refine a_put (ci := 11) (i := 34) C iw_X10 rfl (by decide) rfl tyX10 tyX10_ok nmX10 rfl rfl fl_X10_99 rfl rfl rfl rfl dX10_setWait_28 ?_
    obtain ⟨g2, eg2⟩ : ∃ F : Nat → Nat → Int, F = ii_up g1 40 34 i := ⟨_, rfl⟩
    rw [← eg2]
    refine a_iload_n C dX10_setWait_31 rfl ?_
    refine a_iret C ?_ (by decide) (by decide) dX10_setWait_32
    rw [hPost]
    subst eg2 eg1
    exact ⟨rfl, rfl, rfl, by first | rfl | rw [ii_up_up]⟩
  · skip
    exact absurd h h12
set_option maxRecDepth 20000 in
set_option maxHeartbeats 2000000 in
theorem n_setWait {l : Launch} {E : ab_E} {base : Nat} (hl : l.stackTraces = false) {ad : Nat → Nat} (f : Nat → Nat → Int) (w : Nat × Nat × Int64 × UInt64) (i : Int) (zi : -2147483648 ≤ i ∧ i < 2147483648) (h : ¬ (0 ≤ i ∧ i ≤ 60)) : ab_M l E base yX10_setWait cX10_setWait 3 (some .int) 3 0 0 [.ref (ad 40), ii_v i] ab_x4 ad (f, w) (ab_R (ii_v (0)) ab_x4 ad (ii_up f 40 0 1, w)) := by
  obtain ⟨Post, hPost⟩ : ∃ P : ab_P, P = (ab_R (ii_v (0)) ab_x4 ad (ii_up f 40 0 1, w)) := ⟨_, rfl⟩
  rw [← hPost]
  refine ab_of RX10 [(0, .ref (ad 40)), (1, ii_v i)] hl (by decide) rfl (Nat.le_of_ble_eq_true rfl) rfl ?_
  intro p e s m args below meth c C T0 hnm
  refine a_aload_n C dX10_setWait_0 rfl ?_
  refine a_iconst C dX10_setWait_1 ?_
  refine a_put (ci := 11) (i := 0) C iw_X10 rfl (by decide) rfl tyX10 tyX10_ok nmX10 rfl rfl fl_X10_114 rfl rfl rfl rfl dX10_setWait_2 ?_
  obtain ⟨g1, eg1⟩ : ∃ F : Nat → Nat → Int, F = ii_up f 40 0 0 := ⟨_, rfl⟩
  rw [← eg1]
  refine a_iload_n C dX10_setWait_5 rfl ?_
  refine a_iconst C dX10_setWait_6 ?_
  refine a_bipush C dX10_setWait_7 (by decide) ?_
  refine a_callS (As := [ii_v i, ii_v 0, ii_v 60]) C (m_isBetween hl g1 w i 0 60 (by omega) (by omega) (by omega)) co_X10_isBetween in_X10 ml_X10_120 sc_X10_isBetween ar_X10_isBetween ⟨by decide, by decide, by decide, by decide⟩ rfl (Nat.le_of_ble_eq_true rfl) dX10_setWait_9 (a_dR ?_) a_nR
  refine a_bif_ne (tgt := 21) C dX10_setWait_12 rfl (fun h12 => ?_) (fun h12 => ?_)
  · skip
    exact absurd h12 h
  · skip
    refine a_aload_n C dX10_setWait_15 rfl ?_
    refine a_iconst C dX10_setWait_16 ?_
    refine a_callV (o := 40) (As := [ii_v 1]) C (m_fails hl g1 w 1) co_X10_fails in_X10 ml_X10_127 im_X10_fails se_X10_fails rfl rfl ar_X10_fails ⟨by decide, by decide, by decide, by decide⟩ rfl (Nat.le_of_ble_eq_true rfl) dX10_setWait_17 (a_dR ?_) a_nR
    obtain ⟨g2, eg2⟩ : ∃ F : Nat → Nat → Int, F = ii_up g1 40 0 1 := ⟨_, rfl⟩
    rw [← eg2]
    refine a_iret C ?_ (by decide) (by decide) dX10_setWait_20
    rw [hPost]
    subst eg2 eg1
    exact ⟨rfl, rfl, rfl, by first | rfl | rw [ii_up_up]⟩
