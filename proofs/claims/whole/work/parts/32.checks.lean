/-! The row: what its calls test first. -/
/-- the wish is taken in -/
def wi_T (f : Nat → Nat → Int) (nr : Nat) (x y u v n : Int) : Nat → Nat → Int :=
  ii_up (ii_up (ii_up (ii_up (ii_up (ii_up (ii_up (ii_up f (300 + nr) 0 x) (300 + nr) 1 y) (300 + nr) 2 u) (300 + nr) 3 v) (300 + nr) 4 n) (300 + nr) 5 (pd_d x y u v)) (300 + nr) 6 (f 0 6 + f 0 8)) (300 + nr) 7 (pd_d x y u v * (100 + f 0 7) / 100)
set_option maxRecDepth 20000 in
set_option maxHeartbeats 2000000 in
theorem c_keptBus {l : Launch} {E : ab_E} {base : Nat} (hl : l.stackTraces = false) {ad : Nat → Nat} (f : Nat → Nat → Int) (w : Nat × Nat × Int64 × UInt64) {b : Nat} (hb : b < w.1) (h4 : w.1 ≤ 4)  : ab_M l E base yX9_keptBus cX9_keptBus 2 (some (.object "ShuttleRow$Bus")) 7 0 0 [.ref (ad 0), ii_v ((b : Nat) : Int)] ab_x4 ad (f, w) (ab_R (.ref (ad (200 + b))) ab_x4 ad (f, w)) := by
  obtain ⟨Post, hPost⟩ : ∃ P : ab_P, P = (ab_R (.ref (ad (200 + b))) ab_x4 ad (f, w)) := ⟨_, rfl⟩
  rw [← hPost]
  refine ab_of RX9 [(0, .ref (ad 0)), (1, ii_v ((b : Nat) : Int))] hl (by decide) rfl (Nat.le_of_ble_eq_true rfl) rfl ?_
  intro p e s m args below meth c C T0 hnm
  refine a_iload_n C dX9_keptBus_0 rfl ?_
  refine a_if_lt (tgt := 15) C dX9_keptBus_1 rfl (by unfold ii_B; omega) (fun h1 => ?_) (fun h1 => ?_)
  · skip
    omega
  · skip
    refine a_iload_n C dX9_keptBus_4 rfl ?_
    refine a_aload_n C dX9_keptBus_5 rfl ?_
    refine a_get (ci := 10) (i := 0) (v := .ref (ad 1)) C iw_X9 rfl (by decide) rfl fl_X9_12 rfl rfl dX9_keptBus_6 ?_
    refine a_callL (o := 1) (As := []) C (c_lsize hl f w (Or.inl ⟨rfl, rfl, rfl⟩) (by omega)) co_Jx4a65c_size_8abf5 in_Jx4a65c ml_X9_87 im_Jx4a65c_size_8abf5 se_Jx4a65c_size_8abf5 rfl (Or.inl rfl) (by decide) ar_Jx4a65c_size_8abf5 ⟨by decide, by decide, by decide, by decide⟩ rfl (Nat.le_of_ble_eq_true rfl) dX9_keptBus_9 (a_dR ?_) a_nR
    refine a_icmp_lt (tgt := 25) C dX9_keptBus_12 rfl (by unfold ii_B; omega) (by unfold ii_B; omega) (fun h12 => ?_) (fun h12 => ?_)
    · skip
      refine a_aload_n C dX9_keptBus_25 rfl ?_
      refine a_get (ci := 10) (i := 0) (v := .ref (ad 1)) C iw_X9 rfl (by decide) rfl fl_X9_12 rfl rfl dX9_keptBus_26 ?_
      refine a_iload_n C dX9_keptBus_29 rfl ?_
      refine a_callL (o := 1) (As := [ii_v ((b : Nat) : Int)]) C (c_lget hl f w (Or.inl ⟨rfl, rfl, rfl⟩) (by omega) ((b : Nat) : Int) b (by omega) (by omega)) co_Jx4a65c_get_915e3 in_Jx4a65c ml_X9_128 im_Jx4a65c_get_915e3 se_Jx4a65c_get_915e3 rfl (Or.inl rfl) (by decide) ar_Jx4a65c_get_915e3 ⟨by decide, by decide, by decide, by decide⟩ rfl (Nat.le_of_ble_eq_true rfl) dX9_keptBus_30 (a_dR ?_) a_nR
      refine a_ccast (ci := 2) C rfl (ob_bus hb h4) cl_X9_96 dX9_keptBus_33 ?_
      refine a_aret C (Or.inl ⟨_, rfl⟩) ?_ (by decide) (by decide) dX9_keptBus_36
      rw [hPost]
      exact ⟨rfl, rfl, rfl, rfl⟩
    · skip
      omega
set_option maxRecDepth 20000 in
set_option maxHeartbeats 2000000 in
theorem x_keptBus {l : Launch} {E : ab_E} {base : Nat} (hl : l.stackTraces = false) {ad : Nat → Nat} (f : Nat → Nat → Int) (w : Nat × Nat × Int64 × UInt64) (h4 : w.1 ≤ 4) (i : Int) (zi : -2147483648 ≤ i ∧ i < 2147483648) (h : i < 0 ∨ (w.1 : Int) ≤ i) : ab_M l E base yX9_keptBus cX9_keptBus 2 (some (.object "ShuttleRow$Bus")) 7 1 6 [.ref (ad 0), ii_v i] ab_x4 ad (f, w) (ab_T "java/lang/IndexOutOfBoundsException" ab_x4 ad (f, w)) := by
  obtain ⟨Post, hPost⟩ : ∃ P : ab_P, P = (ab_T "java/lang/IndexOutOfBoundsException" ab_x4 ad (f, w)) := ⟨_, rfl⟩
  rw [← hPost]
  refine ab_of RX9 [(0, .ref (ad 0)), (1, ii_v i)] hl (by decide) rfl (Nat.le_of_ble_eq_true rfl) rfl ?_
  intro p e s m args below meth c C T0 hnm
  refine a_iload_n C dX9_keptBus_0 rfl ?_
  refine a_if_lt (tgt := 15) C dX9_keptBus_1 rfl (by unfold ii_B; omega) (fun h1 => ?_) (fun h1 => ?_)
  · skip
    refine a_throw C T0 (by decide) cl_X9_316 in_IOB xw_IOB (is := 85) (text := "there is no such bus") (by decide) dX9_keptBus_15 dX9_keptBus_18 dX9_keptBus_19 dX9_keptBus_21 dX9_keptBus_24 ?_ ⟨by decide, by decide, by decide⟩ (Nat.le_of_ble_eq_true rfl)
    rw [hPost]
    exact ⟨rfl, rfl, rfl, rfl⟩
  · skip
    refine a_iload_n C dX9_keptBus_4 rfl ?_
    refine a_aload_n C dX9_keptBus_5 rfl ?_
    refine a_get (ci := 10) (i := 0) (v := .ref (ad 1)) C iw_X9 rfl (by decide) rfl fl_X9_12 rfl rfl dX9_keptBus_6 ?_
    refine a_callL (o := 1) (As := []) C (c_lsize hl f w (Or.inl ⟨rfl, rfl, rfl⟩) (by omega)) co_Jx4a65c_size_8abf5 in_Jx4a65c ml_X9_87 im_Jx4a65c_size_8abf5 se_Jx4a65c_size_8abf5 rfl (Or.inl rfl) (by decide) ar_Jx4a65c_size_8abf5 ⟨by decide, by decide, by decide, by decide⟩ rfl (Nat.le_of_ble_eq_true rfl) dX9_keptBus_9 (a_dR ?_) a_nR
    refine a_icmp_lt (tgt := 25) C dX9_keptBus_12 rfl (by unfold ii_B; omega) (by unfold ii_B; omega) (fun h12 => ?_) (fun h12 => ?_)
    · skip
      omega
    · skip
      refine a_throw C T0 (by decide) cl_X9_316 in_IOB xw_IOB (is := 85) (text := "there is no such bus") (by decide) dX9_keptBus_15 dX9_keptBus_18 dX9_keptBus_19 dX9_keptBus_21 dX9_keptBus_24 ?_ ⟨by decide, by decide, by decide⟩ (Nat.le_of_ble_eq_true rfl)
      rw [hPost]
      exact ⟨rfl, rfl, rfl, rfl⟩
set_option maxRecDepth 20000 in
set_option maxHeartbeats 2000000 in
theorem c_keptReq {l : Launch} {E : ab_E} {base : Nat} (hl : l.stackTraces = false) {ad : Nat → Nat} (f : Nat → Nat → Int) (w : Nat × Nat × Int64 × UInt64) (hr : w.2.1 ≤ 30) (r : Nat) (hrn : r < w.2.1) : ab_M l E base yX9_keptRequest cX9_keptRequest 2 (some (.object "ShuttleRow$Request")) 7 0 0 [.ref (ad 0), ii_v ((r : Nat) : Int)] ab_x4 ad (f, w) (ab_R (.ref (ad (300 + r))) ab_x4 ad (f, w)) := by
  obtain ⟨Post, hPost⟩ : ∃ P : ab_P, P = (ab_R (.ref (ad (300 + r))) ab_x4 ad (f, w)) := ⟨_, rfl⟩
  rw [← hPost]
  refine ab_of RX9 [(0, .ref (ad 0)), (1, ii_v ((r : Nat) : Int))] hl (by decide) rfl (Nat.le_of_ble_eq_true rfl) rfl ?_
  intro p e s m args below meth c C T0 hnm
  refine a_iload_n C dX9_keptRequest_0 rfl ?_
  refine a_if_lt (tgt := 15) C dX9_keptRequest_1 rfl (by unfold ii_B; omega) (fun h1 => ?_) (fun h1 => ?_)
  · skip
    omega
  · skip
    refine a_iload_n C dX9_keptRequest_4 rfl ?_
    refine a_aload_n C dX9_keptRequest_5 rfl ?_
    refine a_get (ci := 10) (i := 1) (v := .ref (ad 2)) C iw_X9 rfl (by decide) rfl fl_X9_19 rfl rfl dX9_keptRequest_6 ?_
    refine a_callVN (o := 2) (As := []) C (c_count hl f w hr) co_X0_count in_X0 mn_X9_108 im_X0_count se_X0_count rfl rfl ar_X0_count ⟨by decide, by decide, by decide, by decide⟩ rfl (Nat.le_of_ble_eq_true rfl) dX9_keptRequest_9 (a_dR ?_) a_nR
    refine a_icmp_lt (tgt := 26) C dX9_keptRequest_12 rfl (by unfold ii_B; omega) (by unfold ii_B; omega) (fun h12 => ?_) (fun h12 => ?_)
    · skip
      refine a_aload_n C dX9_keptRequest_26 rfl ?_
      refine a_get (ci := 10) (i := 1) (v := .ref (ad 2)) C iw_X9 rfl (by decide) rfl fl_X9_19 rfl rfl dX9_keptRequest_27 ?_
      refine a_iload_n C dX9_keptRequest_30 rfl ?_
      refine a_callVN (o := 2) (As := [ii_v ((r : Nat) : Int)]) C (c_requestAt hl f w hr ((r : Nat) : Int) r (by omega) (Nat.le_of_lt hrn)) co_X0_requestAt in_X0 mn_X9_303 im_X0_requestAt se_X0_requestAt rfl rfl ar_X0_requestAt ⟨by decide, by decide, by decide, by decide⟩ rfl (Nat.le_of_ble_eq_true rfl) dX9_keptRequest_31 (a_dR ?_) a_nR
      refine a_aret C (Or.inl ⟨_, rfl⟩) ?_ (by decide) (by decide) dX9_keptRequest_34
      rw [hPost]
      exact ⟨rfl, rfl, rfl, rfl⟩
    · skip
      omega
set_option maxRecDepth 20000 in
set_option maxHeartbeats 2000000 in
theorem x_keptReq {l : Launch} {E : ab_E} {base : Nat} (hl : l.stackTraces = false) {ad : Nat → Nat} (f : Nat → Nat → Int) (w : Nat × Nat × Int64 × UInt64) (hr : w.2.1 ≤ 30) (i : Int) (zi : -2147483648 ≤ i ∧ i < 2147483648) (h : i < 0 ∨ (w.2.1 : Int) ≤ i) : ab_M l E base yX9_keptRequest cX9_keptRequest 2 (some (.object "ShuttleRow$Request")) 7 1 6 [.ref (ad 0), ii_v i] ab_x4 ad (f, w) (ab_T "java/lang/IndexOutOfBoundsException" ab_x4 ad (f, w)) := by
  obtain ⟨Post, hPost⟩ : ∃ P : ab_P, P = (ab_T "java/lang/IndexOutOfBoundsException" ab_x4 ad (f, w)) := ⟨_, rfl⟩
  rw [← hPost]
  refine ab_of RX9 [(0, .ref (ad 0)), (1, ii_v i)] hl (by decide) rfl (Nat.le_of_ble_eq_true rfl) rfl ?_
  intro p e s m args below meth c C T0 hnm
  refine a_iload_n C dX9_keptRequest_0 rfl ?_
  refine a_if_lt (tgt := 15) C dX9_keptRequest_1 rfl (by unfold ii_B; omega) (fun h1 => ?_) (fun h1 => ?_)
  · skip
    refine a_throwW C T0 (by decide) cl_X9_316 in_IOB xw_IOB (is := 319) (text := "there is no such request") (by decide) dX9_keptRequest_15 dX9_keptRequest_18 dX9_keptRequest_19 dX9_keptRequest_22 dX9_keptRequest_25 ?_ ⟨by decide, by decide, by decide⟩ (Nat.le_of_ble_eq_true rfl)
    rw [hPost]
    exact ⟨rfl, rfl, rfl, rfl⟩
  · skip
    refine a_iload_n C dX9_keptRequest_4 rfl ?_
    refine a_aload_n C dX9_keptRequest_5 rfl ?_
    refine a_get (ci := 10) (i := 1) (v := .ref (ad 2)) C iw_X9 rfl (by decide) rfl fl_X9_19 rfl rfl dX9_keptRequest_6 ?_
    refine a_callVN (o := 2) (As := []) C (c_count hl f w hr) co_X0_count in_X0 mn_X9_108 im_X0_count se_X0_count rfl rfl ar_X0_count ⟨by decide, by decide, by decide, by decide⟩ rfl (Nat.le_of_ble_eq_true rfl) dX9_keptRequest_9 (a_dR ?_) a_nR
    refine a_icmp_lt (tgt := 26) C dX9_keptRequest_12 rfl (by unfold ii_B; omega) (by unfold ii_B; omega) (fun h12 => ?_) (fun h12 => ?_)
    · skip
      omega
    · skip
      refine a_throwW C T0 (by decide) cl_X9_316 in_IOB xw_IOB (is := 319) (text := "there is no such request") (by decide) dX9_keptRequest_15 dX9_keptRequest_18 dX9_keptRequest_19 dX9_keptRequest_22 dX9_keptRequest_25 ?_ ⟨by decide, by decide, by decide⟩ (Nat.le_of_ble_eq_true rfl)
      rw [hPost]
      exact ⟨rfl, rfl, rfl, rfl⟩
set_option maxRecDepth 20000 in
set_option maxHeartbeats 2000000 in
theorem c_served {l : Launch} {E : ab_E} {base : Nat} (hl : l.stackTraces = false) {ad : Nat → Nat} (f : Nat → Nat → Int) (w : Nat × Nat × Int64 × UInt64) (hr : w.2.1 ≤ 30) (r : Nat) (hrn : r < w.2.1) (h8 : 0 ≤ f (300 + r) 8 ∧ f (300 + r) 8 ≤ 65535) (h : f (300 + r) 8 ≠ 120 ∧ f (300 + r) 8 ≠ 99) : ab_M l E base yX9_servedRequest cX9_servedRequest 3 (some (.object "ShuttleRow$Request")) 8 0 0 [.ref (ad 0), ii_v ((r : Nat) : Int)] ab_x4 ad (f, w) (ab_R (.ref (ad (300 + r))) ab_x4 ad (f, w)) := by
  obtain ⟨Post, hPost⟩ : ∃ P : ab_P, P = (ab_R (.ref (ad (300 + r))) ab_x4 ad (f, w)) := ⟨_, rfl⟩
  rw [← hPost]
  refine ab_of RX9 [(0, .ref (ad 0)), (1, ii_v ((r : Nat) : Int))] hl (by decide) rfl (Nat.le_of_ble_eq_true rfl) rfl ?_
  intro p e s m args below meth c C T0 hnm
  refine a_aload_n C dX9_servedRequest_0 rfl ?_
  refine a_iload_n C dX9_servedRequest_1 rfl ?_
  refine a_callV (o := 0) (As := [ii_v ((r : Nat) : Int)]) C (c_keptReq hl f w hr r hrn) co_X9_keptRequest in_X9 ml_X9_176 im_X9_keptRequest se_X9_keptRequest rfl rfl ar_X9_keptRequest ⟨by decide, by decide, by decide, by decide⟩ rfl (Nat.le_of_ble_eq_true rfl) dX9_servedRequest_2 (a_dR ?_) a_nR
  refine a_astore_n (L' := [(0, .ref (ad 0)), (1, ii_v ((r : Nat) : Int)), (2, .ref (ad (300 + r)))]) C dX9_servedRequest_5 (by decide) rfl ?_
  refine a_aload_n C dX9_servedRequest_6 rfl ?_
  refine a_getN (ci := 7) (i := 8) (v := ii_v (f (300 + r) 8)) C iw_X6 rfl (by decide) rfl fn_X9_132 (ob_req (Nat.le_of_lt hrn)) rfl dX9_servedRequest_7 ?_
  refine a_bipush C dX9_servedRequest_10 (by decide) ?_
  refine a_icmp_eq (tgt := 24) C dX9_servedRequest_12 rfl (by unfold ii_B; omega) (by unfold ii_B; omega) (fun h12 => ?_) (fun h12 => ?_)
  · skip
    exact absurd h12 h.1
  · skip
    refine a_aload_n C dX9_servedRequest_15 rfl ?_
    refine a_getN (ci := 7) (i := 8) (v := ii_v (f (300 + r) 8)) C iw_X6 rfl (by decide) rfl fn_X9_132 (ob_req (Nat.le_of_lt hrn)) rfl dX9_servedRequest_16 ?_
    refine a_bipush C dX9_servedRequest_19 (by decide) ?_
    refine a_icmp_ne (tgt := 35) C dX9_servedRequest_21 rfl (by unfold ii_B; omega) (by unfold ii_B; omega) (fun h21 => ?_) (fun h21 => ?_)
    · skip
      refine a_aload_n C dX9_servedRequest_35 rfl ?_
      refine a_aret C (Or.inl ⟨_, rfl⟩) ?_ (by decide) (by decide) dX9_servedRequest_36
      rw [hPost]
      exact ⟨rfl, rfl, rfl, rfl⟩
    · skip
      exact absurd (by omega) h.2
set_option maxRecDepth 20000 in
set_option maxHeartbeats 2000000 in
theorem x_served {l : Launch} {E : ab_E} {base : Nat} (hl : l.stackTraces = false) {ad : Nat → Nat} (f : Nat → Nat → Int) (w : Nat × Nat × Int64 × UInt64) (hr : w.2.1 ≤ 30) (r : Nat) (hrn : r < w.2.1) (h8 : 0 ≤ f (300 + r) 8 ∧ f (300 + r) 8 ≤ 65535) (h : f (300 + r) 8 = 120 ∨ f (300 + r) 8 = 99) : ab_M l E base yX9_servedRequest cX9_servedRequest 3 (some (.object "ShuttleRow$Request")) 8 1 6 [.ref (ad 0), ii_v ((r : Nat) : Int)] ab_x4 ad (f, w) (ab_T "java/lang/IllegalStateException" ab_x4 ad (f, w)) := by
  obtain ⟨Post, hPost⟩ : ∃ P : ab_P, P = (ab_T "java/lang/IllegalStateException" ab_x4 ad (f, w)) := ⟨_, rfl⟩
  rw [← hPost]
  refine ab_of RX9 [(0, .ref (ad 0)), (1, ii_v ((r : Nat) : Int))] hl (by decide) rfl (Nat.le_of_ble_eq_true rfl) rfl ?_
  intro p e s m args below meth c C T0 hnm
  refine a_aload_n C dX9_servedRequest_0 rfl ?_
  refine a_iload_n C dX9_servedRequest_1 rfl ?_
  refine a_callV (o := 0) (As := [ii_v ((r : Nat) : Int)]) C (c_keptReq hl f w hr r hrn) co_X9_keptRequest in_X9 ml_X9_176 im_X9_keptRequest se_X9_keptRequest rfl rfl ar_X9_keptRequest ⟨by decide, by decide, by decide, by decide⟩ rfl (Nat.le_of_ble_eq_true rfl) dX9_servedRequest_2 (a_dR ?_) a_nR
  refine a_astore_n (L' := [(0, .ref (ad 0)), (1, ii_v ((r : Nat) : Int)), (2, .ref (ad (300 + r)))]) C dX9_servedRequest_5 (by decide) rfl ?_
  refine a_aload_n C dX9_servedRequest_6 rfl ?_
  refine a_getN (ci := 7) (i := 8) (v := ii_v (f (300 + r) 8)) C iw_X6 rfl (by decide) rfl fn_X9_132 (ob_req (Nat.le_of_lt hrn)) rfl dX9_servedRequest_7 ?_
  refine a_bipush C dX9_servedRequest_10 (by decide) ?_
  refine a_icmp_eq (tgt := 24) C dX9_servedRequest_12 rfl (by unfold ii_B; omega) (by unfold ii_B; omega) (fun h12 => ?_) (fun h12 => ?_)
  · skip
    refine a_throwW C T0 (by decide) cl_X9_91 in_ISE xw_ISE (is := 321) (text := "the request was refused or cancelled") (by decide) dX9_servedRequest_24 dX9_servedRequest_27 dX9_servedRequest_28 dX9_servedRequest_31 dX9_servedRequest_34 ?_ ⟨by decide, by decide, by decide⟩ (Nat.le_of_ble_eq_true rfl)
    rw [hPost]
    exact ⟨rfl, rfl, rfl, rfl⟩
  · skip
    refine a_aload_n C dX9_servedRequest_15 rfl ?_
    refine a_getN (ci := 7) (i := 8) (v := ii_v (f (300 + r) 8)) C iw_X6 rfl (by decide) rfl fn_X9_132 (ob_req (Nat.le_of_lt hrn)) rfl dX9_servedRequest_16 ?_
    refine a_bipush C dX9_servedRequest_19 (by decide) ?_
    refine a_icmp_ne (tgt := 35) C dX9_servedRequest_21 rfl (by unfold ii_B; omega) (by unfold ii_B; omega) (fun h21 => ?_) (fun h21 => ?_)
    · skip
      omega
    · skip
      refine a_throwW C T0 (by decide) cl_X9_91 in_ISE xw_ISE (is := 321) (text := "the request was refused or cancelled") (by decide) dX9_servedRequest_24 dX9_servedRequest_27 dX9_servedRequest_28 dX9_servedRequest_31 dX9_servedRequest_34 ?_ ⟨by decide, by decide, by decide⟩ (Nat.le_of_ble_eq_true rfl)
      rw [hPost]
      exact ⟨rfl, rfl, rfl, rfl⟩
set_option maxRecDepth 20000 in
set_option maxHeartbeats 2000000 in
theorem x_served2 {l : Launch} {E : ab_E} {base : Nat} (hl : l.stackTraces = false) {ad : Nat → Nat} (f : Nat → Nat → Int) (w : Nat × Nat × Int64 × UInt64) (hr : w.2.1 ≤ 30) (i : Int) (zi : -2147483648 ≤ i ∧ i < 2147483648) (h : i < 0 ∨ (w.2.1 : Int) ≤ i) : ab_M l E base yX9_servedRequest cX9_servedRequest 3 (some (.object "ShuttleRow$Request")) 8 1 6 [.ref (ad 0), ii_v i] ab_x4 ad (f, w) (ab_T "java/lang/IndexOutOfBoundsException" ab_x4 ad (f, w)) := by
  obtain ⟨Post, hPost⟩ : ∃ P : ab_P, P = (ab_T "java/lang/IndexOutOfBoundsException" ab_x4 ad (f, w)) := ⟨_, rfl⟩
  rw [← hPost]
  refine ab_of RX9 [(0, .ref (ad 0)), (1, ii_v i)] hl (by decide) rfl (Nat.le_of_ble_eq_true rfl) rfl ?_
  intro p e s m args below meth c C T0 hnm
  refine a_aload_n C dX9_servedRequest_0 rfl ?_
  refine a_iload_n C dX9_servedRequest_1 rfl ?_
  refine a_callV (o := 0) (As := [ii_v i]) C (x_keptReq hl f w hr i zi h) co_X9_keptRequest in_X9 ml_X9_176 im_X9_keptRequest se_X9_keptRequest rfl rfl ar_X9_keptRequest ⟨by decide, by decide, by decide, by decide⟩ rfl (Nat.le_of_ble_eq_true rfl) dX9_servedRequest_2 a_nT (a_dT ?_)
  refine a_out C T0 ?_ (by decide) (by decide)
  rw [hPost]
  exact ⟨rfl, rfl, rfl, rfl⟩
set_option maxRecDepth 20000 in
set_option maxHeartbeats 2000000 in
theorem c_checkWish {l : Launch} {E : ab_E} {base : Nat} (hl : l.stackTraces = false) {ad : Nat → Nat} (f : Nat → Nat → Int) (w : Nat × Nat × Int64 × UInt64) (x y u v n : Int) (zx : -2147483648 ≤ x ∧ x < 2147483648) (zy : -2147483648 ≤ y ∧ y < 2147483648) (zu : -2147483648 ≤ u ∧ u < 2147483648) (zv : -2147483648 ≤ v ∧ v < 2147483648) (zn : -2147483648 ≤ n ∧ n < 2147483648) (h : (((0 ≤ x ∧ x ≤ 20) ∧ (0 ≤ y ∧ y ≤ 20)) ∧ ((0 ≤ u ∧ u ≤ 20) ∧ (0 ≤ v ∧ v ≤ 20)) ∧ 1 ≤ n ∧ n ≤ 6)) (h2 : ¬ (x = u ∧ y = v)) : ab_M l E base yX9_checkWish cX9_checkWish 6 none 7 0 0 [.ref (ad 0), ii_v x, ii_v y, ii_v u, ii_v v, ii_v n] ab_x4 ad (f, w) (ab_V ab_x4 ad (f, w)) := by
  obtain ⟨Post, hPost⟩ : ∃ P : ab_P, P = (ab_V ab_x4 ad (f, w)) := ⟨_, rfl⟩
  rw [← hPost]
  refine ab_of RX9 [(0, .ref (ad 0)), (1, ii_v x), (2, ii_v y), (3, ii_v u), (4, ii_v v), (5, ii_v n)] hl (by decide) rfl (Nat.le_of_ble_eq_true rfl) rfl ?_
  intro p e s m args below meth c C T0 hnm
  refine a_iload_n C dX9_checkWish_0 rfl ?_
  refine a_iload_n C dX9_checkWish_1 rfl ?_
  refine a_callS (As := [ii_v x, ii_v y]) C (c_isInTown hl f w x y (by omega) (by omega)) co_X9_isInTown in_X9 ml_X9_81 sc_X9_isInTown ar_X9_isInTown ⟨by decide, by decide, by decide, by decide⟩ rfl (Nat.le_of_ble_eq_true rfl) dX9_checkWish_2 (a_dR ?_) a_nR
  refine a_bif_eq (tgt := 28) C dX9_checkWish_5 rfl (fun h5 => ?_) (fun h5 => ?_)
  · skip
    exact absurd h.1 h5
  · skip
    refine a_iload_n C dX9_checkWish_8 rfl ?_
    refine a_iload C dX9_checkWish_9 rfl ?_
    refine a_callS (As := [ii_v u, ii_v v]) C (c_isInTown hl f w u v (by omega) (by omega)) co_X9_isInTown in_X9 ml_X9_81 sc_X9_isInTown ar_X9_isInTown ⟨by decide, by decide, by decide, by decide⟩ rfl (Nat.le_of_ble_eq_true rfl) dX9_checkWish_11 (a_dR ?_) a_nR
    refine a_bif_eq (tgt := 28) C dX9_checkWish_14 rfl (fun h14 => ?_) (fun h14 => ?_)
    · skip
      exact absurd h.2.1 h14
    · skip
      refine a_iload C dX9_checkWish_17 rfl ?_
      refine a_iconst C dX9_checkWish_19 ?_
      refine a_bipush C dX9_checkWish_20 (by decide) ?_
      refine a_callS (As := [ii_v n, ii_v 1, ii_v 6]) C (c_isBetween hl f w n 1 6 (by omega) (by omega) (by omega)) co_X9_isBetween in_X9 ml_X9_68 sc_X9_isBetween ar_X9_isBetween ⟨by decide, by decide, by decide, by decide⟩ rfl (Nat.le_of_ble_eq_true rfl) dX9_checkWish_22 (a_dR ?_) a_nR
      refine a_bif_ne (tgt := 39) C dX9_checkWish_25 rfl (fun h25 => ?_) (fun h25 => ?_)
      · skip
        refine a_iload_n C dX9_checkWish_39 rfl ?_
        refine a_iload_n C dX9_checkWish_40 rfl ?_
        refine a_icmp_ne (tgt := 61) C dX9_checkWish_41 rfl (by unfold ii_B; omega) (by unfold ii_B; omega) (fun h41 => ?_) (fun h41 => ?_)
        · skip
          refine a_vret C ?_ (by decide) (by decide) dX9_checkWish_61
          rw [hPost]
          exact ⟨rfl, rfl, rfl, rfl⟩
        · skip
          refine a_iload_n C dX9_checkWish_44 rfl ?_
          refine a_iload C dX9_checkWish_45 rfl ?_
          refine a_icmp_ne (tgt := 61) C dX9_checkWish_47 rfl (by unfold ii_B; omega) (by unfold ii_B; omega) (fun h47 => ?_) (fun h47 => ?_)
          · skip
            refine a_vret C ?_ (by decide) (by decide) dX9_checkWish_61
            rw [hPost]
            exact ⟨rfl, rfl, rfl, rfl⟩
          · skip
            omega
      · skip
        exact absurd h.2.2 h25
set_option maxRecDepth 20000 in
set_option maxHeartbeats 2000000 in
theorem x_checkWish {l : Launch} {E : ab_E} {base : Nat} (hl : l.stackTraces = false) {ad : Nat → Nat} (f : Nat → Nat → Int) (w : Nat × Nat × Int64 × UInt64) (x y u v n : Int) (zx : -2147483648 ≤ x ∧ x < 2147483648) (zy : -2147483648 ≤ y ∧ y < 2147483648) (zu : -2147483648 ≤ u ∧ u < 2147483648) (zv : -2147483648 ≤ v ∧ v < 2147483648) (zn : -2147483648 ≤ n ∧ n < 2147483648) (h : ¬ (((0 ≤ x ∧ x ≤ 20) ∧ (0 ≤ y ∧ y ≤ 20)) ∧ ((0 ≤ u ∧ u ≤ 20) ∧ (0 ≤ v ∧ v ≤ 20)) ∧ 1 ≤ n ∧ n ≤ 6)) : ab_M l E base yX9_checkWish cX9_checkWish 6 none 7 1 6 [.ref (ad 0), ii_v x, ii_v y, ii_v u, ii_v v, ii_v n] ab_x4 ad (f, w) (ab_T "java/lang/IllegalArgumentException" ab_x4 ad (f, w)) := by
  obtain ⟨Post, hPost⟩ : ∃ P : ab_P, P = (ab_T "java/lang/IllegalArgumentException" ab_x4 ad (f, w)) := ⟨_, rfl⟩
  rw [← hPost]
  refine ab_of RX9 [(0, .ref (ad 0)), (1, ii_v x), (2, ii_v y), (3, ii_v u), (4, ii_v v), (5, ii_v n)] hl (by decide) rfl (Nat.le_of_ble_eq_true rfl) rfl ?_
  intro p e s m args below meth c C T0 hnm
  refine a_iload_n C dX9_checkWish_0 rfl ?_
  refine a_iload_n C dX9_checkWish_1 rfl ?_
  refine a_callS (As := [ii_v x, ii_v y]) C (c_isInTown hl f w x y (by omega) (by omega)) co_X9_isInTown in_X9 ml_X9_81 sc_X9_isInTown ar_X9_isInTown ⟨by decide, by decide, by decide, by decide⟩ rfl (Nat.le_of_ble_eq_true rfl) dX9_checkWish_2 (a_dR ?_) a_nR
  refine a_bif_eq (tgt := 28) C dX9_checkWish_5 rfl (fun h5 => ?_) (fun h5 => ?_)
  · skip
    refine a_throwW C T0 (by decide) cl_X9_72 in_IAE xw_IAE (is := 319) (text := "there is no such request") (by decide) dX9_checkWish_28 dX9_checkWish_31 dX9_checkWish_32 dX9_checkWish_35 dX9_checkWish_38 ?_ ⟨by decide, by decide, by decide⟩ (Nat.le_of_ble_eq_true rfl)
    rw [hPost]
    exact ⟨rfl, rfl, rfl, rfl⟩
  · skip
    refine a_iload_n C dX9_checkWish_8 rfl ?_
    refine a_iload C dX9_checkWish_9 rfl ?_
    refine a_callS (As := [ii_v u, ii_v v]) C (c_isInTown hl f w u v (by omega) (by omega)) co_X9_isInTown in_X9 ml_X9_81 sc_X9_isInTown ar_X9_isInTown ⟨by decide, by decide, by decide, by decide⟩ rfl (Nat.le_of_ble_eq_true rfl) dX9_checkWish_11 (a_dR ?_) a_nR
    refine a_bif_eq (tgt := 28) C dX9_checkWish_14 rfl (fun h14 => ?_) (fun h14 => ?_)
    · skip
      refine a_throwW C T0 (by decide) cl_X9_72 in_IAE xw_IAE (is := 319) (text := "there is no such request") (by decide) dX9_checkWish_28 dX9_checkWish_31 dX9_checkWish_32 dX9_checkWish_35 dX9_checkWish_38 ?_ ⟨by decide, by decide, by decide⟩ (Nat.le_of_ble_eq_true rfl)
      rw [hPost]
      exact ⟨rfl, rfl, rfl, rfl⟩
    · skip
      refine a_iload C dX9_checkWish_17 rfl ?_
      refine a_iconst C dX9_checkWish_19 ?_
      refine a_bipush C dX9_checkWish_20 (by decide) ?_
      refine a_callS (As := [ii_v n, ii_v 1, ii_v 6]) C (c_isBetween hl f w n 1 6 (by omega) (by omega) (by omega)) co_X9_isBetween in_X9 ml_X9_68 sc_X9_isBetween ar_X9_isBetween ⟨by decide, by decide, by decide, by decide⟩ rfl (Nat.le_of_ble_eq_true rfl) dX9_checkWish_22 (a_dR ?_) a_nR
      refine a_bif_ne (tgt := 39) C dX9_checkWish_25 rfl (fun h25 => ?_) (fun h25 => ?_)
      · skip
        exact absurd ⟨by assumption, by assumption, h25⟩ h
      · skip
        refine a_throwW C T0 (by decide) cl_X9_72 in_IAE xw_IAE (is := 319) (text := "there is no such request") (by decide) dX9_checkWish_28 dX9_checkWish_31 dX9_checkWish_32 dX9_checkWish_35 dX9_checkWish_38 ?_ ⟨by decide, by decide, by decide⟩ (Nat.le_of_ble_eq_true rfl)
        rw [hPost]
        exact ⟨rfl, rfl, rfl, rfl⟩
set_option maxRecDepth 20000 in
set_option maxHeartbeats 2000000 in
theorem x_checkWish2 {l : Launch} {E : ab_E} {base : Nat} (hl : l.stackTraces = false) {ad : Nat → Nat} (f : Nat → Nat → Int) (w : Nat × Nat × Int64 × UInt64) (x y u v n : Int) (zx : -2147483648 ≤ x ∧ x < 2147483648) (zy : -2147483648 ≤ y ∧ y < 2147483648) (zu : -2147483648 ≤ u ∧ u < 2147483648) (zv : -2147483648 ≤ v ∧ v < 2147483648) (zn : -2147483648 ≤ n ∧ n < 2147483648) (h : (((0 ≤ x ∧ x ≤ 20) ∧ (0 ≤ y ∧ y ≤ 20)) ∧ ((0 ≤ u ∧ u ≤ 20) ∧ (0 ≤ v ∧ v ≤ 20)) ∧ 1 ≤ n ∧ n ≤ 6)) (h2 : x = u ∧ y = v) : ab_M l E base yX9_checkWish cX9_checkWish 6 none 7 1 6 [.ref (ad 0), ii_v x, ii_v y, ii_v u, ii_v v, ii_v n] ab_x4 ad (f, w) (ab_T "java/lang/UnsupportedOperationException" ab_x4 ad (f, w)) := by
  obtain ⟨Post, hPost⟩ : ∃ P : ab_P, P = (ab_T "java/lang/UnsupportedOperationException" ab_x4 ad (f, w)) := ⟨_, rfl⟩
  rw [← hPost]
  refine ab_of RX9 [(0, .ref (ad 0)), (1, ii_v x), (2, ii_v y), (3, ii_v u), (4, ii_v v), (5, ii_v n)] hl (by decide) rfl (Nat.le_of_ble_eq_true rfl) rfl ?_
  intro p e s m args below meth c C T0 hnm
  refine a_iload_n C dX9_checkWish_0 rfl ?_
  refine a_iload_n C dX9_checkWish_1 rfl ?_
  refine a_callS (As := [ii_v x, ii_v y]) C (c_isInTown hl f w x y (by omega) (by omega)) co_X9_isInTown in_X9 ml_X9_81 sc_X9_isInTown ar_X9_isInTown ⟨by decide, by decide, by decide, by decide⟩ rfl (Nat.le_of_ble_eq_true rfl) dX9_checkWish_2 (a_dR ?_) a_nR
  refine a_bif_eq (tgt := 28) C dX9_checkWish_5 rfl (fun h5 => ?_) (fun h5 => ?_)
  · skip
    exact absurd h.1 h5
  · skip
    refine a_iload_n C dX9_checkWish_8 rfl ?_
    refine a_iload C dX9_checkWish_9 rfl ?_
    refine a_callS (As := [ii_v u, ii_v v]) C (c_isInTown hl f w u v (by omega) (by omega)) co_X9_isInTown in_X9 ml_X9_81 sc_X9_isInTown ar_X9_isInTown ⟨by decide, by decide, by decide, by decide⟩ rfl (Nat.le_of_ble_eq_true rfl) dX9_checkWish_11 (a_dR ?_) a_nR
    refine a_bif_eq (tgt := 28) C dX9_checkWish_14 rfl (fun h14 => ?_) (fun h14 => ?_)
    · skip
      exact absurd h.2.1 h14
    · skip
      refine a_iload C dX9_checkWish_17 rfl ?_
      refine a_iconst C dX9_checkWish_19 ?_
      refine a_bipush C dX9_checkWish_20 (by decide) ?_
      refine a_callS (As := [ii_v n, ii_v 1, ii_v 6]) C (c_isBetween hl f w n 1 6 (by omega) (by omega) (by omega)) co_X9_isBetween in_X9 ml_X9_68 sc_X9_isBetween ar_X9_isBetween ⟨by decide, by decide, by decide, by decide⟩ rfl (Nat.le_of_ble_eq_true rfl) dX9_checkWish_22 (a_dR ?_) a_nR
      refine a_bif_ne (tgt := 39) C dX9_checkWish_25 rfl (fun h25 => ?_) (fun h25 => ?_)
      · skip
        refine a_iload_n C dX9_checkWish_39 rfl ?_
        refine a_iload_n C dX9_checkWish_40 rfl ?_
        refine a_icmp_ne (tgt := 61) C dX9_checkWish_41 rfl (by unfold ii_B; omega) (by unfold ii_B; omega) (fun h41 => ?_) (fun h41 => ?_)
        · skip
          omega
        · skip
          refine a_iload_n C dX9_checkWish_44 rfl ?_
          refine a_iload C dX9_checkWish_45 rfl ?_
          refine a_icmp_ne (tgt := 61) C dX9_checkWish_47 rfl (by unfold ii_B; omega) (by unfold ii_B; omega) (fun h47 => ?_) (fun h47 => ?_)
          · skip
            omega
          · skip
            refine a_throwW C T0 (by decide) cl_X9_323 in_UOE xw_UOE (is := 325) (text := "both places are the same") (by decide) dX9_checkWish_50 dX9_checkWish_53 dX9_checkWish_54 dX9_checkWish_57 dX9_checkWish_60 ?_ ⟨by decide, by decide, by decide⟩ (Nat.le_of_ble_eq_true rfl)
            rw [hPost]
            exact ⟨rfl, rfl, rfl, rfl⟩
      · skip
        exact absurd h.2.2 h25
set_option maxRecDepth 20000 in
set_option maxHeartbeats 2000000 in
theorem c_checkFound {l : Launch} {E : ab_E} {base : Nat} (hl : l.stackTraces = false) {ad : Nat → Nat} (f : Nat → Nat → Int) (w : Nat × Nat × Int64 × UInt64) (hb : -10 ≤ f 13 3 ∧ f 13 3 ≤ 10) (h : 0 ≤ f 13 3) : ab_M l E base yX9_checkFound cX9_checkFound 1 none 7 0 0 [.ref (ad 0)] ab_x4 ad (f, w) (ab_V ab_x4 ad (f, w)) := by
  obtain ⟨Post, hPost⟩ : ∃ P : ab_P, P = (ab_V ab_x4 ad (f, w)) := ⟨_, rfl⟩
  rw [← hPost]
  refine ab_of RX9 [(0, .ref (ad 0))] hl (by decide) rfl (Nat.le_of_ble_eq_true rfl) rfl ?_
  intro p e s m args below meth c C T0 hnm
  refine a_aload_n C dX9_checkFound_0 rfl ?_
  refine a_get (ci := 10) (i := 4) (v := .ref (ad 13)) C iw_X9 rfl (by decide) rfl fl_X9_47 rfl rfl dX9_checkFound_1 ?_
  refine a_callVN (o := 13) (As := []) C (c_isFound hl f w hb) co_X2_isFound in_X2 mn_X9_121 im_X2_isFound se_X2_isFound rfl rfl ar_X2_isFound ⟨by decide, by decide, by decide, by decide⟩ rfl (Nat.le_of_ble_eq_true rfl) dX9_checkFound_4 (a_dR ?_) a_nR
  refine a_bif_ne (tgt := 21) C dX9_checkFound_7 rfl (fun h7 => ?_) (fun h7 => ?_)
  · skip
    refine a_vret C ?_ (by decide) (by decide) dX9_checkFound_21
    rw [hPost]
    exact ⟨rfl, rfl, rfl, rfl⟩
  · skip
    exact absurd h h7
set_option maxRecDepth 20000 in
set_option maxHeartbeats 2000000 in
theorem x_checkFound {l : Launch} {E : ab_E} {base : Nat} (hl : l.stackTraces = false) {ad : Nat → Nat} (f : Nat → Nat → Int) (w : Nat × Nat × Int64 × UInt64) (hb : -10 ≤ f 13 3 ∧ f 13 3 ≤ 10) (h : f 13 3 < 0) : ab_M l E base yX9_checkFound cX9_checkFound 1 none 7 1 6 [.ref (ad 0)] ab_x4 ad (f, w) (ab_T "java/util/NoSuchElementException" ab_x4 ad (f, w)) := by
  obtain ⟨Post, hPost⟩ : ∃ P : ab_P, P = (ab_T "java/util/NoSuchElementException" ab_x4 ad (f, w)) := ⟨_, rfl⟩
  rw [← hPost]
  refine ab_of RX9 [(0, .ref (ad 0))] hl (by decide) rfl (Nat.le_of_ble_eq_true rfl) rfl ?_
  intro p e s m args below meth c C T0 hnm
  refine a_aload_n C dX9_checkFound_0 rfl ?_
  refine a_get (ci := 10) (i := 4) (v := .ref (ad 13)) C iw_X9 rfl (by decide) rfl fl_X9_47 rfl rfl dX9_checkFound_1 ?_
  refine a_callVN (o := 13) (As := []) C (c_isFound hl f w hb) co_X2_isFound in_X2 mn_X9_121 im_X2_isFound se_X2_isFound rfl rfl ar_X2_isFound ⟨by decide, by decide, by decide, by decide⟩ rfl (Nat.le_of_ble_eq_true rfl) dX9_checkFound_4 (a_dR ?_) a_nR
  refine a_bif_ne (tgt := 21) C dX9_checkFound_7 rfl (fun h7 => ?_) (fun h7 => ?_)
  · skip
    omega
  · skip
    refine a_throwN (is := 328) (text := "the request would be refused") C T0 (by decide) dX9_checkFound_10 dX9_checkFound_13 dX9_checkFound_14 dX9_checkFound_17 dX9_checkFound_20 ?_ ⟨by decide, by decide, by decide⟩ (Nat.le_of_ble_eq_true rfl)
    rw [hPost]
    exact ⟨rfl, rfl, rfl, rfl⟩
set_option maxRecDepth 20000 in
set_option maxHeartbeats 2000000 in
theorem c_checkStop {l : Launch} {E : ab_E} {base : Nat} (hl : l.stackTraces = false) {ad : Nat → Nat} (f : Nat → Nat → Int) (w : Nat × Nat × Int64 × UInt64) {t : Nat} (ht : ab_ob 4 w.1 w.2.1 t = some (8, [some (t + 10), none])) {S : List Nat} (hS : ts_I f t S) (k : Nat) (hk : k < S.length) : ab_M l E base yX9_checkStop cX9_checkStop 3 none 7 0 0 [.ref (ad 0), .ref (ad t), ii_v ((k : Nat) : Int)] ab_x4 ad (f, w) (ab_V ab_x4 ad (f, w)) := by
  obtain ⟨Post, hPost⟩ : ∃ P : ab_P, P = (ab_V ab_x4 ad (f, w)) := ⟨_, rfl⟩
  rw [← hPost]
  refine ab_of RX9 [(0, .ref (ad 0)), (1, .ref (ad t)), (2, ii_v ((k : Nat) : Int))] hl (by decide) rfl (Nat.le_of_ble_eq_true rfl) rfl ?_
  intro p e s m args below meth c C T0 hnm
  obtain ⟨hc, h8, -, -⟩ := id hS
  refine a_iload_n C dX9_checkStop_0 rfl ?_
  refine a_if_lt (tgt := 12) C dX9_checkStop_1 rfl (by unfold ii_B; omega) (fun h1 => ?_) (fun h1 => ?_)
  · skip
    omega
  · skip
    refine a_iload_n C dX9_checkStop_4 rfl ?_
    refine a_aload_n C dX9_checkStop_5 rfl ?_
    refine a_getN (ci := 8) (i := 1) (v := ii_v (f t 1)) C iw_X7 rfl (by decide) rfl fn_X9_224 ht rfl dX9_checkStop_6 ?_
    refine a_icmp_lt (tgt := 23) C dX9_checkStop_9 rfl (by unfold ii_B; omega) (by unfold ii_B; omega) (fun h9 => ?_) (fun h9 => ?_)
    · skip
      refine a_vret C ?_ (by decide) (by decide) dX9_checkStop_23
      rw [hPost]
      exact ⟨rfl, rfl, rfl, rfl⟩
    · skip
      omega
set_option maxRecDepth 20000 in
set_option maxHeartbeats 2000000 in
theorem x_checkStop {l : Launch} {E : ab_E} {base : Nat} (hl : l.stackTraces = false) {ad : Nat → Nat} (f : Nat → Nat → Int) (w : Nat × Nat × Int64 × UInt64) {t : Nat} (ht : ab_ob 4 w.1 w.2.1 t = some (8, [some (t + 10), none])) {S : List Nat} (hS : ts_I f t S) (i : Int) (zi : -2147483648 ≤ i ∧ i < 2147483648) (h : i < 0 ∨ (S.length : Int) ≤ i) : ab_M l E base yX9_checkStop cX9_checkStop 3 none 7 1 6 [.ref (ad 0), .ref (ad t), ii_v i] ab_x4 ad (f, w) (ab_T "java/util/NoSuchElementException" ab_x4 ad (f, w)) := by
  obtain ⟨Post, hPost⟩ : ∃ P : ab_P, P = (ab_T "java/util/NoSuchElementException" ab_x4 ad (f, w)) := ⟨_, rfl⟩
  rw [← hPost]
  refine ab_of RX9 [(0, .ref (ad 0)), (1, .ref (ad t)), (2, ii_v i)] hl (by decide) rfl (Nat.le_of_ble_eq_true rfl) rfl ?_
  intro p e s m args below meth c C T0 hnm
  obtain ⟨hc, h8, -, -⟩ := id hS
  refine a_iload_n C dX9_checkStop_0 rfl ?_
  refine a_if_lt (tgt := 12) C dX9_checkStop_1 rfl (by unfold ii_B; omega) (fun h1 => ?_) (fun h1 => ?_)
  · skip
    refine a_throwN (is := 330) (text := "the tour has no such stop") C T0 (by decide) dX9_checkStop_12 dX9_checkStop_15 dX9_checkStop_16 dX9_checkStop_19 dX9_checkStop_22 ?_ ⟨by decide, by decide, by decide⟩ (Nat.le_of_ble_eq_true rfl)
    rw [hPost]
    exact ⟨rfl, rfl, rfl, rfl⟩
  · skip
    refine a_iload_n C dX9_checkStop_4 rfl ?_
    refine a_aload_n C dX9_checkStop_5 rfl ?_
    refine a_getN (ci := 8) (i := 1) (v := ii_v (f t 1)) C iw_X7 rfl (by decide) rfl fn_X9_224 ht rfl dX9_checkStop_6 ?_
    refine a_icmp_lt (tgt := 23) C dX9_checkStop_9 rfl (by unfold ii_B; omega) (by unfold ii_B; omega) (fun h9 => ?_) (fun h9 => ?_)
    · skip
      omega
    · skip
      refine a_throwN (is := 330) (text := "the tour has no such stop") C T0 (by decide) dX9_checkStop_12 dX9_checkStop_15 dX9_checkStop_16 dX9_checkStop_19 dX9_checkStop_22 ?_ ⟨by decide, by decide, by decide⟩ (Nat.le_of_ble_eq_true rfl)
      rw [hPost]
      exact ⟨rfl, rfl, rfl, rfl⟩
set_option maxRecDepth 20000 in
set_option maxHeartbeats 2000000 in
theorem c_checkEntry {l : Launch} {E : ab_E} {base : Nat} (hl : l.stackTraces = false) {ad : Nat → Nat} (f : Nat → Nat → Int) (w : Nat × Nat × Int64 × UInt64) (n : Nat) (hn : f 4 4 = (n : Int)) (h60 : n ≤ 60) (k : Nat) (hk : k < n) : ab_M l E base yX9_checkEntry cX9_checkEntry 2 none 7 0 0 [.ref (ad 0), ii_v ((k : Nat) : Int)] ab_x4 ad (f, w) (ab_V ab_x4 ad (f, w)) := by
  obtain ⟨Post, hPost⟩ : ∃ P : ab_P, P = (ab_V ab_x4 ad (f, w)) := ⟨_, rfl⟩
  rw [← hPost]
  refine ab_of RX9 [(0, .ref (ad 0)), (1, ii_v ((k : Nat) : Int))] hl (by decide) rfl (Nat.le_of_ble_eq_true rfl) rfl ?_
  intro p e s m args below meth c C T0 hnm
  refine a_iload_n C dX9_checkEntry_0 rfl ?_
  refine a_if_lt (tgt := 15) C dX9_checkEntry_1 rfl (by unfold ii_B; omega) (fun h1 => ?_) (fun h1 => ?_)
  · skip
    omega
  · skip
    refine a_iload_n C dX9_checkEntry_4 rfl ?_
    refine a_aload_n C dX9_checkEntry_5 rfl ?_
    refine a_get (ci := 10) (i := 2) (v := .ref (ad 4)) C iw_X9 rfl (by decide) rfl fl_X9_26 rfl rfl dX9_checkEntry_6 ?_
    refine a_getN (ci := 5) (i := 4) (v := ii_v (f 4 4)) C iw_X4 rfl (by decide) rfl fn_X9_287 rfl rfl dX9_checkEntry_9 ?_
    refine a_icmp_lt (tgt := 26) C dX9_checkEntry_12 rfl (by unfold ii_B; omega) (by unfold ii_B; omega) (fun h12 => ?_) (fun h12 => ?_)
    · skip
      refine a_vret C ?_ (by decide) (by decide) dX9_checkEntry_26
      rw [hPost]
      exact ⟨rfl, rfl, rfl, rfl⟩
    · skip
      omega
set_option maxRecDepth 20000 in
set_option maxHeartbeats 2000000 in
theorem x_checkEntry {l : Launch} {E : ab_E} {base : Nat} (hl : l.stackTraces = false) {ad : Nat → Nat} (f : Nat → Nat → Int) (w : Nat × Nat × Int64 × UInt64) (n : Nat) (hn : f 4 4 = (n : Int)) (h60 : n ≤ 60) (i : Int) (zi : -2147483648 ≤ i ∧ i < 2147483648) (h : i < 0 ∨ (n : Int) ≤ i) : ab_M l E base yX9_checkEntry cX9_checkEntry 2 none 7 1 6 [.ref (ad 0), ii_v i] ab_x4 ad (f, w) (ab_T "java/lang/IndexOutOfBoundsException" ab_x4 ad (f, w)) := by
  obtain ⟨Post, hPost⟩ : ∃ P : ab_P, P = (ab_T "java/lang/IndexOutOfBoundsException" ab_x4 ad (f, w)) := ⟨_, rfl⟩
  rw [← hPost]
  refine ab_of RX9 [(0, .ref (ad 0)), (1, ii_v i)] hl (by decide) rfl (Nat.le_of_ble_eq_true rfl) rfl ?_
  intro p e s m args below meth c C T0 hnm
  refine a_iload_n C dX9_checkEntry_0 rfl ?_
  refine a_if_lt (tgt := 15) C dX9_checkEntry_1 rfl (by unfold ii_B; omega) (fun h1 => ?_) (fun h1 => ?_)
  · skip
    refine a_throwW C T0 (by decide) cl_X9_316 in_IOB xw_IOB (is := 332) (text := "there is no such entry") (by decide) dX9_checkEntry_15 dX9_checkEntry_18 dX9_checkEntry_19 dX9_checkEntry_22 dX9_checkEntry_25 ?_ ⟨by decide, by decide, by decide⟩ (Nat.le_of_ble_eq_true rfl)
    rw [hPost]
    exact ⟨rfl, rfl, rfl, rfl⟩
  · skip
    refine a_iload_n C dX9_checkEntry_4 rfl ?_
    refine a_aload_n C dX9_checkEntry_5 rfl ?_
    refine a_get (ci := 10) (i := 2) (v := .ref (ad 4)) C iw_X9 rfl (by decide) rfl fl_X9_26 rfl rfl dX9_checkEntry_6 ?_
    refine a_getN (ci := 5) (i := 4) (v := ii_v (f 4 4)) C iw_X4 rfl (by decide) rfl fn_X9_287 rfl rfl dX9_checkEntry_9 ?_
    refine a_icmp_lt (tgt := 26) C dX9_checkEntry_12 rfl (by unfold ii_B; omega) (by unfold ii_B; omega) (fun h12 => ?_) (fun h12 => ?_)
    · skip
      omega
    · skip
      refine a_throwW C T0 (by decide) cl_X9_316 in_IOB xw_IOB (is := 332) (text := "there is no such entry") (by decide) dX9_checkEntry_15 dX9_checkEntry_18 dX9_checkEntry_19 dX9_checkEntry_22 dX9_checkEntry_25 ?_ ⟨by decide, by decide, by decide⟩ (Nat.le_of_ble_eq_true rfl)
      rw [hPost]
      exact ⟨rfl, rfl, rfl, rfl⟩
set_option maxRecDepth 20000 in
set_option maxHeartbeats 2000000 in
theorem c_takeWish {l : Launch} {E : ab_E} {base : Nat} (hl : l.stackTraces = false) {ad : Nat → Nat} (f : Nat → Nat → Int) (w : Nat × Nat × Int64 × UInt64) (x y u v n : Int) (zx : -2147483648 ≤ x ∧ x < 2147483648) (zy : -2147483648 ≤ y ∧ y < 2147483648) (zu : -2147483648 ≤ u ∧ u < 2147483648) (zv : -2147483648 ≤ v ∧ v < 2147483648) (zn : -2147483648 ≤ n ∧ n < 2147483648) (hnow : 0 ≤ f 0 6 ∧ f 0 6 ≤ 100000) (hdt : 0 ≤ f 0 7 ∧ f 0 7 ≤ 200) (hwt : 0 ≤ f 0 8 ∧ f 0 8 ≤ 60) (h : (((0 ≤ x ∧ x ≤ 20) ∧ (0 ≤ y ∧ y ≤ 20)) ∧ ((0 ≤ u ∧ u ≤ 20) ∧ (0 ≤ v ∧ v ≤ 20)) ∧ 1 ≤ n ∧ n ≤ 6)) (h2 : ¬ (x = u ∧ y = v)) : ab_M l E base yX9_takeWish cX9_takeWish 7 none 8 0 0 [.ref (ad 0), ii_v x, ii_v y, ii_v u, ii_v v, ii_v n] ab_x4 ad (f, w) (ab_V ab_x4 ad (wi_T f w.2.1 x y u v n, w)) := by
  obtain ⟨Post, hPost⟩ : ∃ P : ab_P, P = (ab_V ab_x4 ad (wi_T f w.2.1 x y u v n, w)) := ⟨_, rfl⟩
  rw [← hPost]
  refine ab_of RX9 [(0, .ref (ad 0)), (1, ii_v x), (2, ii_v y), (3, ii_v u), (4, ii_v v), (5, ii_v n)] hl (by decide) rfl (Nat.le_of_ble_eq_true rfl) rfl ?_
  intro p e s m args below meth c C T0 hnm
  have hpd := pd_b h.1.1 h.1.2 h.2.1.1 h.2.1.2
  have hmul : 0 ≤ pd_d x y u v * (100 + f 0 7) ∧ pd_d x y u v * (100 + f 0 7) ≤ 80 * 300 := ⟨Int.mul_nonneg (by omega) (by omega), Int.mul_le_mul (by omega) (by omega) (by omega) (by omega)⟩
  refine a_aload_n C dX9_takeWish_0 rfl ?_
  refine a_iload_n C dX9_takeWish_1 rfl ?_
  refine a_iload_n C dX9_takeWish_2 rfl ?_
  refine a_iload_n C dX9_takeWish_3 rfl ?_
  refine a_iload C dX9_takeWish_4 rfl ?_
  refine a_iload C dX9_takeWish_6 rfl ?_
  refine a_callV (o := 0) (As := [ii_v x, ii_v y, ii_v u, ii_v v, ii_v n]) C (c_checkWish hl f w x y u v n zx zy zu zv zn h h2) co_X9_checkWish in_X9 ml_X9_334 im_X9_checkWish se_X9_checkWish rfl rfl ar_X9_checkWish ⟨by decide, by decide, by decide, by decide⟩ rfl (Nat.le_of_ble_eq_true rfl) dX9_takeWish_8 (a_dV ?_) a_nV
  refine a_aload_n C dX9_takeWish_11 rfl ?_
  refine a_get (ci := 10) (i := 1) (v := .ref (ad 2)) C iw_X9 rfl (by decide) rfl fl_X9_19 rfl rfl dX9_takeWish_12 ?_
  refine a_getN (ci := 1) (i := 1) (v := .ref (ad (300 + w.2.1))) C iw_X0 rfl (by decide) rfl fn_X9_337 rfl rfl dX9_takeWish_15 ?_
  refine a_astore (L' := [(0, .ref (ad 0)), (1, ii_v x), (2, ii_v y), (3, ii_v u), (4, ii_v v), (5, ii_v n), (6, .ref (ad (300 + w.2.1)))]) C dX9_takeWish_18 (by decide) rfl ?_
  refine a_aload C dX9_takeWish_20 rfl ?_
  refine a_iload_n C dX9_takeWish_22 rfl ?_
  refine a_putN (ci := 7) (i := 0) C iw_X6 rfl (by decide) rfl tyX6 tyX6_ok nmX6 rfl rfl fn_X9_341 (ob_wish w) rfl rfl rfl dX9_takeWish_23 ?_
  obtain ⟨g1, eg1⟩ : ∃ F : Nat → Nat → Int, F = ii_up f (300 + w.2.1) 0 x := ⟨_, rfl⟩
  rw [← eg1]
  refine a_aload C dX9_takeWish_26 rfl ?_
  refine a_iload_n C dX9_takeWish_28 rfl ?_
  refine a_putN (ci := 7) (i := 1) C iw_X6 rfl (by decide) rfl tyX6 tyX6_ok nmX6 rfl rfl fn_X9_344 (ob_wish w) rfl rfl rfl dX9_takeWish_29 ?_
  obtain ⟨g2, eg2⟩ : ∃ F : Nat → Nat → Int, F = ii_up g1 (300 + w.2.1) 1 y := ⟨_, rfl⟩
  rw [← eg2]
  refine a_aload C dX9_takeWish_32 rfl ?_
  refine a_iload_n C dX9_takeWish_34 rfl ?_
  refine a_putN (ci := 7) (i := 2) C iw_X6 rfl (by decide) rfl tyX6 tyX6_ok nmX6 rfl rfl fn_X9_347 (ob_wish w) rfl rfl rfl dX9_takeWish_35 ?_
  obtain ⟨g3, eg3⟩ : ∃ F : Nat → Nat → Int, F = ii_up g2 (300 + w.2.1) 2 u := ⟨_, rfl⟩
  rw [← eg3]
  refine a_aload C dX9_takeWish_38 rfl ?_
  refine a_iload C dX9_takeWish_40 rfl ?_
  refine a_putN (ci := 7) (i := 3) C iw_X6 rfl (by decide) rfl tyX6 tyX6_ok nmX6 rfl rfl fn_X9_350 (ob_wish w) rfl rfl rfl dX9_takeWish_42 ?_
  obtain ⟨g4, eg4⟩ : ∃ F : Nat → Nat → Int, F = ii_up g3 (300 + w.2.1) 3 v := ⟨_, rfl⟩
  rw [← eg4]
  refine a_aload C dX9_takeWish_45 rfl ?_
  refine a_iload C dX9_takeWish_47 rfl ?_
  refine a_putN (ci := 7) (i := 4) C iw_X6 rfl (by decide) rfl tyX6 tyX6_ok nmX6 rfl rfl fn_X9_353 (ob_wish w) rfl rfl rfl dX9_takeWish_49 ?_
  obtain ⟨g5, eg5⟩ : ∃ F : Nat → Nat → Int, F = ii_up g4 (300 + w.2.1) 4 n := ⟨_, rfl⟩
  rw [← eg5]
  refine a_aload C dX9_takeWish_52 rfl ?_
  refine a_iload_n C dX9_takeWish_54 rfl ?_
  refine a_iload_n C dX9_takeWish_55 rfl ?_
  refine a_iload_n C dX9_takeWish_56 rfl ?_
  refine a_iload C dX9_takeWish_57 rfl ?_
  refine a_callS (As := [ii_v x, ii_v y, ii_v u, ii_v v]) C (c_distance hl g5 w x y u v (by omega) (by omega) (by omega) (by omega)) co_X9_distance in_X9 ml_X9_356 sc_X9_distance ar_X9_distance ⟨by decide, by decide, by decide, by decide⟩ rfl (Nat.le_of_ble_eq_true rfl) dX9_takeWish_59 (a_dR ?_) a_nR
  refine a_putN (ci := 7) (i := 5) C iw_X6 rfl (by decide) rfl tyX6 tyX6_ok nmX6 rfl rfl fn_X9_305 (ob_wish w) rfl rfl rfl dX9_takeWish_62 ?_
  obtain ⟨g6, eg6⟩ : ∃ F : Nat → Nat → Int, F = ii_up g5 (300 + w.2.1) 5 (pd_d x y u v) := ⟨_, rfl⟩
  rw [← eg6]
  refine a_aload C dX9_takeWish_65 rfl ?_
  refine a_aload_n C dX9_takeWish_67 rfl ?_
  refine a_get (ci := 10) (i := 6) (v := ii_v (g6 0 6)) C iw_X9 rfl (by decide) rfl fl_X9_58 rfl rfl dX9_takeWish_68 ?_
  refine a_top (w := ii_v (f 0 6)) (congrArg (fun q => ii_v q) (show g6 0 6 = (f 0 6) by rw [eg6, ii_up_o _ _ _ (by omega), eg5, ii_up_o _ _ _ (by omega), eg4, ii_up_o _ _ _ (by omega), eg3, ii_up_o _ _ _ (by omega), eg2, ii_up_o _ _ _ (by omega), eg1, ii_up_o _ _ _ (by omega)])) ?_
  refine a_aload_n C dX9_takeWish_71 rfl ?_
  refine a_get (ci := 10) (i := 8) (v := ii_v (g6 0 8)) C iw_X9 rfl (by decide) rfl fl_X9_65 rfl rfl dX9_takeWish_72 ?_
  refine a_top (w := ii_v (f 0 8)) (congrArg (fun q => ii_v q) (show g6 0 8 = (f 0 8) by rw [eg6, ii_up_o _ _ _ (by omega), eg5, ii_up_o _ _ _ (by omega), eg4, ii_up_o _ _ _ (by omega), eg3, ii_up_o _ _ _ (by omega), eg2, ii_up_o _ _ _ (by omega), eg1, ii_up_o _ _ _ (by omega)])) ?_
  refine a_iadd C dX9_takeWish_75 ?_
  refine a_putN (ci := 7) (i := 6) C iw_X6 rfl (by decide) rfl tyX6 tyX6_ok nmX6 rfl rfl fn_X9_205 (ob_wish w) rfl rfl rfl dX9_takeWish_76 ?_
  obtain ⟨g7, eg7⟩ : ∃ F : Nat → Nat → Int, F = ii_up g6 (300 + w.2.1) 6 ((f 0 6) + (f 0 8)) := ⟨_, rfl⟩
  rw [← eg7]
  refine a_aload C dX9_takeWish_79 rfl ?_
  refine a_aload C dX9_takeWish_81 rfl ?_
  refine a_getN (ci := 7) (i := 5) (v := ii_v (g7 (300 + w.2.1) 5)) C iw_X6 rfl (by decide) rfl fn_X9_305 (ob_wish w) rfl dX9_takeWish_83 ?_
  refine a_top (w := ii_v (pd_d x y u v)) (congrArg (fun q => ii_v q) (show g7 (300 + w.2.1) 5 = (pd_d x y u v) by rw [eg7, ii_up_k _ _ (by first | decide | omega), eg6, ii_up_s])) ?_
  refine a_bipush C dX9_takeWish_86 (by decide) ?_
  refine a_aload_n C dX9_takeWish_88 rfl ?_
  refine a_get (ci := 10) (i := 7) (v := ii_v (g7 0 7)) C iw_X9 rfl (by decide) rfl fl_X9_62 rfl rfl dX9_takeWish_89 ?_
  refine a_top (w := ii_v (f 0 7)) (congrArg (fun q => ii_v q) (show g7 0 7 = (f 0 7) by rw [eg7, ii_up_o _ _ _ (by omega), eg6, ii_up_o _ _ _ (by omega), eg5, ii_up_o _ _ _ (by omega), eg4, ii_up_o _ _ _ (by omega), eg3, ii_up_o _ _ _ (by omega), eg2, ii_up_o _ _ _ (by omega), eg1, ii_up_o _ _ _ (by omega)])) ?_
  refine a_iadd C dX9_takeWish_92 ?_
  refine a_imul C dX9_takeWish_93 ?_
  refine a_bipush C dX9_takeWish_94 (by decide) ?_
  refine a_idiv C dX9_takeWish_96 (by omega) (by omega) ?_
  refine a_putN (ci := 7) (i := 7) C iw_X6 rfl (by decide) rfl tyX6 tyX6_ok nmX6 rfl rfl fn_X9_208 (ob_wish w) rfl rfl rfl dX9_takeWish_97 ?_
  obtain ⟨g8, eg8⟩ : ∃ F : Nat → Nat → Int, F = ii_up g7 (300 + w.2.1) 7 (((pd_d x y u v) * (100 + (f 0 7))) / 100) := ⟨_, rfl⟩
  rw [← eg8]
  refine a_vret C ?_ (by decide) (by decide) dX9_takeWish_100
  rw [hPost]
  refine ⟨rfl, rfl, rfl, congrArg (fun q => (q, w)) ?_⟩
  subst eg8 eg7 eg6 eg5 eg4 eg3 eg2 eg1
  rfl
set_option maxRecDepth 20000 in
set_option maxHeartbeats 2000000 in
theorem x_takeWish {l : Launch} {E : ab_E} {base : Nat} (hl : l.stackTraces = false) {ad : Nat → Nat} (f : Nat → Nat → Int) (w : Nat × Nat × Int64 × UInt64) (x y u v n : Int) (zx : -2147483648 ≤ x ∧ x < 2147483648) (zy : -2147483648 ≤ y ∧ y < 2147483648) (zu : -2147483648 ≤ u ∧ u < 2147483648) (zv : -2147483648 ≤ v ∧ v < 2147483648) (zn : -2147483648 ≤ n ∧ n < 2147483648) (h : ¬ (((0 ≤ x ∧ x ≤ 20) ∧ (0 ≤ y ∧ y ≤ 20)) ∧ ((0 ≤ u ∧ u ≤ 20) ∧ (0 ≤ v ∧ v ≤ 20)) ∧ 1 ≤ n ∧ n ≤ 6)) : ab_M l E base yX9_takeWish cX9_takeWish 7 none 8 1 6 [.ref (ad 0), ii_v x, ii_v y, ii_v u, ii_v v, ii_v n] ab_x4 ad (f, w) (ab_T "java/lang/IllegalArgumentException" ab_x4 ad (f, w)) := by
  obtain ⟨Post, hPost⟩ : ∃ P : ab_P, P = (ab_T "java/lang/IllegalArgumentException" ab_x4 ad (f, w)) := ⟨_, rfl⟩
  rw [← hPost]
  refine ab_of RX9 [(0, .ref (ad 0)), (1, ii_v x), (2, ii_v y), (3, ii_v u), (4, ii_v v), (5, ii_v n)] hl (by decide) rfl (Nat.le_of_ble_eq_true rfl) rfl ?_
  intro p e s m args below meth c C T0 hnm
  refine a_aload_n C dX9_takeWish_0 rfl ?_
  refine a_iload_n C dX9_takeWish_1 rfl ?_
  refine a_iload_n C dX9_takeWish_2 rfl ?_
  refine a_iload_n C dX9_takeWish_3 rfl ?_
  refine a_iload C dX9_takeWish_4 rfl ?_
  refine a_iload C dX9_takeWish_6 rfl ?_
  refine a_callV (o := 0) (As := [ii_v x, ii_v y, ii_v u, ii_v v, ii_v n]) C (x_checkWish hl f w x y u v n zx zy zu zv zn h) co_X9_checkWish in_X9 ml_X9_334 im_X9_checkWish se_X9_checkWish rfl rfl ar_X9_checkWish ⟨by decide, by decide, by decide, by decide⟩ rfl (Nat.le_of_ble_eq_true rfl) dX9_takeWish_8 a_nT (a_dT ?_)
  refine a_out C T0 ?_ (by decide) (by decide)
  rw [hPost]
  exact ⟨rfl, rfl, rfl, rfl⟩
set_option maxRecDepth 20000 in
set_option maxHeartbeats 2000000 in
theorem x_takeWish2 {l : Launch} {E : ab_E} {base : Nat} (hl : l.stackTraces = false) {ad : Nat → Nat} (f : Nat → Nat → Int) (w : Nat × Nat × Int64 × UInt64) (x y u v n : Int) (zx : -2147483648 ≤ x ∧ x < 2147483648) (zy : -2147483648 ≤ y ∧ y < 2147483648) (zu : -2147483648 ≤ u ∧ u < 2147483648) (zv : -2147483648 ≤ v ∧ v < 2147483648) (zn : -2147483648 ≤ n ∧ n < 2147483648) (h : (((0 ≤ x ∧ x ≤ 20) ∧ (0 ≤ y ∧ y ≤ 20)) ∧ ((0 ≤ u ∧ u ≤ 20) ∧ (0 ≤ v ∧ v ≤ 20)) ∧ 1 ≤ n ∧ n ≤ 6)) (h2 : x = u ∧ y = v) : ab_M l E base yX9_takeWish cX9_takeWish 7 none 8 1 6 [.ref (ad 0), ii_v x, ii_v y, ii_v u, ii_v v, ii_v n] ab_x4 ad (f, w) (ab_T "java/lang/UnsupportedOperationException" ab_x4 ad (f, w)) := by
  obtain ⟨Post, hPost⟩ : ∃ P : ab_P, P = (ab_T "java/lang/UnsupportedOperationException" ab_x4 ad (f, w)) := ⟨_, rfl⟩
  rw [← hPost]
  refine ab_of RX9 [(0, .ref (ad 0)), (1, ii_v x), (2, ii_v y), (3, ii_v u), (4, ii_v v), (5, ii_v n)] hl (by decide) rfl (Nat.le_of_ble_eq_true rfl) rfl ?_
  intro p e s m args below meth c C T0 hnm
  refine a_aload_n C dX9_takeWish_0 rfl ?_
  refine a_iload_n C dX9_takeWish_1 rfl ?_
  refine a_iload_n C dX9_takeWish_2 rfl ?_
  refine a_iload_n C dX9_takeWish_3 rfl ?_
  refine a_iload C dX9_takeWish_4 rfl ?_
  refine a_iload C dX9_takeWish_6 rfl ?_
  refine a_callV (o := 0) (As := [ii_v x, ii_v y, ii_v u, ii_v v, ii_v n]) C (x_checkWish2 hl f w x y u v n zx zy zu zv zn h h2) co_X9_checkWish in_X9 ml_X9_334 im_X9_checkWish se_X9_checkWish rfl rfl ar_X9_checkWish ⟨by decide, by decide, by decide, by decide⟩ rfl (Nat.le_of_ble_eq_true rfl) dX9_takeWish_8 a_nT (a_dT ?_)
  refine a_out C T0 ?_ (by decide) (by decide)
  rw [hPost]
  exact ⟨rfl, rfl, rfl, rfl⟩
