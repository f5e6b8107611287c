/-! The lists' reads, and Book. -/
theorem ls_ho {w : Nat × Nat × Int64 × UInt64} {o N b : Nat} (h : (o = 1 ∧ N = w.1 ∧ b = 200) ∨ (o = 3 ∧ N = w.2.1 ∧ b = 300)) : (o = 1 ∧ N = w.1) ∨ (o = 3 ∧ N = w.2.1) := by
  rcases h with ⟨a, b, -⟩ | ⟨a, b, -⟩
  · exact Or.inl ⟨a, b⟩
  · exact Or.inr ⟨a, b⟩
/-- where a stop is -/
def pd_x (f : Nat → Nat → Int) (q : Nat) : Int := if q % 2 = 0 then f (300 + q / 2) 0 else f (300 + q / 2) 2
def pd_y (f : Nat → Nat → Int) (q : Nat) : Int := if q % 2 = 0 then f (300 + q / 2) 1 else f (300 + q / 2) 3
/-- the numbers of the stops and requests as the class keeps them: 0, 1 the place of a stop; 2 riders, 3 latest pickup, 4 longest ride, 5 pickup of a request -/
def pe_C (f v : Nat → Nat → Int) (nr : Nat) : Prop := (∀ q, q / 2 ≤ nr → pd_x f q = v 0 q ∧ pd_y f q = v 1 q ∧ (0 ≤ v 0 q ∧ v 0 q ≤ 20) ∧ 0 ≤ v 1 q ∧ v 1 q ≤ 20) ∧
  ∀ r, r ≤ nr → f (300 + r) 4 = v 2 r ∧ f (300 + r) 6 = v 3 r ∧ f (300 + r) 7 = v 4 r ∧ f (300 + r) 11 = v 5 r ∧ (0 ≤ v 2 r ∧ v 2 r ≤ 6) ∧ (0 ≤ v 3 r ∧ v 3 r ≤ 100000) ∧ (0 ≤ v 4 r ∧ v 4 r ≤ 1000) ∧ 0 ≤ v 5 r ∧ v 5 r ≤ 100000
theorem pe_same {f g v : Nat → Nat → Int} {nr : Nat} (h : pe_C f v nr) (hs : ∀ o, 300 ≤ o → g o = f o) : pe_C g v nr := by
  refine ⟨fun q hq => ?_, fun r hr => ?_⟩
  · have := h.1 q hq
    unfold pd_x pd_y at this ⊢
    rw [hs _ (by omega)]
    exact this
  · rw [hs _ (by omega)]
    exact h.2 r hr
set_option maxRecDepth 20000 in
set_option maxHeartbeats 2000000 in
theorem c_pcheck {l : Launch} {E : ab_E} {base : Nat} (hl : l.stackTraces = false) {ad : Nat → Nat} (f : Nat → Nat → Int) (w : Nat × Nat × Int64 × UInt64) (i n : Int) (zi : -2147483648 ≤ i ∧ i < 2147483648) (zn : -2147483648 ≤ n ∧ n < 2147483648) (h : 0 ≤ i ∧ i < n) : ab_M l E base yJ3_checkIndex_8e157 cJ3_checkIndex_8e157 3 (some .int) 1 0 0 [ii_v i, ii_v n, .null] ab_x4 ad (f, w) (ab_R (ii_v i) ab_x4 ad (f, w)) := by
  obtain ⟨Post, hPost⟩ : ∃ P : ab_P, P = (ab_R (ii_v i) ab_x4 ad (f, w)) := ⟨_, rfl⟩
  rw [← hPost]
  refine ab_of RJ3 [(0, ii_v i), (1, ii_v n), (2, .null)] hl (by decide) rfl (Nat.le_of_ble_eq_true rfl) rfl ?_
  intro p e s m args below meth c C T0 hnm
  refine a_iload_n C dJ3_checkIndex_8e157_0 rfl ?_
  refine a_if_lt (tgt := 9) C dJ3_checkIndex_8e157_1 rfl (by unfold ii_B; omega) (fun h1 => ?_) (fun h1 => ?_)
  · skip
    omega
  · skip
    refine a_iload_n C dJ3_checkIndex_8e157_4 rfl ?_
    refine a_iload_n C dJ3_checkIndex_8e157_5 rfl ?_
    refine a_icmp_lt (tgt := 16) C dJ3_checkIndex_8e157_6 rfl (by unfold ii_B; omega) (by unfold ii_B; omega) (fun h6 => ?_) (fun h6 => ?_)
    · skip
      refine a_iload_n C dJ3_checkIndex_8e157_16 rfl ?_
      refine a_iret C ?_ (by decide) (by decide) dJ3_checkIndex_8e157_17
      rw [hPost]
      exact ⟨rfl, rfl, rfl, rfl⟩
    · skip
      omega
set_option maxRecDepth 20000 in
set_option maxHeartbeats 2000000 in
theorem c_ocheck {l : Launch} {E : ab_E} {base : Nat} (hl : l.stackTraces = false) {ad : Nat → Nat} (f : Nat → Nat → Int) (w : Nat × Nat × Int64 × UInt64) (i n : Int) (zi : -2147483648 ≤ i ∧ i < 2147483648) (zn : -2147483648 ≤ n ∧ n < 2147483648) (h : 0 ≤ i ∧ i < n) : ab_M l E base yJ15_checkIndex_7cf53 cJ15_checkIndex_7cf53 2 (some .int) 2 0 0 [ii_v i, ii_v n] ab_x4 ad (f, w) (ab_R (ii_v i) ab_x4 ad (f, w)) := by
  obtain ⟨Post, hPost⟩ : ∃ P : ab_P, P = (ab_R (ii_v i) ab_x4 ad (f, w)) := ⟨_, rfl⟩
  rw [← hPost]
  refine ab_of RJ15 [(0, ii_v i), (1, ii_v n)] hl (by decide) rfl (Nat.le_of_ble_eq_true rfl) rfl ?_
  intro p e s m args below meth c C T0 hnm
  refine a_iload_n C dJ15_checkIndex_7cf53_0 rfl ?_
  refine a_iload_n C dJ15_checkIndex_7cf53_1 rfl ?_
  refine a_null C dJ15_checkIndex_7cf53_2 ?_
  refine a_callS (As := [ii_v i, ii_v n, .null]) C (c_pcheck hl f w i n zi zn h) co_J3_checkIndex_8e157 in_J3 ml_J15_105 sc_J3_checkIndex_8e157 ar_J3_checkIndex_8e157 ⟨by decide, by decide, by decide, by decide⟩ rfl (Nat.le_of_ble_eq_true rfl) dJ15_checkIndex_7cf53_3 (a_dR ?_) a_nR
  refine a_iret C ?_ (by decide) (by decide) dJ15_checkIndex_7cf53_6
  rw [hPost]
  exact ⟨rfl, rfl, rfl, rfl⟩
set_option maxRecDepth 20000 in
set_option maxHeartbeats 2000000 in
theorem c_lsize {l : Launch} {E : ab_E} {base : Nat} (hl : l.stackTraces = false) {ad : Nat → Nat} (f : Nat → Nat → Int) (w : Nat × Nat × Int64 × UInt64) {o N b : Nat} (ho : (o = 1 ∧ N = w.1 ∧ b = 200) ∨ (o = 3 ∧ N = w.2.1 ∧ b = 300)) (hN : N < 100)  : ab_M l E base yJx4a65c_size_8abf5 cJx4a65c_size_8abf5 1 (some .int) 1 0 0 [.ref (ad o)] ab_x4 ad (f, w) (ab_R (ii_v (N : Int)) ab_x4 ad (f, w)) := by
  obtain ⟨Post, hPost⟩ : ∃ P : ab_P, P = (ab_R (ii_v (N : Int)) ab_x4 ad (f, w)) := ⟨_, rfl⟩
  rw [← hPost]
  refine ab_of RJx4a65c [(0, .ref (ad o))] hl (by decide) rfl (Nat.le_of_ble_eq_true rfl) rfl ?_
  intro p e s m args below meth c C T0 hnm
  refine a_aload_n C dJx4a65c_size_8abf5_0 rfl ?_
  refine a_lsize (o := o) (N := N) C (ls_ho ho) (by decide) fl_Jx4a65c_48 dJx4a65c_size_8abf5_1 ?_
  refine a_iret C ?_ (by decide) (by decide) dJx4a65c_size_8abf5_4
  rw [hPost]
  exact ⟨rfl, rfl, rfl, rfl⟩
set_option maxRecDepth 20000 in
set_option maxHeartbeats 2000000 in
theorem c_ldata {l : Launch} {E : ab_E} {base : Nat} (hl : l.stackTraces = false) {ad : Nat → Nat} (f : Nat → Nat → Int) (w : Nat × Nat × Int64 × UInt64) {o N b : Nat} (ho : (o = 1 ∧ N = w.1 ∧ b = 200) ∨ (o = 3 ∧ N = w.2.1 ∧ b = 300)) (hN : N < 100) (i : Int) (j : Nat) (hi : i = (j : Int)) (hj : j < N) : ab_M l E base yJx4a65c_elementData_915e3 cJx4a65c_elementData_915e3 2 (some (.object "java/lang/Object")) 1 0 0 [.ref (ad o), ii_v i] ab_x4 ad (f, w) (ab_R (.ref (ad (b + j))) ab_x4 ad (f, w)) := by
  obtain ⟨Post, hPost⟩ : ∃ P : ab_P, P = (ab_R (.ref (ad (b + j))) ab_x4 ad (f, w)) := ⟨_, rfl⟩
  rw [← hPost]
  refine ab_of RJx4a65c [(0, .ref (ad o)), (1, ii_v i)] hl (by decide) rfl (Nat.le_of_ble_eq_true rfl) rfl ?_
  intro p e s m args below meth c C T0 hnm
  refine a_aload_n C dJx4a65c_elementData_915e3_0 rfl ?_
  refine a_ldata (o := o) (N := N) C (ls_ho ho) (by decide) (by omega) fl_Jx4a65c_9 dJx4a65c_elementData_915e3_1 ?_
  refine a_iload_n C dJx4a65c_elementData_915e3_4 rfl ?_
  refine a_laald (o := o) (N := N) (b := b) j C ho (by decide) (by omega) (by omega) dJx4a65c_elementData_915e3_5 ?_
  refine a_aret C (Or.inl ⟨_, rfl⟩) ?_ (by decide) (by decide) dJx4a65c_elementData_915e3_6
  rw [hPost]
  exact ⟨rfl, rfl, rfl, rfl⟩
set_option maxRecDepth 20000 in
set_option maxHeartbeats 2000000 in
theorem c_lget {l : Launch} {E : ab_E} {base : Nat} (hl : l.stackTraces = false) {ad : Nat → Nat} (f : Nat → Nat → Int) (w : Nat × Nat × Int64 × UInt64) {o N b : Nat} (ho : (o = 1 ∧ N = w.1 ∧ b = 200) ∨ (o = 3 ∧ N = w.2.1 ∧ b = 300)) (hN : N < 100) (i : Int) (j : Nat) (hi : i = (j : Int)) (hj : j < N) : ab_M l E base yJx4a65c_get_915e3 cJx4a65c_get_915e3 2 (some (.object "java/lang/Object")) 3 0 0 [.ref (ad o), ii_v i] ab_x4 ad (f, w) (ab_R (.ref (ad (b + j))) ab_x4 ad (f, w)) := by
  obtain ⟨Post, hPost⟩ : ∃ P : ab_P, P = (ab_R (.ref (ad (b + j))) ab_x4 ad (f, w)) := ⟨_, rfl⟩
  rw [← hPost]
  refine ab_of RJx4a65c [(0, .ref (ad o)), (1, ii_v i)] hl (by decide) rfl (Nat.le_of_ble_eq_true rfl) rfl ?_
  intro p e s m args below meth c C T0 hnm
  refine a_iload_n C dJx4a65c_get_915e3_0 rfl ?_
  refine a_aload_n C dJx4a65c_get_915e3_1 rfl ?_
  refine a_lsize (o := o) (N := N) C (ls_ho ho) (by decide) fl_Jx4a65c_48 dJx4a65c_get_915e3_2 ?_
  refine a_callS (As := [ii_v i, ii_v ((N : Nat) : Int)]) C (c_ocheck hl f w i N (by omega) (by omega) (by omega)) co_J15_checkIndex_7cf53 in_J15 ml_Jx4a65c_118 sc_J15_checkIndex_7cf53 ar_J15_checkIndex_7cf53 ⟨by decide, by decide, by decide, by decide⟩ rfl (Nat.le_of_ble_eq_true rfl) dJx4a65c_get_915e3_5 (a_dR ?_) a_nR
  refine a_pop C dJx4a65c_get_915e3_8 rfl ?_
  refine a_aload_n C dJx4a65c_get_915e3_9 rfl ?_
  refine a_iload_n C dJx4a65c_get_915e3_10 rfl ?_
  refine a_callL (o := o) (As := [ii_v i]) C (c_ldata hl f w ho hN i j hi hj) co_Jx4a65c_elementData_915e3 in_Jx4a65c ml_Jx4a65c_123 im_Jx4a65c_elementData_915e3 se_Jx4a65c_elementData_915e3 rfl (by omega) (by decide) ar_Jx4a65c_elementData_915e3 ⟨by decide, by decide, by decide, by decide⟩ rfl (Nat.le_of_ble_eq_true rfl) dJx4a65c_get_915e3_11 (a_dR ?_) a_nR
  refine a_aret C (Or.inl ⟨_, rfl⟩) ?_ (by decide) (by decide) dJx4a65c_get_915e3_14
  rw [hPost]
  exact ⟨rfl, rfl, rfl, rfl⟩
set_option maxRecDepth 20000 in
set_option maxHeartbeats 2000000 in
theorem c_count {l : Launch} {E : ab_E} {base : Nat} (hl : l.stackTraces = false) {ad : Nat → Nat} (f : Nat → Nat → Int) (w : Nat × Nat × Int64 × UInt64) (hr : w.2.1 ≤ 30)  : ab_M l E base yX0_count cX0_count 1 (some .int) 2 0 0 [.ref (ad 2)] ab_x4 ad (f, w) (ab_R (ii_v (w.2.1 : Int)) ab_x4 ad (f, w)) := by
  obtain ⟨Post, hPost⟩ : ∃ P : ab_P, P = (ab_R (ii_v (w.2.1 : Int)) ab_x4 ad (f, w)) := ⟨_, rfl⟩
  rw [← hPost]
  refine ab_of RX0 [(0, .ref (ad 2))] hl (by decide) rfl (Nat.le_of_ble_eq_true rfl) rfl ?_
  intro p e s m args below meth c C T0 hnm
  refine a_aload_n C dX0_count_0 rfl ?_
  refine a_get (ci := 1) (i := 0) (v := .ref (ad 3)) C iw_X0 rfl (by decide) rfl fl_X0_10 rfl rfl dX0_count_1 ?_
  refine a_callL (o := 3) (As := []) C (c_lsize hl f w (Or.inr ⟨rfl, rfl, rfl⟩) (by omega)) co_Jx4a65c_size_8abf5 in_Jx4a65c ml_X0_23 im_Jx4a65c_size_8abf5 se_Jx4a65c_size_8abf5 rfl (Or.inr rfl) (by decide) ar_Jx4a65c_size_8abf5 ⟨by decide, by decide, by decide, by decide⟩ rfl (Nat.le_of_ble_eq_true rfl) dX0_count_4 (a_dR ?_) a_nR
  refine a_iret C ?_ (by decide) (by decide) dX0_count_7
  rw [hPost]
  exact ⟨rfl, rfl, rfl, rfl⟩
set_option maxRecDepth 20000 in
set_option maxHeartbeats 2000000 in
theorem c_requestAt {l : Launch} {E : ab_E} {base : Nat} (hl : l.stackTraces = false) {ad : Nat → Nat} (f : Nat → Nat → Int) (w : Nat × Nat × Int64 × UInt64) (hr : w.2.1 ≤ 30) (i : Int) (j : Nat) (hi : i = (j : Int)) (hj : j ≤ w.2.1) : ab_M l E base yX0_requestAt cX0_requestAt 2 (some (.object "ShuttleRow$Request")) 4 0 0 [.ref (ad 2), ii_v i] ab_x4 ad (f, w) (ab_R (.ref (ad (300 + j))) ab_x4 ad (f, w)) := by
  obtain ⟨Post, hPost⟩ : ∃ P : ab_P, P = (ab_R (.ref (ad (300 + j))) ab_x4 ad (f, w)) := ⟨_, rfl⟩
  rw [← hPost]
  refine ab_of RX0 [(0, .ref (ad 2)), (1, ii_v i)] hl (by decide) rfl (Nat.le_of_ble_eq_true rfl) rfl ?_
  intro p e s m args below meth c C T0 hnm
  refine a_iload_n C dX0_requestAt_0 rfl ?_
  refine a_if_lt (tgt := 15) C dX0_requestAt_1 rfl (by unfold ii_B; omega) (fun h1 => ?_) (fun h1 => ?_)
  · skip
    omega
  · skip
    refine a_iload_n C dX0_requestAt_4 rfl ?_
    refine a_aload_n C dX0_requestAt_5 rfl ?_
    refine a_get (ci := 1) (i := 0) (v := .ref (ad 3)) C iw_X0 rfl (by decide) rfl fl_X0_10 rfl rfl dX0_requestAt_6 ?_
    refine a_callL (o := 3) (As := []) C (c_lsize hl f w (Or.inr ⟨rfl, rfl, rfl⟩) (by omega)) co_Jx4a65c_size_8abf5 in_Jx4a65c ml_X0_23 im_Jx4a65c_size_8abf5 se_Jx4a65c_size_8abf5 rfl (Or.inr rfl) (by decide) ar_Jx4a65c_size_8abf5 ⟨by decide, by decide, by decide, by decide⟩ rfl (Nat.le_of_ble_eq_true rfl) dX0_requestAt_9 (a_dR ?_) a_nR
    refine a_icmp_lt (tgt := 20) C dX0_requestAt_12 rfl (by unfold ii_B; omega) (by unfold ii_B; omega) (fun h12 => ?_) (fun h12 => ?_)
    · skip
      refine a_aload_n C dX0_requestAt_20 rfl ?_
      refine a_get (ci := 1) (i := 0) (v := .ref (ad 3)) C iw_X0 rfl (by decide) rfl fl_X0_10 rfl rfl dX0_requestAt_21 ?_
      refine a_iload_n C dX0_requestAt_24 rfl ?_
      refine a_callL (o := 3) (As := [ii_v i]) C (c_lget hl f w (Or.inr ⟨rfl, rfl, rfl⟩) (by omega) i j hi (by omega)) co_Jx4a65c_get_915e3 in_Jx4a65c ml_X0_27 im_Jx4a65c_get_915e3 se_Jx4a65c_get_915e3 rfl (Or.inr rfl) (by decide) ar_Jx4a65c_get_915e3 ⟨by decide, by decide, by decide, by decide⟩ rfl (Nat.le_of_ble_eq_true rfl) dX0_requestAt_25 (a_dR ?_) a_nR
      refine a_ccast (ci := 7) C rfl (ob_req hj) cl_X0_16 dX0_requestAt_28 ?_
      refine a_aret C (Or.inl ⟨_, rfl⟩) ?_ (by decide) (by decide) dX0_requestAt_31
      rw [hPost]
      exact ⟨rfl, rfl, rfl, rfl⟩
    · skip
      refine a_aload_n C dX0_requestAt_15 rfl ?_
      refine a_get (ci := 1) (i := 1) (v := .ref (ad (300 + w.2.1))) C iw_X0 rfl (by decide) rfl fl_X0_19 rfl rfl dX0_requestAt_16 ?_
      refine a_aret C (Or.inl ⟨_, rfl⟩) ?_ (by decide) (by decide) dX0_requestAt_19
      rw [hPost]
      exact ⟨by rw [show j = w.2.1 by omega], rfl, rfl, rfl⟩
set_option maxRecDepth 20000 in
set_option maxHeartbeats 2000000 in
theorem c_xOf {l : Launch} {E : ab_E} {base : Nat} (hl : l.stackTraces = false) {ad : Nat → Nat} (f : Nat → Nat → Int) (w : Nat × Nat × Int64 × UInt64) (hr : w.2.1 ≤ 30) {v : Nat → Nat → Int} (hv : pe_C f v w.2.1) (q : Nat) (hq : q / 2 ≤ w.2.1)  : ab_M l E base yX0_xOf cX0_xOf 3 (some .int) 5 0 0 [.ref (ad 2), ii_v ((q : Nat) : Int)] ab_x4 ad (f, w) (ab_R (ii_v (v 0 q)) ab_x4 ad (f, w)) := by
  obtain ⟨Post, hPost⟩ : ∃ P : ab_P, P = (ab_R (ii_v (v 0 q)) ab_x4 ad (f, w)) := ⟨_, rfl⟩
  rw [← hPost]
  refine ab_of RX0 [(0, .ref (ad 2)), (1, ii_v ((q : Nat) : Int))] hl (by decide) rfl (Nat.le_of_ble_eq_true rfl) rfl ?_
  intro p e s m args below meth c C T0 hnm
  have hw := hv.1 q hq
  have hq5 : q < 1000 := by omega
  refine a_aload_n C dX0_xOf_0 rfl ?_
  refine a_iload_n C dX0_xOf_1 rfl ?_
  refine a_callSN (As := [ii_v ((q : Nat) : Int)]) C (c_requestOf hl f w q (by omega)) co_X9_requestOf in_X9 mn_X0_35 sc_X9_requestOf ar_X9_requestOf ⟨by decide, by decide, by decide, by decide⟩ rfl (Nat.le_of_ble_eq_true rfl) dX0_xOf_2 (a_dR ?_) a_nR
  refine a_callV (o := 2) (As := [ii_v (((q / 2) : Nat) : Int)]) C (c_requestAt hl f w hr (((q / 2) : Nat) : Int) (q / 2) (by omega) (by omega)) co_X0_requestAt in_X0 ml_X0_41 im_X0_requestAt se_X0_requestAt rfl rfl ar_X0_requestAt ⟨by decide, by decide, by decide, by decide⟩ rfl (Nat.le_of_ble_eq_true rfl) dX0_xOf_5 (a_dR ?_) a_nR
  refine a_astore_n (L' := [(0, .ref (ad 2)), (1, ii_v ((q : Nat) : Int)), (2, .ref (ad (300 + (q / 2))))]) C dX0_xOf_8 (by decide) rfl ?_
  refine a_iload_n C dX0_xOf_9 rfl ?_
  refine a_callSN (As := [ii_v ((q : Nat) : Int)]) C (c_picksUp hl f w q (by omega)) co_X9_picksUp in_X9 mn_X0_45 sc_X9_picksUp ar_X9_picksUp ⟨by decide, by decide, by decide, by decide⟩ rfl (Nat.le_of_ble_eq_true rfl) dX0_xOf_10 (a_dR ?_) a_nR
  refine a_bif_eq (tgt := 23) C dX0_xOf_13 rfl (fun h13 => ?_) (fun h13 => ?_)
  · skip
    refine a_aload_n C dX0_xOf_23 rfl ?_
    refine a_getN (ci := 7) (i := 2) (v := ii_v (f (300 + (q / 2)) 2)) C iw_X6 rfl (by decide) rfl fn_X0_53 (ob_req (by omega)) rfl dX0_xOf_24 ?_
    refine a_iret C ?_ (by decide) (by decide) dX0_xOf_27
    rw [hPost]
    exact ⟨rt_i (by rw [← hw.1]; unfold pd_x; first | rw [if_pos (by assumption)] | rw [if_neg (by assumption)]), rfl, rfl, rfl⟩
  · skip
    refine a_aload_n C dX0_xOf_16 rfl ?_
    refine a_getN (ci := 7) (i := 0) (v := ii_v (f (300 + (q / 2)) 0)) C iw_X6 rfl (by decide) rfl fn_X0_49 (ob_req (by omega)) rfl dX0_xOf_17 ?_
    refine a_goto (tgt := 27) C dX0_xOf_20 rfl ?_
    refine a_iret C ?_ (by decide) (by decide) dX0_xOf_27
    rw [hPost]
    exact ⟨rt_i (by rw [← hw.1]; unfold pd_x; first | rw [if_pos (by assumption)] | rw [if_neg (by assumption)]), rfl, rfl, rfl⟩
set_option maxRecDepth 20000 in
set_option maxHeartbeats 2000000 in
theorem c_yOf {l : Launch} {E : ab_E} {base : Nat} (hl : l.stackTraces = false) {ad : Nat → Nat} (f : Nat → Nat → Int) (w : Nat × Nat × Int64 × UInt64) (hr : w.2.1 ≤ 30) {v : Nat → Nat → Int} (hv : pe_C f v w.2.1) (q : Nat) (hq : q / 2 ≤ w.2.1)  : ab_M l E base yX0_yOf cX0_yOf 3 (some .int) 5 0 0 [.ref (ad 2), ii_v ((q : Nat) : Int)] ab_x4 ad (f, w) (ab_R (ii_v (v 1 q)) ab_x4 ad (f, w)) := by
  obtain ⟨Post, hPost⟩ : ∃ P : ab_P, P = (ab_R (ii_v (v 1 q)) ab_x4 ad (f, w)) := ⟨_, rfl⟩
  rw [← hPost]
  refine ab_of RX0 [(0, .ref (ad 2)), (1, ii_v ((q : Nat) : Int))] hl (by decide) rfl (Nat.le_of_ble_eq_true rfl) rfl ?_
  intro p e s m args below meth c C T0 hnm
  have hw := hv.1 q hq
  have hq5 : q < 1000 := by omega
  refine a_aload_n C dX0_yOf_0 rfl ?_
  refine a_iload_n C dX0_yOf_1 rfl ?_
  refine a_callSN (As := [ii_v ((q : Nat) : Int)]) C (c_requestOf hl f w q (by omega)) co_X9_requestOf in_X9 mn_X0_35 sc_X9_requestOf ar_X9_requestOf ⟨by decide, by decide, by decide, by decide⟩ rfl (Nat.le_of_ble_eq_true rfl) dX0_yOf_2 (a_dR ?_) a_nR
  refine a_callV (o := 2) (As := [ii_v (((q / 2) : Nat) : Int)]) C (c_requestAt hl f w hr (((q / 2) : Nat) : Int) (q / 2) (by omega) (by omega)) co_X0_requestAt in_X0 ml_X0_41 im_X0_requestAt se_X0_requestAt rfl rfl ar_X0_requestAt ⟨by decide, by decide, by decide, by decide⟩ rfl (Nat.le_of_ble_eq_true rfl) dX0_yOf_5 (a_dR ?_) a_nR
  refine a_astore_n (L' := [(0, .ref (ad 2)), (1, ii_v ((q : Nat) : Int)), (2, .ref (ad (300 + (q / 2))))]) C dX0_yOf_8 (by decide) rfl ?_
  refine a_iload_n C dX0_yOf_9 rfl ?_
  refine a_callSN (As := [ii_v ((q : Nat) : Int)]) C (c_picksUp hl f w q (by omega)) co_X9_picksUp in_X9 mn_X0_45 sc_X9_picksUp ar_X9_picksUp ⟨by decide, by decide, by decide, by decide⟩ rfl (Nat.le_of_ble_eq_true rfl) dX0_yOf_10 (a_dR ?_) a_nR
  refine a_bif_eq (tgt := 23) C dX0_yOf_13 rfl (fun h13 => ?_) (fun h13 => ?_)
  · skip
    refine a_aload_n C dX0_yOf_23 rfl ?_
    refine a_getN (ci := 7) (i := 3) (v := ii_v (f (300 + (q / 2)) 3)) C iw_X6 rfl (by decide) rfl fn_X0_59 (ob_req (by omega)) rfl dX0_yOf_24 ?_
    refine a_iret C ?_ (by decide) (by decide) dX0_yOf_27
    rw [hPost]
    exact ⟨rt_i (by rw [← hw.2.1]; unfold pd_y; first | rw [if_pos (by assumption)] | rw [if_neg (by assumption)]), rfl, rfl, rfl⟩
  · skip
    refine a_aload_n C dX0_yOf_16 rfl ?_
    refine a_getN (ci := 7) (i := 1) (v := ii_v (f (300 + (q / 2)) 1)) C iw_X6 rfl (by decide) rfl fn_X0_56 (ob_req (by omega)) rfl dX0_yOf_17 ?_
    refine a_goto (tgt := 27) C dX0_yOf_20 rfl ?_
    refine a_iret C ?_ (by decide) (by decide) dX0_yOf_27
    rw [hPost]
    exact ⟨rt_i (by rw [← hw.2.1]; unfold pd_y; first | rw [if_pos (by assumption)] | rw [if_neg (by assumption)]), rfl, rfl, rfl⟩
set_option maxRecDepth 20000 in
set_option maxHeartbeats 2000000 in
theorem c_wayTo {l : Launch} {E : ab_E} {base : Nat} (hl : l.stackTraces = false) {ad : Nat → Nat} (f : Nat → Nat → Int) (w : Nat × Nat × Int64 × UInt64) (hr : w.2.1 ≤ 30) {v : Nat → Nat → Int} (hv : pe_C f v w.2.1) (q : Nat) (hq : q / 2 ≤ w.2.1) (x y : Int) (hx : 0 ≤ x ∧ x ≤ 20) (hy : 0 ≤ y ∧ y ≤ 20) : ab_M l E base yX0_wayTo cX0_wayTo 4 (some .int) 6 0 0 [.ref (ad 2), ii_v ((q : Nat) : Int), ii_v x, ii_v y] ab_x4 ad (f, w) (ab_R (ii_v (pd_d x y (v 0 q) (v 1 q))) ab_x4 ad (f, w)) := by
  obtain ⟨Post, hPost⟩ : ∃ P : ab_P, P = (ab_R (ii_v (pd_d x y (v 0 q) (v 1 q))) ab_x4 ad (f, w)) := ⟨_, rfl⟩
  rw [← hPost]
  refine ab_of RX0 [(0, .ref (ad 2)), (1, ii_v ((q : Nat) : Int)), (2, ii_v x), (3, ii_v y)] hl (by decide) rfl (Nat.le_of_ble_eq_true rfl) rfl ?_
  intro p e s m args below meth c C T0 hnm
  have hw := hv.1 q hq
  refine a_iload_n C dX0_wayTo_0 rfl ?_
  refine a_iload_n C dX0_wayTo_1 rfl ?_
  refine a_aload_n C dX0_wayTo_2 rfl ?_
  refine a_iload_n C dX0_wayTo_3 rfl ?_
  refine a_callV (o := 2) (As := [ii_v ((q : Nat) : Int)]) C (c_xOf hl f w hr hv q (by omega)) co_X0_xOf in_X0 ml_X0_62 im_X0_xOf se_X0_xOf rfl rfl ar_X0_xOf ⟨by decide, by decide, by decide, by decide⟩ rfl (Nat.le_of_ble_eq_true rfl) dX0_wayTo_4 (a_dR ?_) a_nR
  refine a_aload_n C dX0_wayTo_7 rfl ?_
  refine a_iload_n C dX0_wayTo_8 rfl ?_
  refine a_callV (o := 2) (As := [ii_v ((q : Nat) : Int)]) C (c_yOf hl f w hr hv q (by omega)) co_X0_yOf in_X0 ml_X0_65 im_X0_yOf se_X0_yOf rfl rfl ar_X0_yOf ⟨by decide, by decide, by decide, by decide⟩ rfl (Nat.le_of_ble_eq_true rfl) dX0_wayTo_9 (a_dR ?_) a_nR
  refine a_callSN (As := [ii_v x, ii_v y, ii_v (v 0 q), ii_v (v 1 q)]) C (c_distance hl f w x y (v 0 q) (v 1 q) (by omega) (by omega) (by omega) (by omega)) co_X9_distance in_X9 mn_X0_68 sc_X9_distance ar_X9_distance ⟨by decide, by decide, by decide, by decide⟩ rfl (Nat.le_of_ble_eq_true rfl) dX0_wayTo_12 (a_dR ?_) a_nR
  refine a_iret C ?_ (by decide) (by decide) dX0_wayTo_15
  rw [hPost]
  exact ⟨rfl, rfl, rfl, rfl⟩
