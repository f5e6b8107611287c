/-! The model: places, tours that are tried. -/
def pj_x (f : Nat → Nat → Int) (q : Nat) : Int := if q % 2 = 0 then f 53 (q / 2) else f 55 (q / 2)
def pj_y (f : Nat → Nat → Int) (q : Nat) : Int := if q % 2 = 0 then f 54 (q / 2) else f 56 (q / 2)
/-- the model's numbers of stops and requests -/
def pj_C (f v : Nat → Nat → Int) : Prop := (∀ q, q / 2 ≤ 30 → pj_x f q = v 0 q ∧ pj_y f q = v 1 q ∧ (0 ≤ v 0 q ∧ v 0 q ≤ 20) ∧ 0 ≤ v 1 q ∧ v 1 q ≤ 20) ∧
  ∀ r, r ≤ 30 → f 57 r = v 2 r ∧ f 58 r = v 3 r ∧ f 59 r = v 4 r ∧ f 61 r = v 5 r ∧ (0 ≤ v 2 r ∧ v 2 r ≤ 6) ∧ (0 ≤ v 3 r ∧ v 3 r ≤ 100000) ∧ (0 ≤ v 4 r ∧ v 4 r ≤ 1000) ∧ 0 ≤ v 5 r ∧ v 5 r ≤ 100000
theorem pj_same {f g v : Nat → Nat → Int} (h : pj_C f v) (hs : ∀ o, 53 ≤ o ∧ o ≤ 61 → g o = f o) : pj_C g v := by
  refine ⟨fun q hq => ?_, fun r hr => ?_⟩
  · have h1 := h.1 q hq
    unfold pj_x pj_y at h1 ⊢
    rw [hs 53 (by decide), hs 54 (by decide), hs 55 (by decide), hs 56 (by decide)]
    exact h1
  · rw [hs 57 (by decide), hs 58 (by decide), hs 59 (by decide), hs 61 (by decide)]
    exact h.2 r hr
/-- a bus's numbers in the model are in their ranges -/
def pk_B (f : Nat → Nat → Int) (b : Nat) : Prop := (0 ≤ f 41 b ∧ f 41 b ≤ 6) ∧ (0 ≤ f 46 b ∧ f 46 b ≤ 20) ∧ (0 ≤ f 47 b ∧ f 47 b ≤ 20) ∧ (0 ≤ f 44 b ∧ f 44 b ≤ 20) ∧ (0 ≤ f 45 b ∧ f 45 b ≤ 20) ∧ (-1000 ≤ f 43 b ∧ f 43 b ≤ 1000)
/-- the tour that is tried -/
def tr_I (f : Nat → Nat → Int) (S : List Nat) : Prop := f 40 37 = (S.length : Int) ∧ S.length ≤ 8 ∧ (∀ j, j < S.length → f 75 j = ((S.getD j 0 : Nat) : Int)) ∧ ∀ j, j < S.length → S.getD j 0 < 64
theorem md_iff {P : Prop} [Decidable P] : (if P then (0 : Int) else 1) = if ¬ P then 1 else 0 := by
  by_cases h : P
  · rw [if_pos h, if_neg (fun z => z h)]
  · rw [if_neg h, if_pos h]
/-- the riders on board -/
def ab_n (f : Nat → Nat → Int) (b : Nat) : Nat → Int
  | 0 => 0
  | k + 1 => if f 63 k = 114 ∧ f 60 k = (b : Int) then ab_n f b k + f 57 k else ab_n f b k + 0
set_option maxRecDepth 20000 in
set_option maxHeartbeats 2000000 in
theorem m_isBetween {l : Launch} {E : ab_E} {base : Nat} (hl : l.stackTraces = false) {ad : Nat → Nat} (f : Nat → Nat → Int) (w : Nat × Nat × Int64 × UInt64) (v lo hi : Int) (zv : -2147483648 ≤ v ∧ v < 2147483648) (zlo : -2147483648 ≤ lo ∧ lo < 2147483648) (zhi : -2147483648 ≤ hi ∧ hi < 2147483648) : ab_M l E base yX10_isBetween cX10_isBetween 3 (some .boolean) 1 0 0 [ii_v v, ii_v lo, ii_v hi] ab_x4 ad (f, w) (ab_R (ii_v (if lo ≤ v ∧ v ≤ hi then 1 else 0)) ab_x4 ad (f, w)) := by
  obtain ⟨Post, hPost⟩ : ∃ P : ab_P, P = (ab_R (ii_v (if lo ≤ v ∧ v ≤ hi then 1 else 0)) ab_x4 ad (f, w)) := ⟨_, rfl⟩
  rw [← hPost]
  refine ab_of RX10 [(0, ii_v v), (1, ii_v lo), (2, ii_v hi)] hl (by decide) rfl (Nat.le_of_ble_eq_true rfl) rfl ?_
  intro p e s m args below meth c C T0 hnm
  refine a_iload_n C dX10_isBetween_0 rfl ?_
  refine a_iload_n C dX10_isBetween_1 rfl ?_
  refine a_icmp_gt (tgt := 14) C dX10_isBetween_2 rfl (by unfold ii_B; omega) (by unfold ii_B; omega) (fun h2 => ?_) (fun h2 => ?_)
  · skip
    refine a_iconst C dX10_isBetween_14 ?_
    refine a_zret C (by decide) ?_ (by decide) (by decide) dX10_isBetween_15
    rw [hPost]
    exact ⟨by first | exact rt_1 (by first | assumption | omega) | exact rt_0 (by first | assumption | omega), rfl, rfl, rfl⟩
  · skip
    refine a_iload_n C dX10_isBetween_5 rfl ?_
    refine a_iload_n C dX10_isBetween_6 rfl ?_
    refine a_icmp_gt (tgt := 14) C dX10_isBetween_7 rfl (by unfold ii_B; omega) (by unfold ii_B; omega) (fun h7 => ?_) (fun h7 => ?_)
    · skip
      refine a_iconst C dX10_isBetween_14 ?_
      refine a_zret C (by decide) ?_ (by decide) (by decide) dX10_isBetween_15
      rw [hPost]
      exact ⟨by first | exact rt_1 (by first | assumption | omega) | exact rt_0 (by first | assumption | omega), rfl, rfl, rfl⟩
    · skip
      refine a_iconst C dX10_isBetween_10 ?_
      refine a_goto (tgt := 15) C dX10_isBetween_11 rfl ?_
      refine a_zret C (by decide) ?_ (by decide) (by decide) dX10_isBetween_15
      rw [hPost]
      exact ⟨by first | exact rt_1 (by first | assumption | omega) | exact rt_0 (by first | assumption | omega), rfl, rfl, rfl⟩
set_option maxRecDepth 20000 in
set_option maxHeartbeats 2000000 in
theorem m_isBus {l : Launch} {E : ab_E} {base : Nat} (hl : l.stackTraces = false) {ad : Nat → Nat} (f : Nat → Nat → Int) (w : Nat × Nat × Int64 × UInt64) (i : Int) (zi : -2147483648 ≤ i ∧ i < 2147483648) (hm : 0 ≤ f 40 29 ∧ f 40 29 ≤ 100) : ab_M l E base yX10_isBus cX10_isBus 2 (some .boolean) 2 0 0 [.ref (ad 40), ii_v i] ab_x4 ad (f, w) (ab_R (ii_v (if 0 ≤ i ∧ i ≤ f 40 29 - 1 then 1 else 0)) ab_x4 ad (f, w)) := by
  obtain ⟨Post, hPost⟩ : ∃ P : ab_P, P = (ab_R (ii_v (if 0 ≤ i ∧ i ≤ f 40 29 - 1 then 1 else 0)) ab_x4 ad (f, w)) := ⟨_, rfl⟩
  rw [← hPost]
  refine ab_of RX10 [(0, .ref (ad 40)), (1, ii_v i)] hl (by decide) rfl (Nat.le_of_ble_eq_true rfl) rfl ?_
  intro p e s m args below meth c C T0 hnm
  refine a_iload_n C dX10_isBus_0 rfl ?_
  refine a_iconst C dX10_isBus_1 ?_
  refine a_aload_n C dX10_isBus_2 rfl ?_
  refine a_get (ci := 11) (i := 29) (v := ii_v (f 40 29)) C iw_X10 rfl (by decide) rfl fl_X10_117 rfl rfl dX10_isBus_3 ?_
  refine a_iconst C dX10_isBus_6 ?_
  refine a_isub C dX10_isBus_7 ?_
  refine a_callS (As := [ii_v i, ii_v 0, ii_v ((f 40 29) - 1)]) C (m_isBetween hl f w i 0 ((f 40 29) - 1) (by omega) (by omega) (by omega)) co_X10_isBetween in_X10 ml_X10_120 sc_X10_isBetween ar_X10_isBetween ⟨by decide, by decide, by decide, by decide⟩ rfl (Nat.le_of_ble_eq_true rfl) dX10_isBus_8 (a_dR ?_) a_nR
  refine a_zret C ii_nb ?_ (by decide) (by decide) dX10_isBus_11
  rw [hPost]
  exact ⟨rfl, rfl, rfl, rfl⟩
set_option maxRecDepth 20000 in
set_option maxHeartbeats 2000000 in
theorem m_isRequest {l : Launch} {E : ab_E} {base : Nat} (hl : l.stackTraces = false) {ad : Nat → Nat} (f : Nat → Nat → Int) (w : Nat × Nat × Int64 × UInt64) (i : Int) (zi : -2147483648 ≤ i ∧ i < 2147483648) (hm : 0 ≤ f 40 30 ∧ f 40 30 ≤ 100) : ab_M l E base yX10_isRequest cX10_isRequest 2 (some .boolean) 2 0 0 [.ref (ad 40), ii_v i] ab_x4 ad (f, w) (ab_R (ii_v (if 0 ≤ i ∧ i ≤ f 40 30 - 1 then 1 else 0)) ab_x4 ad (f, w)) := by
  obtain ⟨Post, hPost⟩ : ∃ P : ab_P, P = (ab_R (ii_v (if 0 ≤ i ∧ i ≤ f 40 30 - 1 then 1 else 0)) ab_x4 ad (f, w)) := ⟨_, rfl⟩
  rw [← hPost]
  refine ab_of RX10 [(0, .ref (ad 40)), (1, ii_v i)] hl (by decide) rfl (Nat.le_of_ble_eq_true rfl) rfl ?_
  intro p e s m args below meth c C T0 hnm
  refine a_iload_n C dX10_isRequest_0 rfl ?_
  refine a_iconst C dX10_isRequest_1 ?_
  refine a_aload_n C dX10_isRequest_2 rfl ?_
  refine a_get (ci := 11) (i := 30) (v := ii_v (f 40 30)) C iw_X10 rfl (by decide) rfl fl_X10_124 rfl rfl dX10_isRequest_3 ?_
  refine a_iconst C dX10_isRequest_6 ?_
  refine a_isub C dX10_isRequest_7 ?_
  refine a_callS (As := [ii_v i, ii_v 0, ii_v ((f 40 30) - 1)]) C (m_isBetween hl f w i 0 ((f 40 30) - 1) (by omega) (by omega) (by omega)) co_X10_isBetween in_X10 ml_X10_120 sc_X10_isBetween ar_X10_isBetween ⟨by decide, by decide, by decide, by decide⟩ rfl (Nat.le_of_ble_eq_true rfl) dX10_isRequest_8 (a_dR ?_) a_nR
  refine a_zret C ii_nb ?_ (by decide) (by decide) dX10_isRequest_11
  rw [hPost]
  exact ⟨rfl, rfl, rfl, rfl⟩
set_option maxRecDepth 20000 in
set_option maxHeartbeats 2000000 in
theorem m_isEntry {l : Launch} {E : ab_E} {base : Nat} (hl : l.stackTraces = false) {ad : Nat → Nat} (f : Nat → Nat → Int) (w : Nat × Nat × Int64 × UInt64) (i : Int) (zi : -2147483648 ≤ i ∧ i < 2147483648) (hm : 0 ≤ f 40 31 ∧ f 40 31 ≤ 100) : ab_M l E base yX10_isEntry cX10_isEntry 2 (some .boolean) 2 0 0 [.ref (ad 40), ii_v i] ab_x4 ad (f, w) (ab_R (ii_v (if 0 ≤ i ∧ i ≤ f 40 31 - 1 then 1 else 0)) ab_x4 ad (f, w)) := by
  obtain ⟨Post, hPost⟩ : ∃ P : ab_P, P = (ab_R (ii_v (if 0 ≤ i ∧ i ≤ f 40 31 - 1 then 1 else 0)) ab_x4 ad (f, w)) := ⟨_, rfl⟩
  rw [← hPost]
  refine ab_of RX10 [(0, .ref (ad 40)), (1, ii_v i)] hl (by decide) rfl (Nat.le_of_ble_eq_true rfl) rfl ?_
  intro p e s m args below meth c C T0 hnm
  refine a_iload_n C dX10_isEntry_0 rfl ?_
  refine a_iconst C dX10_isEntry_1 ?_
  refine a_aload_n C dX10_isEntry_2 rfl ?_
  refine a_get (ci := 11) (i := 31) (v := ii_v (f 40 31)) C iw_X10 rfl (by decide) rfl fl_X10_202 rfl rfl dX10_isEntry_3 ?_
  refine a_iconst C dX10_isEntry_6 ?_
  refine a_isub C dX10_isEntry_7 ?_
  refine a_callS (As := [ii_v i, ii_v 0, ii_v ((f 40 31) - 1)]) C (m_isBetween hl f w i 0 ((f 40 31) - 1) (by omega) (by omega) (by omega)) co_X10_isBetween in_X10 ml_X10_120 sc_X10_isBetween ar_X10_isBetween ⟨by decide, by decide, by decide, by decide⟩ rfl (Nat.le_of_ble_eq_true rfl) dX10_isEntry_8 (a_dR ?_) a_nR
  refine a_zret C ii_nb ?_ (by decide) (by decide) dX10_isEntry_11
  rw [hPost]
  exact ⟨rfl, rfl, rfl, rfl⟩
set_option maxRecDepth 20000 in
set_option maxHeartbeats 2000000 in
theorem m_isPlace {l : Launch} {E : ab_E} {base : Nat} (hl : l.stackTraces = false) {ad : Nat → Nat} (f : Nat → Nat → Int) (w : Nat × Nat × Int64 × UInt64) (x y : Int) (zx : -2147483648 ≤ x ∧ x < 2147483648) (zy : -2147483648 ≤ y ∧ y < 2147483648) : ab_M l E base yX10_isPlace cX10_isPlace 2 (some .boolean) 2 0 0 [ii_v x, ii_v y] ab_x4 ad (f, w) (ab_R (ii_v (if (0 ≤ x ∧ x ≤ 20) ∧ (0 ≤ y ∧ y ≤ 20) then 1 else 0)) ab_x4 ad (f, w)) := by
  obtain ⟨Post, hPost⟩ : ∃ P : ab_P, P = (ab_R (ii_v (if (0 ≤ x ∧ x ≤ 20) ∧ (0 ≤ y ∧ y ≤ 20) then 1 else 0)) ab_x4 ad (f, w)) := ⟨_, rfl⟩
  rw [← hPost]
  refine ab_of RX10 [(0, ii_v x), (1, ii_v y)] hl (by decide) rfl (Nat.le_of_ble_eq_true rfl) rfl ?_
  intro p e s m args below meth c C T0 hnm
  refine a_iload_n C dX10_isPlace_0 rfl ?_
  refine a_iconst C dX10_isPlace_1 ?_
  refine a_bipush C dX10_isPlace_2 (by decide) ?_
  refine a_callS (As := [ii_v x, ii_v 0, ii_v 20]) C (m_isBetween hl f w x 0 20 (by omega) (by omega) (by omega)) co_X10_isBetween in_X10 ml_X10_120 sc_X10_isBetween ar_X10_isBetween ⟨by decide, by decide, by decide, by decide⟩ rfl (Nat.le_of_ble_eq_true rfl) dX10_isPlace_4 (a_dR ?_) a_nR
  refine a_bif_eq (tgt := 24) C dX10_isPlace_7 rfl (fun h7 => ?_) (fun h7 => ?_)
  · skip
    refine a_iconst C dX10_isPlace_24 ?_
    refine a_zret C (by decide) ?_ (by decide) (by decide) dX10_isPlace_25
    rw [hPost]
    exact ⟨by first | exact rt_1 (by omega) | exact rt_0 (by omega), rfl, rfl, rfl⟩
  · skip
    refine a_iload_n C dX10_isPlace_10 rfl ?_
    refine a_iconst C dX10_isPlace_11 ?_
    refine a_bipush C dX10_isPlace_12 (by decide) ?_
    refine a_callS (As := [ii_v y, ii_v 0, ii_v 20]) C (m_isBetween hl f w y 0 20 (by omega) (by omega) (by omega)) co_X10_isBetween in_X10 ml_X10_120 sc_X10_isBetween ar_X10_isBetween ⟨by decide, by decide, by decide, by decide⟩ rfl (Nat.le_of_ble_eq_true rfl) dX10_isPlace_14 (a_dR ?_) a_nR
    refine a_bif_eq (tgt := 24) C dX10_isPlace_17 rfl (fun h17 => ?_) (fun h17 => ?_)
    · skip
      refine a_iconst C dX10_isPlace_24 ?_
      refine a_zret C (by decide) ?_ (by decide) (by decide) dX10_isPlace_25
      rw [hPost]
      exact ⟨by first | exact rt_1 (by omega) | exact rt_0 (by omega), rfl, rfl, rfl⟩
    · skip
      refine a_iconst C dX10_isPlace_20 ?_
      refine a_goto (tgt := 25) C dX10_isPlace_21 rfl ?_
      refine a_zret C (by decide) ?_ (by decide) (by decide) dX10_isPlace_25
      rw [hPost]
      exact ⟨by first | exact rt_1 (by omega) | exact rt_0 (by omega), rfl, rfl, rfl⟩
set_option maxRecDepth 20000 in
set_option maxHeartbeats 2000000 in
theorem m_fails {l : Launch} {E : ab_E} {base : Nat} (hl : l.stackTraces = false) {ad : Nat → Nat} (f : Nat → Nat → Int) (w : Nat × Nat × Int64 × UInt64) (cd : Int) : ab_M l E base yX10_fails cX10_fails 2 (some .int) 1 0 0 [.ref (ad 40), ii_v cd] ab_x4 ad (f, w) (ab_R (ii_v 0) ab_x4 ad (ii_up f 40 0 cd, w)) := by
  obtain ⟨Post, hPost⟩ : ∃ P : ab_P, P = (ab_R (ii_v 0) ab_x4 ad (ii_up f 40 0 cd, w)) := ⟨_, rfl⟩
  rw [← hPost]
  refine ab_of RX10 [(0, .ref (ad 40)), (1, ii_v cd)] hl (by decide) rfl (Nat.le_of_ble_eq_true rfl) rfl ?_
  intro p e s m args below meth c C T0 hnm
  refine a_aload_n C dX10_fails_0 rfl ?_
  refine a_iload_n C dX10_fails_1 rfl ?_
  refine a_put (ci := 11) (i := 0) C iw_X10 rfl (by decide) rfl tyX10 tyX10_ok nmX10 rfl rfl fl_X10_114 rfl rfl rfl rfl dX10_fails_2 ?_
  obtain ⟨g1, eg1⟩ : ∃ F : Nat → Nat → Int, F = ii_up f 40 0 cd := ⟨_, rfl⟩
  rw [← eg1]
  refine a_iconst C dX10_fails_5 ?_
  refine a_iret C ?_ (by decide) (by decide) dX10_fails_6
  rw [hPost]
  rw [eg1]
  exact ⟨rfl, rfl, rfl, rfl⟩
set_option maxRecDepth 20000 in
set_option maxHeartbeats 2000000 in
theorem m_isDrop {l : Launch} {E : ab_E} {base : Nat} (hl : l.stackTraces = false) {ad : Nat → Nat} (f : Nat → Nat → Int) (w : Nat × Nat × Int64 × UInt64) (q : Nat) (bq : q < 1000000) : ab_M l E base yX10_isDrop cX10_isDrop 1 (some .boolean) 1 0 0 [ii_v ((q : Nat) : Int)] ab_x4 ad (f, w) (ab_R (ii_v (if q % 2 = 0 then 0 else 1)) ab_x4 ad (f, w)) := by
  obtain ⟨Post, hPost⟩ : ∃ P : ab_P, P = (ab_R (ii_v (if q % 2 = 0 then 0 else 1)) ab_x4 ad (f, w)) := ⟨_, rfl⟩
  rw [← hPost]
  refine ab_of RX10 [(0, ii_v ((q : Nat) : Int))] hl (by decide) rfl (Nat.le_of_ble_eq_true rfl) rfl ?_
  intro p e s m args below meth c C T0 hnm
  refine a_iload_n C dX10_isDrop_0 rfl ?_
  refine a_iconst C dX10_isDrop_1 ?_
  refine a_irem C dX10_isDrop_2 (by omega) (by omega) ?_
  refine a_iconst C dX10_isDrop_3 ?_
  refine a_icmp_ne (tgt := 11) C dX10_isDrop_4 rfl (by unfold ii_B; omega) (by unfold ii_B; omega) (fun h4 => ?_) (fun h4 => ?_)
  · skip
    refine a_iconst C dX10_isDrop_11 ?_
    refine a_zret C (by decide) ?_ (by decide) (by decide) dX10_isDrop_12
    rw [hPost]
    exact ⟨by first | exact ((rt_i (if_neg (by omega))).symm) | exact ((rt_i (if_pos (by omega))).symm), rfl, rfl, rfl⟩
  · skip
    refine a_iconst C dX10_isDrop_7 ?_
    refine a_goto (tgt := 12) C dX10_isDrop_8 rfl ?_
    refine a_zret C (by decide) ?_ (by decide) (by decide) dX10_isDrop_12
    rw [hPost]
    exact ⟨by first | exact ((rt_i (if_neg (by omega))).symm) | exact ((rt_i (if_pos (by omega))).symm), rfl, rfl, rfl⟩
set_option maxRecDepth 20000 in
set_option maxHeartbeats 2000000 in
theorem m_stopX {l : Launch} {E : ab_E} {base : Nat} (hl : l.stackTraces = false) {ad : Nat → Nat} (f : Nat → Nat → Int) (w : Nat × Nat × Int64 × UInt64) {v : Nat → Nat → Int} (hv : pj_C f v) (q : Nat) (hq : q / 2 ≤ 30)  : ab_M l E base yX10_stopX cX10_stopX 2 (some .int) 2 0 0 [.ref (ad 40), ii_v ((q : Nat) : Int)] ab_x4 ad (f, w) (ab_R (ii_v (v 0 q)) ab_x4 ad (f, w)) := by
  obtain ⟨Post, hPost⟩ : ∃ P : ab_P, P = (ab_R (ii_v (v 0 q)) ab_x4 ad (f, w)) := ⟨_, rfl⟩
  rw [← hPost]
  refine ab_of RX10 [(0, .ref (ad 40)), (1, ii_v ((q : Nat) : Int))] hl (by decide) rfl (Nat.le_of_ble_eq_true rfl) rfl ?_
  intro p e s m args below meth c C T0 hnm
  have hw := hv.1 q hq
  have hq5 : q < 1000 := by omega
  refine a_iload_n C dX10_stopX_0 rfl ?_
  refine a_callS (As := [ii_v ((q : Nat) : Int)]) C (m_isDrop hl f w q (by omega)) co_X10_isDrop in_X10 ml_X10_135 sc_X10_isDrop ar_X10_isDrop ⟨by decide, by decide, by decide, by decide⟩ rfl (Nat.le_of_ble_eq_true rfl) dX10_stopX_1 (a_dR ?_) a_nR
  rw [md_iff (P := q % 2 = 0)]
  refine a_bif_eq (tgt := 18) C dX10_stopX_4 rfl (fun h4 => ?_) (fun h4 => ?_)
  · skip
    refine a_aload_n C dX10_stopX_18 rfl ?_
    refine a_get (ci := 11) (i := 13) (v := .ref (ad 53)) C iw_X10 rfl (by decide) rfl fl_X10_46 rfl rfl dX10_stopX_19 ?_
    refine a_iload_n C dX10_stopX_22 rfl ?_
    refine a_iconst C dX10_stopX_23 ?_
    refine a_idiv C dX10_stopX_24 (by omega) (by omega) ?_
    refine a_iald (o := 53) (N := 31) (q / 2) C dX10_stopX_25 rfl (by omega) (by omega) (by decide) ?_
    refine a_top (w := ii_v (f 53 (q / 2))) rfl ?_
    refine a_iret C ?_ (by decide) (by decide) dX10_stopX_26
    rw [hPost]
    exact ⟨rt_i (by rw [← hw.1]; unfold pj_x; first | rw [if_pos (by omega)] | rw [if_neg (by omega)]), rfl, rfl, rfl⟩
  · skip
    refine a_aload_n C dX10_stopX_7 rfl ?_
    refine a_get (ci := 11) (i := 15) (v := .ref (ad 55)) C iw_X10 rfl (by decide) rfl fl_X10_52 rfl rfl dX10_stopX_8 ?_
    refine a_iload_n C dX10_stopX_11 rfl ?_
    refine a_iconst C dX10_stopX_12 ?_
    refine a_idiv C dX10_stopX_13 (by omega) (by omega) ?_
    refine a_iald (o := 55) (N := 31) (q / 2) C dX10_stopX_14 rfl (by omega) (by omega) (by decide) ?_
    refine a_top (w := ii_v (f 55 (q / 2))) rfl ?_
    refine a_goto (tgt := 26) C dX10_stopX_15 rfl ?_
    refine a_iret C ?_ (by decide) (by decide) dX10_stopX_26
    rw [hPost]
    exact ⟨rt_i (by rw [← hw.1]; unfold pj_x; first | rw [if_pos (by omega)] | rw [if_neg (by omega)]), rfl, rfl, rfl⟩
set_option maxRecDepth 20000 in
set_option maxHeartbeats 2000000 in
theorem m_stopY {l : Launch} {E : ab_E} {base : Nat} (hl : l.stackTraces = false) {ad : Nat → Nat} (f : Nat → Nat → Int) (w : Nat × Nat × Int64 × UInt64) {v : Nat → Nat → Int} (hv : pj_C f v) (q : Nat) (hq : q / 2 ≤ 30)  : ab_M l E base yX10_stopY cX10_stopY 2 (some .int) 2 0 0 [.ref (ad 40), ii_v ((q : Nat) : Int)] ab_x4 ad (f, w) (ab_R (ii_v (v 1 q)) ab_x4 ad (f, w)) := by
  obtain ⟨Post, hPost⟩ : ∃ P : ab_P, P = (ab_R (ii_v (v 1 q)) ab_x4 ad (f, w)) := ⟨_, rfl⟩
  rw [← hPost]
  refine ab_of RX10 [(0, .ref (ad 40)), (1, ii_v ((q : Nat) : Int))] hl (by decide) rfl (Nat.le_of_ble_eq_true rfl) rfl ?_
  intro p e s m args below meth c C T0 hnm
  have hw := hv.1 q hq
  have hq5 : q < 1000 := by omega
  refine a_iload_n C dX10_stopY_0 rfl ?_
  refine a_callS (As := [ii_v ((q : Nat) : Int)]) C (m_isDrop hl f w q (by omega)) co_X10_isDrop in_X10 ml_X10_135 sc_X10_isDrop ar_X10_isDrop ⟨by decide, by decide, by decide, by decide⟩ rfl (Nat.le_of_ble_eq_true rfl) dX10_stopY_1 (a_dR ?_) a_nR
  rw [md_iff (P := q % 2 = 0)]
  refine a_bif_eq (tgt := 18) C dX10_stopY_4 rfl (fun h4 => ?_) (fun h4 => ?_)
  · skip
    refine a_aload_n C dX10_stopY_18 rfl ?_
    refine a_get (ci := 11) (i := 14) (v := .ref (ad 54)) C iw_X10 rfl (by decide) rfl fl_X10_49 rfl rfl dX10_stopY_19 ?_
    refine a_iload_n C dX10_stopY_22 rfl ?_
    refine a_iconst C dX10_stopY_23 ?_
    refine a_idiv C dX10_stopY_24 (by omega) (by omega) ?_
    refine a_iald (o := 54) (N := 31) (q / 2) C dX10_stopY_25 rfl (by omega) (by omega) (by decide) ?_
    refine a_top (w := ii_v (f 54 (q / 2))) rfl ?_
    refine a_iret C ?_ (by decide) (by decide) dX10_stopY_26
    rw [hPost]
    exact ⟨rt_i (by rw [← hw.2.1]; unfold pj_y; first | rw [if_pos (by omega)] | rw [if_neg (by omega)]), rfl, rfl, rfl⟩
  · skip
    refine a_aload_n C dX10_stopY_7 rfl ?_
    refine a_get (ci := 11) (i := 16) (v := .ref (ad 56)) C iw_X10 rfl (by decide) rfl fl_X10_55 rfl rfl dX10_stopY_8 ?_
    refine a_iload_n C dX10_stopY_11 rfl ?_
    refine a_iconst C dX10_stopY_12 ?_
    refine a_idiv C dX10_stopY_13 (by omega) (by omega) ?_
    refine a_iald (o := 56) (N := 31) (q / 2) C dX10_stopY_14 rfl (by omega) (by omega) (by decide) ?_
    refine a_top (w := ii_v (f 56 (q / 2))) rfl ?_
    refine a_goto (tgt := 26) C dX10_stopY_15 rfl ?_
    refine a_iret C ?_ (by decide) (by decide) dX10_stopY_26
    rw [hPost]
    exact ⟨rt_i (by rw [← hw.2.1]; unfold pj_y; first | rw [if_pos (by omega)] | rw [if_neg (by omega)]), rfl, rfl, rfl⟩
set_option maxRecDepth 20000 in
set_option maxHeartbeats 2000000 in
theorem m_distance {l : Launch} {E : ab_E} {base : Nat} (hl : l.stackTraces = false) {ad : Nat → Nat} (f : Nat → Nat → Int) (w : Nat × Nat × Int64 × UInt64) (x y u v : Int) (zx : -1000000 ≤ x ∧ x ≤ 1000000) (zy : -1000000 ≤ y ∧ y ≤ 1000000) (zu : -1000000 ≤ u ∧ u ≤ 1000000) (zv : -1000000 ≤ v ∧ v ≤ 1000000) : ab_M l E base yX10_distance cX10_distance 4 (some .int) 2 0 0 [ii_v x, ii_v y, ii_v u, ii_v v] ab_x4 ad (f, w) (ab_R (ii_v (pd_d x y u v)) ab_x4 ad (f, w)) := by
  obtain ⟨Post, hPost⟩ : ∃ P : ab_P, P = (ab_R (ii_v (pd_d x y u v)) ab_x4 ad (f, w)) := ⟨_, rfl⟩
  rw [← hPost]
  refine ab_of RX10 [(0, ii_v x), (1, ii_v y), (2, ii_v u), (3, ii_v v)] hl (by decide) rfl (Nat.le_of_ble_eq_true rfl) rfl ?_
  intro p e s m args below meth c C T0 hnm
  refine a_iload_n C dX10_distance_0 rfl ?_
  refine a_iload_n C dX10_distance_1 rfl ?_
  refine a_isub C dX10_distance_2 ?_
  refine a_abs C ml_X10_139 dX10_distance_3 (by decide) (Nat.le_of_ble_eq_true rfl) (by decide) (by unfold ii_B; omega) ?_
  refine a_iload_n C dX10_distance_6 rfl ?_
  refine a_iload_n C dX10_distance_7 rfl ?_
  refine a_isub C dX10_distance_8 ?_
  refine a_abs C ml_X10_139 dX10_distance_9 (by decide) (Nat.le_of_ble_eq_true rfl) (by decide) (by unfold ii_B; omega) ?_
  refine a_iadd C dX10_distance_12 ?_
  refine a_iret C ?_ (by decide) (by decide) dX10_distance_13
  rw [hPost]
  exact ⟨rfl, rfl, rfl, rfl⟩
set_option maxRecDepth 20000 in
set_option maxHeartbeats 2000000 in
theorem m_aboard {l : Launch} {E : ab_E} {base : Nat} (hl : l.stackTraces = false) {ad : Nat → Nat} (f : Nat → Nat → Int) (w : Nat × Nat × Int64 × UInt64) (b : Nat) (hb : b < 4) (n : Nat) (hn : f 40 30 = (n : Int)) (hn30 : n ≤ 30) (hrid : ∀ r, r < n → (0 ≤ f 57 r ∧ f 57 r ≤ 6) ∧ st_ok (f 63 r) ∧ -1 ≤ f 60 r ∧ f 60 r ≤ 10)  : ab_M l E base yX10_aboard cX10_aboard 4 (some .int) 1 0 0 [.ref (ad 40), ii_v ((b : Nat) : Int)] ab_x4 ad (f, w) (ab_R (ii_v (ab_n f b n)) ab_x4 ad (f, w)) := by
  obtain ⟨Post, hPost⟩ : ∃ P : ab_P, P = (ab_R (ii_v (ab_n f b n)) ab_x4 ad (f, w)) := ⟨_, rfl⟩
  rw [← hPost]
  refine ab_of RX10 [(0, .ref (ad 40)), (1, ii_v ((b : Nat) : Int))] hl (by decide) rfl (Nat.le_of_ble_eq_true rfl) rfl ?_
  intro p e s m args below meth c C T0 hnm
  refine a_iconst C dX10_aboard_0 ?_
  refine a_istore_n (L' := [(0, .ref (ad 40)), (1, ii_v ((b : Nat) : Int)), (2, ii_v 0)]) C dX10_aboard_1 (by decide) rfl ?_
  refine a_iconst C dX10_aboard_2 ?_
  refine a_istore_n (L' := [(0, .ref (ad 40)), (1, ii_v ((b : Nat) : Int)), (2, ii_v 0), (3, ii_v 0)]) C dX10_aboard_3 (by decide) rfl ?_
  have loop4 : ∀ (NN4 : Nat) (k : Nat), n - k < NN4 → (k ≤ n) → ab_W p l e (ab_rm 1 0 0) s m args below meth c E base 4 (ab_Q below E base Post args s 0 0) ab_x4 ad (f, w) 0 0 4 [(0, .ref (ad 40)), (1, ii_v ((b : Nat) : Int)), (2, ii_v (ab_n f b k)), (3, ii_v ((k : Nat) : Int))] [] := by
    intro NN4
    induction NN4 with
    | zero => intro k hNN; exact absurd hNN (Nat.not_lt_zero _)
    | succ NN4 ih4 =>
      intro k hNN hk
      refine a_iload_n C dX10_aboard_4 rfl ?_
      refine a_aload_n C dX10_aboard_5 rfl ?_
      refine a_get (ci := 11) (i := 30) (v := ii_v (f 40 30)) C iw_X10 rfl (by decide) rfl fl_X10_124 rfl rfl dX10_aboard_6 ?_
      refine a_top (w := ii_v ((n : Nat) : Int)) (congrArg (fun q => ii_v q) hn) ?_
      refine a_icmp_ge (tgt := 52) C dX10_aboard_9 rfl (by unfold ii_B; omega) (by unfold ii_B; omega) (fun h9 => ?_) (fun h9 => ?_)
      · skip
        refine a_iload_n C dX10_aboard_52 rfl ?_
        refine a_iret C ?_ (by decide) (by decide) dX10_aboard_53
        rw [hPost]
        rw [show n = k by omega]
        exact ⟨rfl, rfl, rfl, rfl⟩
      · skip
        obtain ⟨hr1, hr2, hr3⟩ := hrid k (by omega)
        have hr4 := st_b hr2
        refine a_iload_n C dX10_aboard_12 rfl ?_
        refine a_aload_n C dX10_aboard_13 rfl ?_
        refine a_get (ci := 11) (i := 23) (v := .ref (ad 63)) C iw_X10 rfl (by decide) rfl fl_X10_76 rfl rfl dX10_aboard_14 ?_
        refine a_iload_n C dX10_aboard_17 rfl ?_
        refine a_cald (o := 63) (N := 31) k C dX10_aboard_18 rfl (by omega) (by omega) (by decide) ?_
        refine a_top (w := ii_v (f 63 k)) rfl ?_
        refine a_bipush C dX10_aboard_19 (by decide) ?_
        refine a_icmp_ne (tgt := 43) C dX10_aboard_21 rfl (by unfold ii_B; omega) (by unfold ii_B; omega) (fun h21 => ?_) (fun h21 => ?_)
        · skip
          refine a_iconst C dX10_aboard_43 ?_
          refine a_iadd C dX10_aboard_44 ?_
          refine a_istore_n (L' := [(0, .ref (ad 40)), (1, ii_v ((b : Nat) : Int)), (2, ii_v ((ab_n f b k) + 0)), (3, ii_v ((k : Nat) : Int))]) C dX10_aboard_45 (by decide) rfl ?_
          rw [← (show ab_n f b (k + 1) = ab_n f b k + 0 from if_neg (fun z => by omega))]
          refine a_iinc (L' := [(0, .ref (ad 40)), (1, ii_v ((b : Nat) : Int)), (2, ii_v (ab_n f b (k + 1))), (3, ii_v (((k : Nat) : Int) + 1))]) C dX10_aboard_46 rfl (by decide) rfl ?_
          refine a_goto (tgt := 4) C dX10_aboard_49 rfl ?_
          exact ih4 (k + 1) (by omega) (by omega)
        · skip
          refine a_aload_n C dX10_aboard_24 rfl ?_
          refine a_get (ci := 11) (i := 20) (v := .ref (ad 60)) C iw_X10 rfl (by decide) rfl fl_X10_67 rfl rfl dX10_aboard_25 ?_
          refine a_iload_n C dX10_aboard_28 rfl ?_
          refine a_iald (o := 60) (N := 31) k C dX10_aboard_29 rfl (by omega) (by omega) (by decide) ?_
          refine a_top (w := ii_v (f 60 k)) rfl ?_
          refine a_iload_n C dX10_aboard_30 rfl ?_
          refine a_icmp_ne (tgt := 43) C dX10_aboard_31 rfl (by unfold ii_B; omega) (by unfold ii_B; omega) (fun h31 => ?_) (fun h31 => ?_)
          · skip
            refine a_iconst C dX10_aboard_43 ?_
            refine a_iadd C dX10_aboard_44 ?_
            refine a_istore_n (L' := [(0, .ref (ad 40)), (1, ii_v ((b : Nat) : Int)), (2, ii_v ((ab_n f b k) + 0)), (3, ii_v ((k : Nat) : Int))]) C dX10_aboard_45 (by decide) rfl ?_
            rw [← (show ab_n f b (k + 1) = ab_n f b k + 0 from if_neg (fun z => by omega))]
            refine a_iinc (L' := [(0, .ref (ad 40)), (1, ii_v ((b : Nat) : Int)), (2, ii_v (ab_n f b (k + 1))), (3, ii_v (((k : Nat) : Int) + 1))]) C dX10_aboard_46 rfl (by decide) rfl ?_
            refine a_goto (tgt := 4) C dX10_aboard_49 rfl ?_
            exact ih4 (k + 1) (by omega) (by omega)
          · skip
            refine a_aload_n C dX10_aboard_34 rfl ?_
            refine a_get (ci := 11) (i := 17) (v := .ref (ad 57)) C iw_X10 rfl (by decide) rfl fl_X10_58 rfl rfl dX10_aboard_35 ?_
            refine a_iload_n C dX10_aboard_38 rfl ?_
            refine a_iald (o := 57) (N := 31) k C dX10_aboard_39 rfl (by omega) (by omega) (by decide) ?_
            refine a_top (w := ii_v (f 57 k)) rfl ?_
            refine a_goto (tgt := 44) C dX10_aboard_40 rfl ?_
            refine a_iadd C dX10_aboard_44 ?_
            refine a_istore_n (L' := [(0, .ref (ad 40)), (1, ii_v ((b : Nat) : Int)), (2, ii_v ((ab_n f b k) + (f 57 k))), (3, ii_v ((k : Nat) : Int))]) C dX10_aboard_45 (by decide) rfl ?_
            rw [← (show ab_n f b (k + 1) = ab_n f b k + f 57 k from if_pos ⟨by omega, by omega⟩)]
            refine a_iinc (L' := [(0, .ref (ad 40)), (1, ii_v ((b : Nat) : Int)), (2, ii_v (ab_n f b (k + 1))), (3, ii_v (((k : Nat) : Int) + 1))]) C dX10_aboard_46 rfl (by decide) rfl ?_
            refine a_goto (tgt := 4) C dX10_aboard_49 rfl ?_
            exact ih4 (k + 1) (by omega) (by omega)
  exact loop4 (_ + 1) 0 (Nat.lt_succ_self _) (Nat.zero_le _)
set_option maxRecDepth 20000 in
set_option maxHeartbeats 2000000 in
theorem m_runs {l : Launch} {E : ab_E} {base : Nat} (hl : l.stackTraces = false) {ad : Nat → Nat} (f : Nat → Nat → Int) (w : Nat × Nat × Int64 × UInt64) (b : Nat) (hb : b < 4) {v : Nat → Nat → Int} (hv : pj_C f v) (hB : pk_B f b) {S : List Nat} (hS : tr_I f S) (hq : ∀ j, j < S.length → S.getD j 0 / 2 ≤ 30) (hnow : 0 ≤ f 40 32 ∧ f 40 32 ≤ 100000)  : ab_M l E base yX10_runs cX10_runs 6 (some .int) 3 0 0 [.ref (ad 40), ii_v ((b : Nat) : Int)] ab_x4 ad (f, w) (ab_F ad w (fun r g => r = some (ii_v (pl_len v (f 46 b) (f 47 b) S (f 44 b) (f 45 b))) ∧ (∀ j, j < S.length → g 76 j = (pl_tm v S (f 44 b) (f 45 b) (f 40 32)).getD j 0) ∧ ∀ o2, o2 ≠ 76 → g o2 = f o2)) := by
  obtain ⟨Post, hPost⟩ : ∃ P : ab_P, P = (ab_F ad w (fun r g => r = some (ii_v (pl_len v (f 46 b) (f 47 b) S (f 44 b) (f 45 b))) ∧ (∀ j, j < S.length → g 76 j = (pl_tm v S (f 44 b) (f 45 b) (f 40 32)).getD j 0) ∧ ∀ o2, o2 ≠ 76 → g o2 = f o2)) := ⟨_, rfl⟩
  rw [← hPost]
  refine ab_of RX10 [(0, .ref (ad 40)), (1, ii_v ((b : Nat) : Int))] hl (by decide) rfl (Nat.le_of_ble_eq_true rfl) rfl ?_
  intro p e s m args below meth c C T0 hnm
  obtain ⟨hc, h8, hj, hb64⟩ := id hS
  obtain ⟨hB1, hB3, hB4, hB6, hB7, hB8⟩ := id hB
  have hTl := pl_tm_len v S (f 44 b) (f 45 b) (f 40 32)
  refine a_aload_n C dX10_runs_0 rfl ?_
  refine a_get (ci := 11) (i := 4) (v := .ref (ad 44)) C iw_X10 rfl (by decide) rfl fl_X10_19 rfl rfl dX10_runs_1 ?_
  refine a_iload_n C dX10_runs_4 rfl ?_
  refine a_iald (o := 44) (N := 4) b C dX10_runs_5 rfl (by omega) (by omega) (by decide) ?_
  refine a_top (w := ii_v (f 44 b)) rfl ?_
  refine a_istore_n (L' := [(0, .ref (ad 40)), (1, ii_v ((b : Nat) : Int)), (2, ii_v (f 44 b))]) C dX10_runs_6 (by decide) rfl ?_
  refine a_aload_n C dX10_runs_7 rfl ?_
  refine a_get (ci := 11) (i := 5) (v := .ref (ad 45)) C iw_X10 rfl (by decide) rfl fl_X10_22 rfl rfl dX10_runs_8 ?_
  refine a_iload_n C dX10_runs_11 rfl ?_
  refine a_iald (o := 45) (N := 4) b C dX10_runs_12 rfl (by omega) (by omega) (by decide) ?_
  refine a_top (w := ii_v (f 45 b)) rfl ?_
  refine a_istore_n (L' := [(0, .ref (ad 40)), (1, ii_v ((b : Nat) : Int)), (2, ii_v (f 44 b)), (3, ii_v (f 45 b))]) C dX10_runs_13 (by decide) rfl ?_
  refine a_iconst C dX10_runs_14 ?_
  refine a_istore (L' := [(0, .ref (ad 40)), (1, ii_v ((b : Nat) : Int)), (2, ii_v (f 44 b)), (3, ii_v (f 45 b)), (4, ii_v 0)]) C dX10_runs_15 (by decide) rfl ?_
  refine a_iconst C dX10_runs_17 ?_
  refine a_istore (L' := [(0, .ref (ad 40)), (1, ii_v ((b : Nat) : Int)), (2, ii_v (f 44 b)), (3, ii_v (f 45 b)), (4, ii_v 0), (5, ii_v 0)]) C dX10_runs_18 (by decide) rfl ?_
  have loop20 : ∀ (NN20 : Nat) (k : Nat) (x : Int) (y : Int) (a : Int) (g : Nat → Nat → Int), S.length - k < NN20 → (k ≤ S.length) → (0 ≤ x ∧ x ≤ 20) → (0 ≤ y ∧ y ≤ 20) → (0 ≤ a ∧ a ≤ 40 * (k : Int)) → (a + pl_len v (f 46 b) (f 47 b) (S.drop k) x y = pl_len v (f 46 b) (f 47 b) S (f 44 b) (f 45 b)) → (pl_tm v (S.drop k) x y (f 40 32 + a) = (pl_tm v S (f 44 b) (f 45 b) (f 40 32)).drop k) → (∀ j, j < k → g 76 j = (pl_tm v S (f 44 b) (f 45 b) (f 40 32)).getD j 0) → (∀ o2, o2 ≠ 76 → g o2 = f o2) → ab_W p l e (ab_rm 3 0 0) s m args below meth c E base 6 (ab_Q below E base Post args s 0 0) ab_x4 ad (g, w) 0 0 20 [(0, .ref (ad 40)), (1, ii_v ((b : Nat) : Int)), (2, ii_v x), (3, ii_v y), (4, ii_v a), (5, ii_v ((k : Nat) : Int))] [] := by
    intro NN20
    induction NN20 with
    | zero => intro k x y a g hNN; exact absurd hNN (Nat.not_lt_zero _)
    | succ NN20 ih20 =>
      intro k x y a g hNN hk hx hy ha hE hT hg hfr
      have hvg : pj_C g v := pj_same hv (fun o2 h => hfr o2 (by omega))
      refine a_iload C dX10_runs_20 rfl ?_
      refine a_aload_n C dX10_runs_22 rfl ?_
      refine a_get (ci := 11) (i := 37) (v := ii_v (g 40 37)) C iw_X10 rfl (by decide) rfl fl_X10_144 rfl rfl dX10_runs_23 ?_
      refine a_top (w := ii_v ((S.length : Nat) : Int)) (congrArg (fun q => ii_v q) ((congrFun (hfr 40 (by decide)) 37).trans hc)) ?_
      refine a_icmp_ge (tgt := 105) C dX10_runs_26 rfl (by unfold ii_B; omega) (by unfold ii_B; omega) (fun h26 => ?_) (fun h26 => ?_)
      · skip
        refine a_iload C dX10_runs_105 rfl ?_
        refine a_iload_n C dX10_runs_107 rfl ?_
        refine a_iload_n C dX10_runs_108 rfl ?_
        refine a_aload_n C dX10_runs_109 rfl ?_
        refine a_get (ci := 11) (i := 6) (v := .ref (ad 46)) C iw_X10 rfl (by decide) rfl fl_X10_25 rfl rfl dX10_runs_110 ?_
        refine a_iload_n C dX10_runs_113 rfl ?_
        refine a_iald (o := 46) (N := 4) b C dX10_runs_114 rfl (by omega) (by omega) (by decide) ?_
        refine a_top (w := ii_v (g 46 b)) rfl ?_
        refine a_top (w := ii_v (f 46 b)) (congrArg (fun q => ii_v q) (congrFun (hfr 46 (by decide)) _)) ?_
        refine a_aload_n C dX10_runs_115 rfl ?_
        refine a_get (ci := 11) (i := 7) (v := .ref (ad 47)) C iw_X10 rfl (by decide) rfl fl_X10_28 rfl rfl dX10_runs_116 ?_
        refine a_iload_n C dX10_runs_119 rfl ?_
        refine a_iald (o := 47) (N := 4) b C dX10_runs_120 rfl (by omega) (by omega) (by decide) ?_
        refine a_top (w := ii_v (g 47 b)) rfl ?_
        refine a_top (w := ii_v (f 47 b)) (congrArg (fun q => ii_v q) (congrFun (hfr 47 (by decide)) _)) ?_
        refine a_callS (As := [ii_v x, ii_v y, ii_v (f 46 b), ii_v (f 47 b)]) C (m_distance hl g w x y (f 46 b) (f 47 b) (by omega) (by omega) (by omega) (by omega)) co_X10_distance in_X10 ml_X10_153 sc_X10_distance ar_X10_distance ⟨by decide, by decide, by decide, by decide⟩ rfl (Nat.le_of_ble_eq_true rfl) dX10_runs_121 (a_dR ?_) a_nR
        refine a_iadd C dX10_runs_124 ?_
        refine a_iret C ?_ (by decide) (by decide) dX10_runs_125
        rw [hPost]
        refine ab_F_of ⟨rt_j ?_, fun j h => hg j (by omega), hfr⟩
        rw [← hE, List.drop_eq_nil_of_le (by omega)]
        rfl
      · skip
        refine a_iload C dX10_runs_29 rfl ?_
        have q1 := hq k (by omega)
        have qv := hv.1 _ q1
        have hd := pd_b (x := x) (y := y) (u := v 0 (S.getD k 0)) (v := v 1 (S.getD k 0)) (by omega) (by omega) (by omega) (by omega)
        have q64 := hb64 k (by omega)
        refine a_iload_n C dX10_runs_31 rfl ?_
        refine a_iload_n C dX10_runs_32 rfl ?_
        refine a_aload_n C dX10_runs_33 rfl ?_
        refine a_aload_n C dX10_runs_34 rfl ?_
        refine a_get (ci := 11) (i := 35) (v := .ref (ad 75)) C iw_X10 rfl (by decide) rfl fl_X10_102 rfl rfl dX10_runs_35 ?_
        refine a_iload C dX10_runs_38 rfl ?_
        refine a_iald (o := 75) (N := 8) k C dX10_runs_40 rfl (by omega) (by omega) (by decide) ?_
        refine a_top (w := ii_v (g 75 k)) rfl ?_
        refine a_top (w := ii_v ((S.getD k 0 : Nat) : Int)) (congrArg (fun q => ii_v q) ((congrFun (hfr 75 (by decide)) _).trans (hj k (by omega)))) ?_
        refine a_callV (o := 40) (As := [ii_v (((S.getD k 0) : Nat) : Int)]) C (m_stopX hl g w hvg (S.getD k 0) (by omega)) co_X10_stopX in_X10 ml_X10_147 im_X10_stopX se_X10_stopX rfl rfl ar_X10_stopX ⟨by decide, by decide, by decide, by decide⟩ rfl (Nat.le_of_ble_eq_true rfl) dX10_runs_41 (a_dR ?_) a_nR
        refine a_aload_n C dX10_runs_44 rfl ?_
        refine a_aload_n C dX10_runs_45 rfl ?_
        refine a_get (ci := 11) (i := 35) (v := .ref (ad 75)) C iw_X10 rfl (by decide) rfl fl_X10_102 rfl rfl dX10_runs_46 ?_
        refine a_iload C dX10_runs_49 rfl ?_
        refine a_iald (o := 75) (N := 8) k C dX10_runs_51 rfl (by omega) (by omega) (by decide) ?_
        refine a_top (w := ii_v (g 75 k)) rfl ?_
        refine a_top (w := ii_v ((S.getD k 0 : Nat) : Int)) (congrArg (fun q => ii_v q) ((congrFun (hfr 75 (by decide)) _).trans (hj k (by omega)))) ?_
        refine a_callV (o := 40) (As := [ii_v (((S.getD k 0) : Nat) : Int)]) C (m_stopY hl g w hvg (S.getD k 0) (by omega)) co_X10_stopY in_X10 ml_X10_150 im_X10_stopY se_X10_stopY rfl rfl ar_X10_stopY ⟨by decide, by decide, by decide, by decide⟩ rfl (Nat.le_of_ble_eq_true rfl) dX10_runs_52 (a_dR ?_) a_nR
        refine a_callS (As := [ii_v x, ii_v y, ii_v (v 0 (S.getD k 0)), ii_v (v 1 (S.getD k 0))]) C (m_distance hl g w x y (v 0 (S.getD k 0)) (v 1 (S.getD k 0)) (by omega) (by omega) (by omega) (by omega)) co_X10_distance in_X10 ml_X10_153 sc_X10_distance ar_X10_distance ⟨by decide, by decide, by decide, by decide⟩ rfl (Nat.le_of_ble_eq_true rfl) dX10_runs_55 (a_dR ?_) a_nR
        refine a_iadd C dX10_runs_58 ?_
        refine a_istore (L' := [(0, .ref (ad 40)), (1, ii_v ((b : Nat) : Int)), (2, ii_v x), (3, ii_v y), (4, ii_v (a + (pd_d x y (v 0 (S.getD k 0)) (v 1 (S.getD k 0))))), (5, ii_v ((k : Nat) : Int))]) C dX10_runs_59 (by decide) rfl ?_
        refine a_aload_n C dX10_runs_61 rfl ?_
        refine a_aload_n C dX10_runs_62 rfl ?_
        refine a_get (ci := 11) (i := 35) (v := .ref (ad 75)) C iw_X10 rfl (by decide) rfl fl_X10_102 rfl rfl dX10_runs_63 ?_
        refine a_iload C dX10_runs_66 rfl ?_
        refine a_iald (o := 75) (N := 8) k C dX10_runs_68 rfl (by omega) (by omega) (by decide) ?_
        refine a_top (w := ii_v (g 75 k)) rfl ?_
        refine a_top (w := ii_v ((S.getD k 0 : Nat) : Int)) (congrArg (fun q => ii_v q) ((congrFun (hfr 75 (by decide)) _).trans (hj k (by omega)))) ?_
        refine a_callV (o := 40) (As := [ii_v (((S.getD k 0) : Nat) : Int)]) C (m_stopX hl g w hvg (S.getD k 0) (by omega)) co_X10_stopX in_X10 ml_X10_147 im_X10_stopX se_X10_stopX rfl rfl ar_X10_stopX ⟨by decide, by decide, by decide, by decide⟩ rfl (Nat.le_of_ble_eq_true rfl) dX10_runs_69 (a_dR ?_) a_nR
        refine a_istore_n (L' := [(0, .ref (ad 40)), (1, ii_v ((b : Nat) : Int)), (2, ii_v (v 0 (S.getD k 0))), (3, ii_v y), (4, ii_v (a + (pd_d x y (v 0 (S.getD k 0)) (v 1 (S.getD k 0))))), (5, ii_v ((k : Nat) : Int))]) C dX10_runs_72 (by decide) rfl ?_
        refine a_aload_n C dX10_runs_73 rfl ?_
        refine a_aload_n C dX10_runs_74 rfl ?_
        refine a_get (ci := 11) (i := 35) (v := .ref (ad 75)) C iw_X10 rfl (by decide) rfl fl_X10_102 rfl rfl dX10_runs_75 ?_
        refine a_iload C dX10_runs_78 rfl ?_
        refine a_iald (o := 75) (N := 8) k C dX10_runs_80 rfl (by omega) (by omega) (by decide) ?_
        refine a_top (w := ii_v (g 75 k)) rfl ?_
        refine a_top (w := ii_v ((S.getD k 0 : Nat) : Int)) (congrArg (fun q => ii_v q) ((congrFun (hfr 75 (by decide)) _).trans (hj k (by omega)))) ?_
        refine a_callV (o := 40) (As := [ii_v (((S.getD k 0) : Nat) : Int)]) C (m_stopY hl g w hvg (S.getD k 0) (by omega)) co_X10_stopY in_X10 ml_X10_150 im_X10_stopY se_X10_stopY rfl rfl ar_X10_stopY ⟨by decide, by decide, by decide, by decide⟩ rfl (Nat.le_of_ble_eq_true rfl) dX10_runs_81 (a_dR ?_) a_nR
        refine a_istore_n (L' := [(0, .ref (ad 40)), (1, ii_v ((b : Nat) : Int)), (2, ii_v (v 0 (S.getD k 0))), (3, ii_v (v 1 (S.getD k 0))), (4, ii_v (a + (pd_d x y (v 0 (S.getD k 0)) (v 1 (S.getD k 0))))), (5, ii_v ((k : Nat) : Int))]) C dX10_runs_84 (by decide) rfl ?_
        refine a_aload_n C dX10_runs_85 rfl ?_
        refine a_get (ci := 11) (i := 36) (v := .ref (ad 76)) C iw_X10 rfl (by decide) rfl fl_X10_105 rfl rfl dX10_runs_86 ?_
        refine a_iload C dX10_runs_89 rfl ?_
        refine a_aload_n C dX10_runs_91 rfl ?_
        refine a_get (ci := 11) (i := 32) (v := ii_v (g 40 32)) C iw_X10 rfl (by decide) rfl fl_X10_157 rfl rfl dX10_runs_92 ?_
        refine a_top (w := ii_v (f 40 32)) (congrArg (fun q => ii_v q) (congrFun (hfr 40 (by decide)) _)) ?_
        refine a_iload C dX10_runs_95 rfl ?_
        refine a_iadd C dX10_runs_97 ?_
        refine a_iast (o := 76) (N := 8) k C dX10_runs_98 rfl (by omega) (by omega) (by decide) ?_
        obtain ⟨g1, eg1⟩ : ∃ F : Nat → Nat → Int, F = ii_up g 76 k ((f 40 32) + (a + (pd_d x y (v 0 (S.getD k 0)) (v 1 (S.getD k 0))))) := ⟨_, rfl⟩
        rw [← eg1]
        refine a_iinc (L' := [(0, .ref (ad 40)), (1, ii_v ((b : Nat) : Int)), (2, ii_v (v 0 (S.getD k 0))), (3, ii_v (v 1 (S.getD k 0))), (4, ii_v (a + (pd_d x y (v 0 (S.getD k 0)) (v 1 (S.getD k 0))))), (5, ii_v (((k : Nat) : Int) + 1))]) C dX10_runs_99 rfl (by decide) rfl ?_
        refine a_goto (tgt := 20) C dX10_runs_102 rfl ?_
        exact ih20 (k + 1) (v 0 (S.getD k 0)) (v 1 (S.getD k 0)) (a + pd_d x y (v 0 (S.getD k 0)) (v 1 (S.getD k 0))) g1 (by omega) (by omega) qv.2.2.1 qv.2.2.2 (by omega) (by rw [ls_drop (by omega)] at hE; simp only [pl_len] at hE; omega) (by rw [show f 40 32 + (a + pd_d x y (v 0 (S.getD k 0)) (v 1 (S.getD k 0))) = f 40 32 + a + pd_d x y (v 0 (S.getD k 0)) (v 1 (S.getD k 0)) by omega]; exact (tm_step (by omega) hT hTl).2) (by rw [eg1]; exact lt_s (fun j h => by rw [ii_up_k _ _ (by omega)]; exact hg j h) (by rw [ii_up_s, show f 40 32 + (a + pd_d x y (v 0 (S.getD k 0)) (v 1 (S.getD k 0))) = f 40 32 + a + pd_d x y (v 0 (S.getD k 0)) (v 1 (S.getD k 0)) by omega]; exact (tm_step (by omega) hT hTl).1)) (fun o2 h => by rw [eg1, ii_up_row _ _ h]; exact hfr o2 h)
  exact loop20 (_ + 1) 0 (f 44 b) (f 45 b) 0 f (Nat.lt_succ_self _) (Nat.zero_le _) hB6 hB7 (by omega) (by rw [List.drop_zero, Int.zero_add]) (by rw [List.drop_zero, List.drop_zero, Int.add_zero]) (fun j h => absurd h (Nat.not_lt_zero j)) (fun _ _ => rfl)
