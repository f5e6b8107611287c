/-! ShuttleRow's own functions of numbers. -/
/-- the distance of two places -/
def pd_d (x y u v : Int) : Int := ((x - u).natAbs : Int) + ((y - v).natAbs : Int)
theorem ii_shr1 {q : Nat} (h : q < 2147483648) : ii_n (q : Int) >>> (ii_n 1 &&& 31) = ii_n ((q / 2 : Nat) : Int) := by
  rw [← ii_nI, ← ii_nI]
  have k := pk_shrN (n := q) h (ii_n 1 &&& 31) 1 (by decide)
  rw [Nat.pow_one] at k
  exact k
theorem ii_and1 {q : Nat} (h : q < 2147483648) : ii_n (q : Int) &&& ii_n 1 = ii_n ((q % 2 : Nat) : Int) := by
  rw [← ii_nI, ← ii_nI]
  have k := pk_andN (n := q) (by omega) (m := ii_n 1) 1 (by decide)
  rw [Nat.pow_one] at k
  exact k
set_option maxRecDepth 20000 in
set_option maxHeartbeats 2000000 in
theorem c_isBetween {l : Launch} {E : ab_E} {base : Nat} (hl : l.stackTraces = false) {ad : Nat → Nat} (f : Nat → Nat → Int) (w : Nat × Nat × Int64 × UInt64) (v lo hi : Int) (zv : -2147483648 ≤ v ∧ v < 2147483648) (zlo : -2147483648 ≤ lo ∧ lo < 2147483648) (zhi : -2147483648 ≤ hi ∧ hi < 2147483648) : ab_M l E base yX9_isBetween cX9_isBetween 3 (some .boolean) 1 0 0 [ii_v v, ii_v lo, ii_v hi] ab_x4 ad (f, w) (ab_R (ii_v (if lo ≤ v ∧ v ≤ hi then 1 else 0)) ab_x4 ad (f, w)) := by
  obtain ⟨Post, hPost⟩ : ∃ P : ab_P, P = (ab_R (ii_v (if lo ≤ v ∧ v ≤ hi then 1 else 0)) ab_x4 ad (f, w)) := ⟨_, rfl⟩
  rw [← hPost]
  refine ab_of RX9 [(0, ii_v v), (1, ii_v lo), (2, ii_v hi)] hl (by decide) rfl (Nat.le_of_ble_eq_true rfl) rfl ?_
  intro p e s m args below meth c C T0 hnm
  refine a_iload_n C dX9_isBetween_0 rfl ?_
  refine a_iload_n C dX9_isBetween_1 rfl ?_
  refine a_icmp_lt (tgt := 14) C dX9_isBetween_2 rfl (by unfold ii_B; omega) (by unfold ii_B; omega) (fun h2 => ?_) (fun h2 => ?_)
  · skip
    refine a_iconst C dX9_isBetween_14 ?_
    refine a_zret C (by decide) ?_ (by decide) (by decide) dX9_isBetween_15
    rw [hPost]
    exact ⟨by first | exact rt_1 (by omega) | exact rt_0 (by omega), rfl, rfl, rfl⟩
  · skip
    refine a_iload_n C dX9_isBetween_5 rfl ?_
    refine a_iload_n C dX9_isBetween_6 rfl ?_
    refine a_icmp_gt (tgt := 14) C dX9_isBetween_7 rfl (by unfold ii_B; omega) (by unfold ii_B; omega) (fun h7 => ?_) (fun h7 => ?_)
    · skip
      refine a_iconst C dX9_isBetween_14 ?_
      refine a_zret C (by decide) ?_ (by decide) (by decide) dX9_isBetween_15
      rw [hPost]
      exact ⟨by first | exact rt_1 (by omega) | exact rt_0 (by omega), rfl, rfl, rfl⟩
    · skip
      refine a_iconst C dX9_isBetween_10 ?_
      refine a_goto (tgt := 15) C dX9_isBetween_11 rfl ?_
      refine a_zret C (by decide) ?_ (by decide) (by decide) dX9_isBetween_15
      rw [hPost]
      exact ⟨by first | exact rt_1 (by omega) | exact rt_0 (by omega), rfl, rfl, rfl⟩
set_option maxRecDepth 20000 in
set_option maxHeartbeats 2000000 in
theorem c_isInTown {l : Launch} {E : ab_E} {base : Nat} (hl : l.stackTraces = false) {ad : Nat → Nat} (f : Nat → Nat → Int) (w : Nat × Nat × Int64 × UInt64) (x y : Int) (zx : -2147483648 ≤ x ∧ x < 2147483648) (zy : -2147483648 ≤ y ∧ y < 2147483648) : ab_M l E base yX9_isInTown cX9_isInTown 2 (some .boolean) 2 0 0 [ii_v x, ii_v y] ab_x4 ad (f, w) (ab_R (ii_v (if (0 ≤ x ∧ x ≤ 20) ∧ (0 ≤ y ∧ y ≤ 20) then 1 else 0)) ab_x4 ad (f, w)) := by
  obtain ⟨Post, hPost⟩ : ∃ P : ab_P, P = (ab_R (ii_v (if (0 ≤ x ∧ x ≤ 20) ∧ (0 ≤ y ∧ y ≤ 20) then 1 else 0)) ab_x4 ad (f, w)) := ⟨_, rfl⟩
  rw [← hPost]
  refine ab_of RX9 [(0, ii_v x), (1, ii_v y)] hl (by decide) rfl (Nat.le_of_ble_eq_true rfl) rfl ?_
  intro p e s m args below meth c C T0 hnm
  refine a_iload_n C dX9_isInTown_0 rfl ?_
  refine a_iconst C dX9_isInTown_1 ?_
  refine a_bipush C dX9_isInTown_2 (by decide) ?_
  refine a_callS (As := [ii_v x, ii_v 0, ii_v 20]) C (c_isBetween hl f w x 0 20 (by omega) (by omega) (by omega)) co_X9_isBetween in_X9 ml_X9_68 sc_X9_isBetween ar_X9_isBetween ⟨by decide, by decide, by decide, by decide⟩ rfl (Nat.le_of_ble_eq_true rfl) dX9_isInTown_4 (a_dR ?_) a_nR
  refine a_bif_eq (tgt := 24) C dX9_isInTown_7 rfl (fun h7 => ?_) (fun h7 => ?_)
  · skip
    refine a_iconst C dX9_isInTown_24 ?_
    refine a_zret C (by decide) ?_ (by decide) (by decide) dX9_isInTown_25
    rw [hPost]
    exact ⟨by first | exact rt_1 (by omega) | exact rt_0 (by omega), rfl, rfl, rfl⟩
  · skip
    refine a_iload_n C dX9_isInTown_10 rfl ?_
    refine a_iconst C dX9_isInTown_11 ?_
    refine a_bipush C dX9_isInTown_12 (by decide) ?_
    refine a_callS (As := [ii_v y, ii_v 0, ii_v 20]) C (c_isBetween hl f w y 0 20 (by omega) (by omega) (by omega)) co_X9_isBetween in_X9 ml_X9_68 sc_X9_isBetween ar_X9_isBetween ⟨by decide, by decide, by decide, by decide⟩ rfl (Nat.le_of_ble_eq_true rfl) dX9_isInTown_14 (a_dR ?_) a_nR
    refine a_bif_eq (tgt := 24) C dX9_isInTown_17 rfl (fun h17 => ?_) (fun h17 => ?_)
    · skip
      refine a_iconst C dX9_isInTown_24 ?_
      refine a_zret C (by decide) ?_ (by decide) (by decide) dX9_isInTown_25
      rw [hPost]
      exact ⟨by first | exact rt_1 (by omega) | exact rt_0 (by omega), rfl, rfl, rfl⟩
    · skip
      refine a_iconst C dX9_isInTown_20 ?_
      refine a_goto (tgt := 25) C dX9_isInTown_21 rfl ?_
      refine a_zret C (by decide) ?_ (by decide) (by decide) dX9_isInTown_25
      rw [hPost]
      exact ⟨by first | exact rt_1 (by omega) | exact rt_0 (by omega), rfl, rfl, rfl⟩
set_option maxRecDepth 20000 in
set_option maxHeartbeats 2000000 in
theorem c_distance {l : Launch} {E : ab_E} {base : Nat} (hl : l.stackTraces = false) {ad : Nat → Nat} (f : Nat → Nat → Int) (w : Nat × Nat × Int64 × UInt64) (x y u v : Int) (zx : -1000000 ≤ x ∧ x ≤ 1000000) (zy : -1000000 ≤ y ∧ y ≤ 1000000) (zu : -1000000 ≤ u ∧ u ≤ 1000000) (zv : -1000000 ≤ v ∧ v ≤ 1000000) : ab_M l E base yX9_distance cX9_distance 4 (some .int) 2 0 0 [ii_v x, ii_v y, ii_v u, ii_v v] ab_x4 ad (f, w) (ab_R (ii_v (pd_d x y u v)) ab_x4 ad (f, w)) := by
  obtain ⟨Post, hPost⟩ : ∃ P : ab_P, P = (ab_R (ii_v (pd_d x y u v)) ab_x4 ad (f, w)) := ⟨_, rfl⟩
  rw [← hPost]
  refine ab_of RX9 [(0, ii_v x), (1, ii_v y), (2, ii_v u), (3, ii_v v)] hl (by decide) rfl (Nat.le_of_ble_eq_true rfl) rfl ?_
  intro p e s m args below meth c C T0 hnm
  refine a_iload_n C dX9_distance_0 rfl ?_
  refine a_iload_n C dX9_distance_1 rfl ?_
  refine a_isub C dX9_distance_2 ?_
  refine a_abs C ml_X9_401 dX9_distance_3 (by decide) (Nat.le_of_ble_eq_true rfl) (by decide) (by unfold ii_B; omega) ?_
  refine a_iload_n C dX9_distance_6 rfl ?_
  refine a_iload_n C dX9_distance_7 rfl ?_
  refine a_isub C dX9_distance_8 ?_
  refine a_abs C ml_X9_401 dX9_distance_9 (by decide) (Nat.le_of_ble_eq_true rfl) (by decide) (by unfold ii_B; omega) ?_
  refine a_iadd C dX9_distance_12 ?_
  refine a_iret C ?_ (by decide) (by decide) dX9_distance_13
  rw [hPost]
  exact ⟨rfl, rfl, rfl, rfl⟩
set_option maxRecDepth 20000 in
set_option maxHeartbeats 2000000 in
theorem c_pickupOf {l : Launch} {E : ab_E} {base : Nat} (hl : l.stackTraces = false) {ad : Nat → Nat} (f : Nat → Nat → Int) (w : Nat × Nat × Int64 × UInt64) (r : Nat) : ab_M l E base yX9_pickupOf cX9_pickupOf 1 (some .int) 1 0 0 [ii_v ((r : Nat) : Int)] ab_x4 ad (f, w) (ab_R (ii_v ((2 * r : Nat) : Int)) ab_x4 ad (f, w)) := by
  obtain ⟨Post, hPost⟩ : ∃ P : ab_P, P = (ab_R (ii_v ((2 * r : Nat) : Int)) ab_x4 ad (f, w)) := ⟨_, rfl⟩
  rw [← hPost]
  refine ab_of RX9 [(0, ii_v ((r : Nat) : Int))] hl (by decide) rfl (Nat.le_of_ble_eq_true rfl) rfl ?_
  intro p e s m args below meth c C T0 hnm
  refine a_iconst C dX9_pickupOf_0 ?_
  refine a_iload_n C dX9_pickupOf_1 rfl ?_
  refine a_imul C dX9_pickupOf_2 ?_
  refine a_iret C ?_ (by decide) (by decide) dX9_pickupOf_3
  rw [hPost]
  exact ⟨rt_i (by omega), rfl, rfl, rfl⟩
set_option maxRecDepth 20000 in
set_option maxHeartbeats 2000000 in
theorem c_dropOf {l : Launch} {E : ab_E} {base : Nat} (hl : l.stackTraces = false) {ad : Nat → Nat} (f : Nat → Nat → Int) (w : Nat × Nat × Int64 × UInt64) (r : Nat) : ab_M l E base yX9_dropOf cX9_dropOf 1 (some .int) 1 0 0 [ii_v ((r : Nat) : Int)] ab_x4 ad (f, w) (ab_R (ii_v ((2 * r + 1 : Nat) : Int)) ab_x4 ad (f, w)) := by
  obtain ⟨Post, hPost⟩ : ∃ P : ab_P, P = (ab_R (ii_v ((2 * r + 1 : Nat) : Int)) ab_x4 ad (f, w)) := ⟨_, rfl⟩
  rw [← hPost]
  refine ab_of RX9 [(0, ii_v ((r : Nat) : Int))] hl (by decide) rfl (Nat.le_of_ble_eq_true rfl) rfl ?_
  intro p e s m args below meth c C T0 hnm
  refine a_iconst C dX9_dropOf_0 ?_
  refine a_iload_n C dX9_dropOf_1 rfl ?_
  refine a_imul C dX9_dropOf_2 ?_
  refine a_iconst C dX9_dropOf_3 ?_
  refine a_iadd C dX9_dropOf_4 ?_
  refine a_iret C ?_ (by decide) (by decide) dX9_dropOf_5
  rw [hPost]
  exact ⟨rt_i (by omega), rfl, rfl, rfl⟩
set_option maxRecDepth 20000 in
set_option maxHeartbeats 2000000 in
theorem c_requestOf {l : Launch} {E : ab_E} {base : Nat} (hl : l.stackTraces = false) {ad : Nat → Nat} (f : Nat → Nat → Int) (w : Nat × Nat × Int64 × UInt64) (q : Nat) (bq : q < 1000000) : ab_M l E base yX9_requestOf cX9_requestOf 1 (some .int) 1 0 0 [ii_v ((q : Nat) : Int)] ab_x4 ad (f, w) (ab_R (ii_v ((q / 2 : Nat) : Int)) ab_x4 ad (f, w)) := by
  obtain ⟨Post, hPost⟩ : ∃ P : ab_P, P = (ab_R (ii_v ((q / 2 : Nat) : Int)) ab_x4 ad (f, w)) := ⟨_, rfl⟩
  rw [← hPost]
  refine ab_of RX9 [(0, ii_v ((q : Nat) : Int))] hl (by decide) rfl (Nat.le_of_ble_eq_true rfl) rfl ?_
  intro p e s m args below meth c C T0 hnm
  refine a_iload_n C dX9_requestOf_0 rfl ?_
  refine a_iconst C dX9_requestOf_1 ?_
  refine a_ishr (b := (((q / 2) : Nat) : Int)) C dX9_requestOf_2 (ii_shr1 (by omega)) ?_
  refine a_iret C ?_ (by decide) (by decide) dX9_requestOf_3
  rw [hPost]
  exact ⟨rfl, rfl, rfl, rfl⟩
set_option maxRecDepth 20000 in
set_option maxHeartbeats 2000000 in
theorem c_picksUp {l : Launch} {E : ab_E} {base : Nat} (hl : l.stackTraces = false) {ad : Nat → Nat} (f : Nat → Nat → Int) (w : Nat × Nat × Int64 × UInt64) (q : Nat) (bq : q < 1000000) : ab_M l E base yX9_picksUp cX9_picksUp 1 (some .boolean) 1 0 0 [ii_v ((q : Nat) : Int)] ab_x4 ad (f, w) (ab_R (ii_v (if q % 2 = 0 then 1 else 0)) ab_x4 ad (f, w)) := by
  obtain ⟨Post, hPost⟩ : ∃ P : ab_P, P = (ab_R (ii_v (if q % 2 = 0 then 1 else 0)) ab_x4 ad (f, w)) := ⟨_, rfl⟩
  rw [← hPost]
  refine ab_of RX9 [(0, ii_v ((q : Nat) : Int))] hl (by decide) rfl (Nat.le_of_ble_eq_true rfl) rfl ?_
  intro p e s m args below meth c C T0 hnm
  refine a_iload_n C dX9_picksUp_0 rfl ?_
  refine a_iconst C dX9_picksUp_1 ?_
  refine a_iand (b := (((q % 2) : Nat) : Int)) C dX9_picksUp_2 (ii_and1 (by omega)) ?_
  refine a_if_ne (tgt := 10) C dX9_picksUp_3 rfl (by unfold ii_B; omega) (fun h3 => ?_) (fun h3 => ?_)
  · skip
    refine a_iconst C dX9_picksUp_10 ?_
    refine a_zret C (by decide) ?_ (by decide) (by decide) dX9_picksUp_11
    rw [hPost]
    exact ⟨by first | exact rt_1 (by omega) | exact rt_0 (by omega), rfl, rfl, rfl⟩
  · skip
    refine a_iconst C dX9_picksUp_6 ?_
    refine a_goto (tgt := 11) C dX9_picksUp_7 rfl ?_
    refine a_zret C (by decide) ?_ (by decide) (by decide) dX9_picksUp_11
    rw [hPost]
    exact ⟨by first | exact rt_1 (by omega) | exact rt_0 (by omega), rfl, rfl, rfl⟩
