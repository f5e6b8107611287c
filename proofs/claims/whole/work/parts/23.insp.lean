/-! Inspection: what it finds of a tour. -/
/-- the length of a tour from x y over its stops to the depot -/
def pl_len (v : Nat → Nat → Int) (dx dy : Int) : List Nat → Int → Int → Int
  | [], x, y => pd_d x y dx dy
  | q :: S, x, y => pd_d x y (v 0 q) (v 1 q) + pl_len v dx dy S (v 0 q) (v 1 q)
/-- when its stops are made -/
def pl_tm (v : Nat → Nat → Int) : List Nat → Int → Int → Int → List Int
  | [], _, _, _ => []
  | q :: S, x, y, t => (t + pd_d x y (v 0 q) (v 1 q)) :: pl_tm v S (v 0 q) (v 1 q) (t + pd_d x y (v 0 q) (v 1 q))
/-- how the riders on board change at a stop -/
def pl_mv (v : Nat → Nat → Int) (q : Nat) : Int := if q % 2 = 0 then v 2 (q / 2) else -(v 2 (q / 2))
def pl_seat (v : Nat → Nat → Int) (cap : Int) : List Nat → Int → Bool
  | [], _ => false
  | q :: S, n => decide (cap < n + pl_mv v q) || pl_seat v cap S (n + pl_mv v q)
def pl_late (v : Nat → Nat → Int) : List Nat → List Int → Bool
  | q :: S, t :: T => (decide (q % 2 = 0) && decide (v 3 (q / 2) < t)) || pl_late v S T
  | _, _ => false
def pl_since (v : Nat → Nat → Int) (S : List Nat) (T : List Int) (q : Nat) : Int := if 2 * (q / 2) ∈ S then T.getD (S.idxOf (2 * (q / 2))) 0 else v 5 (q / 2)
def pl_long (v : Nat → Nat → Int) (S0 : List Nat) (T0 : List Int) : List Nat → List Int → Bool
  | q :: S, t :: T => (!decide (q % 2 = 0) && decide (v 4 (q / 2) < t - pl_since v S0 T0 q)) || pl_long v S0 T0 S T
  | _, _ => false
def pl_ah (S0 : List Nat) : List Nat → Nat → Bool
  | [], _ => false
  | q :: S, k => (!decide (q % 2 = 0) && (decide (2 * (q / 2) ∈ S0) && decide (k < S0.idxOf (2 * (q / 2))))) || pl_ah S0 S (k + 1)
/-- the first check that fails: 1 seats, 2 wait, 3 detour, 4 battery, 0 none -/
def pl_fault (v : Nat → Nat → Int) (S : List Nat) (x y now onb cap dx dy chg : Int) : Int :=
  if 6 < S.length ∨ pl_seat v cap S onb = true then 1 else if pl_late v S (pl_tm v S x y now) = true then 2 else if pl_long v S (pl_tm v S x y now) S (pl_tm v S x y now) = true then 3 else if chg < pl_len v dx dy S x y then 4 else 0
/-- a bus's numbers are in their ranges -/
def pb_B (f : Nat → Nat → Int) (o : Nat) : Prop := (0 ≤ f o 1 ∧ f o 1 ≤ 6) ∧ (0 ≤ f o 3 ∧ f o 3 ≤ 20) ∧ (0 ≤ f o 4 ∧ f o 4 ≤ 20) ∧ (0 ≤ f o 6 ∧ f o 6 ≤ 20) ∧ (0 ≤ f o 7 ∧ f o 7 ≤ 20) ∧ (-1000 ≤ f o 8 ∧ f o 8 ≤ 1000) ∧ (0 ≤ f o 9 ∧ f o 9 ≤ 1000)
theorem pd_b {x y u v : Int} (hx : 0 ≤ x ∧ x ≤ 20) (hy : 0 ≤ y ∧ y ≤ 20) (hu : 0 ≤ u ∧ u ≤ 20) (hv : 0 ≤ v ∧ v ≤ 20) : 0 ≤ pd_d x y u v ∧ pd_d x y u v ≤ 40 := by
  unfold pd_d
  omega
theorem ob_tour_c {nb nr t : Nat} {ds : List (Option Nat)} (h : ab_ob 4 nb nr t = some (8, ds)) : t = 14 ∨ t = 15 ∨ t = 16 ∨ (210 ≤ t ∧ t < 220 ∧ t < 210 + nb) := by
  unfold ab_ob at h
  grind (splits := 40)
theorem ob_bus_c {nb nr o : Nat} {ds : List (Option Nat)} (h : ab_ob 4 nb nr o = some (2, ds)) : 200 ≤ o ∧ o < 210 ∧ o < 200 + nb := by
  unfold ab_ob at h
  grind (splits := 40)
theorem pl_mv_b {v : Nat → Nat → Int} {q : Nat} (h : 0 ≤ v 2 (q / 2) ∧ v 2 (q / 2) ≤ 6) : -6 ≤ pl_mv v q ∧ pl_mv v q ≤ 6 := by
  unfold pl_mv
  split <;> omega
theorem ls_since {v : Nat → Nat → Int} {S : List Nat} {T : List Int} {q : Nat} (hTb : ∀ j, j < S.length → 0 ≤ T.getD j 0 ∧ T.getD j 0 ≤ 200000) (h : 0 ≤ v 5 (q / 2) ∧ v 5 (q / 2) ≤ 100000) : 0 ≤ pl_since v S T q ∧ pl_since v S T q ≤ 200000 := by
  unfold pl_since
  split
  · exact hTb _ (gd_idx (d := 0) (by assumption)).1
  · omega
theorem tm_b {v : Nat → Nat → Int} {nr : Nat} (hv : ∀ q, q / 2 ≤ nr → (0 ≤ v 0 q ∧ v 0 q ≤ 20) ∧ 0 ≤ v 1 q ∧ v 1 q ≤ 20) : ∀ (S : List Nat) (x y t : Int), (∀ j, j < S.length → S.getD j 0 / 2 ≤ nr) → 0 ≤ x ∧ x ≤ 20 → 0 ≤ y ∧ y ≤ 20 → ∀ j, j < S.length → t ≤ (pl_tm v S x y t).getD j 0 ∧ (pl_tm v S x y t).getD j 0 ≤ t + 40 * (S.length : Int)
  | [], _, _, _, _, _, _, j, hj => absurd hj (Nat.not_lt_zero _)
  | q :: S, x, y, t, hq, hx, hy, j, hj => by
    have q1 : q / 2 ≤ nr := hq 0 (Nat.zero_lt_succ _)
    have qv := hv q q1
    have hd := pd_b hx hy qv.1 qv.2
    cases j with
    | zero =>
      show t ≤ t + pd_d x y (v 0 q) (v 1 q) ∧ t + pd_d x y (v 0 q) (v 1 q) ≤ t + 40 * (((S.length + 1 : Nat)) : Int)
      omega
    | succ j =>
      have ih := tm_b hv S (v 0 q) (v 1 q) (t + pd_d x y (v 0 q) (v 1 q)) (fun j hj => hq (j + 1) (Nat.succ_lt_succ hj)) qv.1 qv.2 j (Nat.lt_of_succ_lt_succ hj)
      show t ≤ (pl_tm v S (v 0 q) (v 1 q) (t + pd_d x y (v 0 q) (v 1 q))).getD j 0 ∧ (pl_tm v S (v 0 q) (v 1 q) (t + pd_d x y (v 0 q) (v 1 q))).getD j 0 ≤ t + 40 * (((S.length + 1 : Nat)) : Int)
      omega
theorem len_b {v : Nat → Nat → Int} {nr : Nat} {dx dy : Int} (hdx : 0 ≤ dx ∧ dx ≤ 20) (hdy : 0 ≤ dy ∧ dy ≤ 20) (hv : ∀ q, q / 2 ≤ nr → (0 ≤ v 0 q ∧ v 0 q ≤ 20) ∧ 0 ≤ v 1 q ∧ v 1 q ≤ 20) : ∀ (S : List Nat) (x y : Int), (∀ j, j < S.length → S.getD j 0 / 2 ≤ nr) → 0 ≤ x ∧ x ≤ 20 → 0 ≤ y ∧ y ≤ 20 → 0 ≤ pl_len v dx dy S x y ∧ pl_len v dx dy S x y ≤ 40 + 40 * (S.length : Int)
  | [], x, y, _, hx, hy => by
    have hd := pd_b hx hy hdx hdy
    simp only [pl_len, List.length_nil]
    omega
  | q :: S, x, y, hq, hx, hy => by
    have qv := hv q (hq 0 (Nat.zero_lt_succ _))
    have hd := pd_b hx hy qv.1 qv.2
    have ih := len_b hdx hdy hv S (v 0 q) (v 1 q) (fun j hj => hq (j + 1) (Nat.succ_lt_succ hj)) qv.1 qv.2
    simp only [pl_len, List.length_cons]
    omega
theorem ah_no {S : List Nat} {m k : Nat} (h : (if m ∈ S then (S.idxOf m : Int) else -1) ≤ (k : Int)) : (decide (m ∈ S) && decide (k < S.idxOf m)) = false := by
  by_cases hm : m ∈ S
  · rw [if_pos hm] at h
    rw [decide_eq_false (p := k < S.idxOf m) (by omega), Bool.and_false]
  · rw [decide_eq_false hm, Bool.false_and]
theorem ah_yes {S : List Nat} {m k : Nat} (h : ¬ (if m ∈ S then (S.idxOf m : Int) else -1) ≤ (k : Int)) : (decide (m ∈ S) && decide (k < S.idxOf m)) = true := by
  by_cases hm : m ∈ S
  · rw [if_pos hm] at h
    rw [decide_eq_true hm, decide_eq_true (by omega), Bool.true_and]
  · rw [if_neg hm] at h
    omega
theorem tm_step {v : Nat → Nat → Int} {S : List Nat} {T : List Int} {k : Nat} {x y a : Int} (hk : k < S.length) (h : pl_tm v (S.drop k) x y a = T.drop k) (hl : T.length = S.length) :
    a + pd_d x y (v 0 (S.getD k 0)) (v 1 (S.getD k 0)) = T.getD k 0 ∧ pl_tm v (S.drop (k + 1)) (v 0 (S.getD k 0)) (v 1 (S.getD k 0)) (a + pd_d x y (v 0 (S.getD k 0)) (v 1 (S.getD k 0))) = T.drop (k + 1) := by
  rw [ls_drop hk, lt_drop (by omega)] at h
  simp only [pl_tm] at h
  injection h with h1 h2
  exact ⟨h1, h2⟩
theorem pl_tm_len (v : Nat → Nat → Int) (S : List Nat) (x y t : Int) : (pl_tm v S x y t).length = S.length := by
  induction S generalizing x y t with
  | nil => rfl
  | cons q S ih => simp [pl_tm, ih]
theorem c_stopAtS {l : Launch} {E : ab_E} {base : Nat} (hl : l.stackTraces = false) {ad : Nat → Nat} (f : Nat → Nat → Int) (w : Nat × Nat × Int64 × UInt64) {t : Nat} (ht : ab_ob 4 w.1 w.2.1 t = some (8, [some (t + 10), none])) (hta : ab_ar 4 w.1 (t + 10) = some (0, 8)) {S : List Nat} (hS : ts_I f t S) (i : Int) (k : Nat) (hi : i = (k : Int)) (hk : k < S.length) : ab_M l E base yX7_stopAt cX7_stopAt 2 (some .int) 1 0 0 [.ref (ad t), ii_v i] ab_x4 ad (f, w) (ab_R (ii_v ((S.getD k 0 : Nat) : Int)) ab_x4 ad (f, w)) := by
  rw [← hS.2.2.1 k hk]
  exact c_stopAt hl f w ht hta S.length hS.1 hS.2.1 i k hi hk
set_option maxRecDepth 20000 in
set_option maxHeartbeats 2000000 in
theorem c_lengthOf {l : Launch} {E : ab_E} {base : Nat} (hl : l.stackTraces = false) {ad : Nat → Nat} (f : Nat → Nat → Int) (w : Nat × Nat × Int64 × UInt64) (hr : w.2.1 ≤ 30) {v : Nat → Nat → Int} (hv : pe_C f v w.2.1) {o : Nat} (ho : ab_ob 4 w.1 w.2.1 o = some (2, [none, none, none, none, none, some (o + 10), none, none, none, none, none, none, none])) (hB : pb_B f o) {t : Nat} (ht : ab_ob 4 w.1 w.2.1 t = some (8, [some (t + 10), none])) (hta : ab_ar 4 w.1 (t + 10) = some (0, 8)) {S : List Nat} (hS : ts_I f t S) (hq : ∀ j, j < S.length → S.getD j 0 / 2 ≤ w.2.1)  : ab_M l E base yX3_lengthOf cX3_lengthOf 8 (some .int) 7 0 0 [.ref (ad 9), .ref (ad o), .ref (ad t)] ab_x4 ad (f, w) (ab_R (ii_v (pl_len v (f o 3) (f o 4) S (f o 6) (f o 7))) ab_x4 ad (f, w)) := by
  obtain ⟨Post, hPost⟩ : ∃ P : ab_P, P = (ab_R (ii_v (pl_len v (f o 3) (f o 4) S (f o 6) (f o 7))) ab_x4 ad (f, w)) := ⟨_, rfl⟩
  rw [← hPost]
  refine ab_of RX3 [(0, .ref (ad 9)), (1, .ref (ad o)), (2, .ref (ad t))] hl (by decide) rfl (Nat.le_of_ble_eq_true rfl) rfl ?_
  intro p e s m args below meth c C T0 hnm
  obtain ⟨hc, h8, hj, hb⟩ := id hS
  obtain ⟨hB1, hB3, hB4, hB6, hB7, hB8, hB9⟩ := id hB
  refine a_aload_n C dX3_lengthOf_0 rfl ?_
  refine a_getN (ci := 2) (i := 6) (v := ii_v (f o 6)) C iw_X1 rfl (by decide) rfl fn_X3_19 ho rfl dX3_lengthOf_1 ?_
  refine a_istore_n (L' := [(0, .ref (ad 9)), (1, .ref (ad o)), (2, .ref (ad t)), (3, ii_v (f o 6))]) C dX3_lengthOf_4 (by decide) rfl ?_
  refine a_aload_n C dX3_lengthOf_5 rfl ?_
  refine a_getN (ci := 2) (i := 7) (v := ii_v (f o 7)) C iw_X1 rfl (by decide) rfl fn_X3_25 ho rfl dX3_lengthOf_6 ?_
  refine a_istore (L' := [(0, .ref (ad 9)), (1, .ref (ad o)), (2, .ref (ad t)), (3, ii_v (f o 6)), (4, ii_v (f o 7))]) C dX3_lengthOf_9 (by decide) rfl ?_
  refine a_iconst C dX3_lengthOf_11 ?_
  refine a_istore (L' := [(0, .ref (ad 9)), (1, .ref (ad o)), (2, .ref (ad t)), (3, ii_v (f o 6)), (4, ii_v (f o 7)), (5, ii_v 0)]) C dX3_lengthOf_12 (by decide) rfl ?_
  refine a_iconst C dX3_lengthOf_14 ?_
  refine a_istore (L' := [(0, .ref (ad 9)), (1, .ref (ad o)), (2, .ref (ad t)), (3, ii_v (f o 6)), (4, ii_v (f o 7)), (5, ii_v 0), (6, ii_v 0)]) C dX3_lengthOf_15 (by decide) rfl ?_
  have loop17 : ∀ (NN17 : Nat) (k : Nat) (x : Int) (y : Int) (a : Int), S.length - k < NN17 → (k ≤ S.length) → (0 ≤ x ∧ x ≤ 20) → (0 ≤ y ∧ y ≤ 20) → (0 ≤ a ∧ a ≤ 40 * (k : Int)) → (a + pl_len v (f o 3) (f o 4) (S.drop k) x y = pl_len v (f o 3) (f o 4) S (f o 6) (f o 7)) → ab_W p l e (ab_rm 7 0 0) s m args below meth c E base 8 (ab_Q below E base Post args s 0 0) ab_x4 ad (f, w) 0 0 17 [(0, .ref (ad 9)), (1, .ref (ad o)), (2, .ref (ad t)), (3, ii_v x), (4, ii_v y), (5, ii_v a), (6, ii_v ((k : Nat) : Int))] [] := by
    intro NN17
    induction NN17 with
    | zero => intro k x y a hNN; exact absurd hNN (Nat.not_lt_zero _)
    | succ NN17 ih17 =>
      intro k x y a hNN hk hx hy ha hE
      refine a_iload C dX3_lengthOf_17 rfl ?_
      refine a_aload_n C dX3_lengthOf_19 rfl ?_
      refine a_getN (ci := 8) (i := 1) (v := ii_v (f t 1)) C iw_X7 rfl (by decide) rfl fn_X3_28 ht rfl dX3_lengthOf_20 ?_
      refine a_icmp_ge (tgt := 78) C dX3_lengthOf_23 rfl (by unfold ii_B; omega) (by unfold ii_B; omega) (fun h23 => ?_) (fun h23 => ?_)
      · skip
        refine a_iload C dX3_lengthOf_78 rfl ?_
        refine a_iload_n C dX3_lengthOf_80 rfl ?_
        refine a_iload C dX3_lengthOf_81 rfl ?_
        refine a_aload_n C dX3_lengthOf_83 rfl ?_
        refine a_getN (ci := 2) (i := 3) (v := ii_v (f o 3)) C iw_X1 rfl (by decide) rfl fn_X3_49 ho rfl dX3_lengthOf_84 ?_
        refine a_aload_n C dX3_lengthOf_87 rfl ?_
        refine a_getN (ci := 2) (i := 4) (v := ii_v (f o 4)) C iw_X1 rfl (by decide) rfl fn_X3_52 ho rfl dX3_lengthOf_88 ?_
        refine a_callSN (As := [ii_v x, ii_v y, ii_v (f o 3), ii_v (f o 4)]) C (c_distance hl f w x y (f o 3) (f o 4) (by omega) (by omega) (by omega) (by omega)) co_X9_distance in_X9 mn_X3_55 sc_X9_distance ar_X9_distance ⟨by decide, by decide, by decide, by decide⟩ rfl (Nat.le_of_ble_eq_true rfl) dX3_lengthOf_91 (a_dR ?_) a_nR
        refine a_iadd C dX3_lengthOf_94 ?_
        refine a_iret C ?_ (by decide) (by decide) dX3_lengthOf_95
        rw [hPost]
        exact ⟨rt_i (by rw [← hE, List.drop_eq_nil_of_le (by omega)]; rfl), rfl, rfl, rfl⟩
      · skip
        refine a_aload_n C dX3_lengthOf_26 rfl ?_
        refine a_iload C dX3_lengthOf_27 rfl ?_
        refine a_callVN (o := t) (As := [ii_v ((k : Nat) : Int)]) C (c_stopAtS hl f w ht hta hS ((k : Nat) : Int) k (by omega) (by omega)) co_X7_stopAt in_X7 mn_X3_33 im_X7_stopAt se_X7_stopAt rfl ht ar_X7_stopAt ⟨by decide, by decide, by decide, by decide⟩ rfl (Nat.le_of_ble_eq_true rfl) dX3_lengthOf_29 (a_dR ?_) a_nR
        refine a_istore (L' := [(0, .ref (ad 9)), (1, .ref (ad o)), (2, .ref (ad t)), (3, ii_v x), (4, ii_v y), (5, ii_v a), (6, ii_v ((k : Nat) : Int)), (7, ii_v (((S.getD k 0) : Nat) : Int))]) C dX3_lengthOf_32 (by decide) rfl ?_
        have q1 := hq k (by omega)
        have qv := hv.1 _ q1
        have hd := pd_b (x := x) (y := y) (u := v 0 (S.getD k 0)) (v := v 1 (S.getD k 0)) (by omega) (by omega) (by omega) (by omega)
        refine a_iload C dX3_lengthOf_34 rfl ?_
        refine a_aload_n C dX3_lengthOf_36 rfl ?_
        refine a_get (ci := 4) (i := 0) (v := .ref (ad 2)) C iw_X3 rfl (by decide) rfl fl_X3_15 rfl rfl dX3_lengthOf_37 ?_
        refine a_iload C dX3_lengthOf_40 rfl ?_
        refine a_iload_n C dX3_lengthOf_42 rfl ?_
        refine a_iload C dX3_lengthOf_43 rfl ?_
        refine a_callVN (o := 2) (As := [ii_v (((S.getD k 0) : Nat) : Int), ii_v x, ii_v y]) C (c_wayTo hl f w hr hv (S.getD k 0) (by omega) x y (by omega) (by omega)) co_X0_wayTo in_X0 mn_X3_37 im_X0_wayTo se_X0_wayTo rfl rfl ar_X0_wayTo ⟨by decide, by decide, by decide, by decide⟩ rfl (Nat.le_of_ble_eq_true rfl) dX3_lengthOf_45 (a_dR ?_) a_nR
        refine a_iadd C dX3_lengthOf_48 ?_
        refine a_istore (L' := [(0, .ref (ad 9)), (1, .ref (ad o)), (2, .ref (ad t)), (3, ii_v x), (4, ii_v y), (5, ii_v (a + (pd_d x y (v 0 (S.getD k 0)) (v 1 (S.getD k 0))))), (6, ii_v ((k : Nat) : Int)), (7, ii_v (((S.getD k 0) : Nat) : Int))]) C dX3_lengthOf_49 (by decide) rfl ?_
        refine a_aload_n C dX3_lengthOf_51 rfl ?_
        refine a_get (ci := 4) (i := 0) (v := .ref (ad 2)) C iw_X3 rfl (by decide) rfl fl_X3_15 rfl rfl dX3_lengthOf_52 ?_
        refine a_iload C dX3_lengthOf_55 rfl ?_
        refine a_callVN (o := 2) (As := [ii_v (((S.getD k 0) : Nat) : Int)]) C (c_xOf hl f w hr hv (S.getD k 0) (by omega)) co_X0_xOf in_X0 mn_X3_43 im_X0_xOf se_X0_xOf rfl rfl ar_X0_xOf ⟨by decide, by decide, by decide, by decide⟩ rfl (Nat.le_of_ble_eq_true rfl) dX3_lengthOf_57 (a_dR ?_) a_nR
        refine a_istore_n (L' := [(0, .ref (ad 9)), (1, .ref (ad o)), (2, .ref (ad t)), (3, ii_v (v 0 (S.getD k 0))), (4, ii_v y), (5, ii_v (a + (pd_d x y (v 0 (S.getD k 0)) (v 1 (S.getD k 0))))), (6, ii_v ((k : Nat) : Int)), (7, ii_v (((S.getD k 0) : Nat) : Int))]) C dX3_lengthOf_60 (by decide) rfl ?_
        refine a_aload_n C dX3_lengthOf_61 rfl ?_
        refine a_get (ci := 4) (i := 0) (v := .ref (ad 2)) C iw_X3 rfl (by decide) rfl fl_X3_15 rfl rfl dX3_lengthOf_62 ?_
        refine a_iload C dX3_lengthOf_65 rfl ?_
        refine a_callVN (o := 2) (As := [ii_v (((S.getD k 0) : Nat) : Int)]) C (c_yOf hl f w hr hv (S.getD k 0) (by omega)) co_X0_yOf in_X0 mn_X3_46 im_X0_yOf se_X0_yOf rfl rfl ar_X0_yOf ⟨by decide, by decide, by decide, by decide⟩ rfl (Nat.le_of_ble_eq_true rfl) dX3_lengthOf_67 (a_dR ?_) a_nR
        refine a_istore (L' := [(0, .ref (ad 9)), (1, .ref (ad o)), (2, .ref (ad t)), (3, ii_v (v 0 (S.getD k 0))), (4, ii_v (v 1 (S.getD k 0))), (5, ii_v (a + (pd_d x y (v 0 (S.getD k 0)) (v 1 (S.getD k 0))))), (6, ii_v ((k : Nat) : Int)), (7, ii_v (((S.getD k 0) : Nat) : Int))]) C dX3_lengthOf_70 (by decide) rfl ?_
        refine a_iinc (L' := [(0, .ref (ad 9)), (1, .ref (ad o)), (2, .ref (ad t)), (3, ii_v (v 0 (S.getD k 0))), (4, ii_v (v 1 (S.getD k 0))), (5, ii_v (a + (pd_d x y (v 0 (S.getD k 0)) (v 1 (S.getD k 0))))), (6, ii_v (((k : Nat) : Int) + 1)), (7, ii_v (((S.getD k 0) : Nat) : Int))]) C dX3_lengthOf_72 rfl (by decide) rfl ?_
        refine a_goto (tgt := 17) C dX3_lengthOf_75 rfl ?_
        refine a_pick [0, 1, 2, 3, 4, 5, 6] (L2 := [(0, .ref (ad 9)), (1, .ref (ad o)), (2, .ref (ad t)), (3, ii_v (v 0 (S.getD k 0))), (4, ii_v (v 1 (S.getD k 0))), (5, ii_v (a + (pd_d x y (v 0 (S.getD k 0)) (v 1 (S.getD k 0))))), (6, ii_v (((k : Nat) : Int) + 1))]) rfl ?_
        exact ih17 (k + 1) (v 0 (S.getD k 0)) (v 1 (S.getD k 0)) (a + pd_d x y (v 0 (S.getD k 0)) (v 1 (S.getD k 0))) (by omega) (by omega) qv.2.2.1 qv.2.2.2 (by omega) (by rw [ls_drop (by omega)] at hE; simp only [pl_len] at hE; omega)
  exact loop17 (_ + 1) 0 (f o 6) (f o 7) 0 (Nat.lt_succ_self _) (Nat.zero_le _) hB6 hB7 (by omega) (by rw [List.drop_zero, Int.zero_add])
set_option maxRecDepth 20000 in
set_option maxHeartbeats 2000000 in
theorem c_clock {l : Launch} {E : ab_E} {base : Nat} (hl : l.stackTraces = false) {ad : Nat → Nat} (f : Nat → Nat → Int) (w : Nat × Nat × Int64 × UInt64) (hr : w.2.1 ≤ 30) {v : Nat → Nat → Int} (hv : pe_C f v w.2.1) {o : Nat} (ho : ab_ob 4 w.1 w.2.1 o = some (2, [none, none, none, none, none, some (o + 10), none, none, none, none, none, none, none])) (hB : pb_B f o) {t : Nat} (ht : ab_ob 4 w.1 w.2.1 t = some (8, [some (t + 10), none])) (hta : ab_ar 4 w.1 (t + 10) = some (0, 8)) {S : List Nat} (hS : ts_I f t S) (hq : ∀ j, j < S.length → S.getD j 0 / 2 ≤ w.2.1) (now : Int) (hnow : 0 ≤ now ∧ now ≤ 100000)  : ab_M l E base yX3_clock cX3_clock 9 none 7 0 0 [.ref (ad 9), .ref (ad o), .ref (ad t), ii_v now] ab_x4 ad (f, w) (ab_F ad w (fun r g => r = none ∧ (∀ j, j < S.length → g 10 j = (pl_tm v S (f o 6) (f o 7) now).getD j 0) ∧ ∀ o2, o2 ≠ 10 → g o2 = f o2)) := by
  obtain ⟨Post, hPost⟩ : ∃ P : ab_P, P = (ab_F ad w (fun r g => r = none ∧ (∀ j, j < S.length → g 10 j = (pl_tm v S (f o 6) (f o 7) now).getD j 0) ∧ ∀ o2, o2 ≠ 10 → g o2 = f o2)) := ⟨_, rfl⟩
  rw [← hPost]
  refine ab_of RX3 [(0, .ref (ad 9)), (1, .ref (ad o)), (2, .ref (ad t)), (3, ii_v now)] hl (by decide) rfl (Nat.le_of_ble_eq_true rfl) rfl ?_
  intro p e s m args below meth c C T0 hnm
  obtain ⟨hc, h8, hj, hb⟩ := id hS
  obtain ⟨hB1, hB3, hB4, hB6, hB7, hB8, hB9⟩ := id hB
  have htc := ob_tour_c ht
  have hTl := pl_tm_len v S (f o 6) (f o 7) now
  refine a_aload_n C dX3_clock_0 rfl ?_
  refine a_getN (ci := 2) (i := 6) (v := ii_v (f o 6)) C iw_X1 rfl (by decide) rfl fn_X3_19 ho rfl dX3_clock_1 ?_
  refine a_istore (L' := [(0, .ref (ad 9)), (1, .ref (ad o)), (2, .ref (ad t)), (3, ii_v now), (4, ii_v (f o 6))]) C dX3_clock_4 (by decide) rfl ?_
  refine a_aload_n C dX3_clock_6 rfl ?_
  refine a_getN (ci := 2) (i := 7) (v := ii_v (f o 7)) C iw_X1 rfl (by decide) rfl fn_X3_25 ho rfl dX3_clock_7 ?_
  refine a_istore (L' := [(0, .ref (ad 9)), (1, .ref (ad o)), (2, .ref (ad t)), (3, ii_v now), (4, ii_v (f o 6)), (5, ii_v (f o 7))]) C dX3_clock_10 (by decide) rfl ?_
  refine a_iload_n C dX3_clock_12 rfl ?_
  refine a_istore (L' := [(0, .ref (ad 9)), (1, .ref (ad o)), (2, .ref (ad t)), (3, ii_v now), (4, ii_v (f o 6)), (5, ii_v (f o 7)), (6, ii_v now)]) C dX3_clock_13 (by decide) rfl ?_
  refine a_iconst C dX3_clock_15 ?_
  refine a_istore (L' := [(0, .ref (ad 9)), (1, .ref (ad o)), (2, .ref (ad t)), (3, ii_v now), (4, ii_v (f o 6)), (5, ii_v (f o 7)), (6, ii_v now), (7, ii_v 0)]) C dX3_clock_16 (by decide) rfl ?_
  have loop18 : ∀ (NN18 : Nat) (k : Nat) (x : Int) (y : Int) (a : Int) (g : Nat → Nat → Int), S.length - k < NN18 → (k ≤ S.length) → (0 ≤ x ∧ x ≤ 20) → (0 ≤ y ∧ y ≤ 20) → (0 ≤ a ∧ a ≤ 100000 + 40 * (k : Int)) → (pl_tm v (S.drop k) x y a = (pl_tm v S (f o 6) (f o 7) now).drop k) → (∀ j, j < k → g 10 j = (pl_tm v S (f o 6) (f o 7) now).getD j 0) → (∀ o2, o2 ≠ 10 → g o2 = f o2) → ab_W p l e (ab_rm 7 0 0) s m args below meth c E base 9 (ab_Q below E base Post args s 0 0) ab_x4 ad (g, w) 0 0 18 [(0, .ref (ad 9)), (1, .ref (ad o)), (2, .ref (ad t)), (3, ii_v now), (4, ii_v x), (5, ii_v y), (6, ii_v a), (7, ii_v ((k : Nat) : Int))] [] := by
    intro NN18
    induction NN18 with
    | zero => intro k x y a g hNN; exact absurd hNN (Nat.not_lt_zero _)
    | succ NN18 ih18 =>
      intro k x y a g hNN hk hx hy ha hT hg hfr
      have hvg : pe_C g v w.2.1 := pe_same hv (fun o2 h => hfr o2 (by omega))
      refine a_iload C dX3_clock_18 rfl ?_
      refine a_aload_n C dX3_clock_20 rfl ?_
      refine a_getN (ci := 8) (i := 1) (v := ii_v (g t 1)) C iw_X7 rfl (by decide) rfl fn_X3_28 ht rfl dX3_clock_21 ?_
      rw [hfr t (by omega)]
      refine a_icmp_ge (tgt := 100) C dX3_clock_24 rfl (by unfold ii_B; omega) (by unfold ii_B; omega) (fun h24 => ?_) (fun h24 => ?_)
      · skip
        refine a_vret C ?_ (by decide) (by decide) dX3_clock_100
        rw [hPost]
        exact ab_F_of ⟨rfl, fun j h => hg j (by omega), hfr⟩
      · skip
        refine a_iload C dX3_clock_27 rfl ?_
        refine a_aload_n C dX3_clock_29 rfl ?_
        refine a_get (ci := 4) (i := 1) (v := .ref (ad 10)) C iw_X3 rfl (by decide) rfl fl_X3_9 rfl rfl dX3_clock_30 ?_
        refine a_alen (o := 10) (N := 8) C dX3_clock_33 rfl (Or.inl rfl) ?_
        refine a_icmp_ge (tgt := 100) C dX3_clock_34 rfl (by unfold ii_B; omega) (by unfold ii_B; omega) (fun h34 => ?_) (fun h34 => ?_)
        · skip
          omega
        · skip
          refine a_aload_n C dX3_clock_37 rfl ?_
          refine a_iload C dX3_clock_38 rfl ?_
          refine a_callVN (o := t) (As := [ii_v ((k : Nat) : Int)]) C (c_stopAtS hl g w ht hta (ts_same hS (hfr _ (by omega)) (hfr _ (by omega))) ((k : Nat) : Int) k (by omega) (by omega)) co_X7_stopAt in_X7 mn_X3_33 im_X7_stopAt se_X7_stopAt rfl ht ar_X7_stopAt ⟨by decide, by decide, by decide, by decide⟩ rfl (Nat.le_of_ble_eq_true rfl) dX3_clock_40 (a_dR ?_) a_nR
          have q1 := hq k (by omega)
          have qv := hv.1 _ q1
          have hd := pd_b (x := x) (y := y) (u := v 0 (S.getD k 0)) (v := v 1 (S.getD k 0)) (by omega) (by omega) (by omega) (by omega)
          refine a_istore (L' := [(0, .ref (ad 9)), (1, .ref (ad o)), (2, .ref (ad t)), (3, ii_v now), (4, ii_v x), (5, ii_v y), (6, ii_v a), (7, ii_v ((k : Nat) : Int)), (8, ii_v (((S.getD k 0) : Nat) : Int))]) C dX3_clock_43 (by decide) rfl ?_
          refine a_iload C dX3_clock_45 rfl ?_
          refine a_aload_n C dX3_clock_47 rfl ?_
          refine a_get (ci := 4) (i := 0) (v := .ref (ad 2)) C iw_X3 rfl (by decide) rfl fl_X3_15 rfl rfl dX3_clock_48 ?_
          refine a_iload C dX3_clock_51 rfl ?_
          refine a_iload C dX3_clock_53 rfl ?_
          refine a_iload C dX3_clock_55 rfl ?_
          refine a_callVN (o := 2) (As := [ii_v (((S.getD k 0) : Nat) : Int), ii_v x, ii_v y]) C (c_wayTo hl g w hr hvg (S.getD k 0) (by omega) x y (by omega) (by omega)) co_X0_wayTo in_X0 mn_X3_37 im_X0_wayTo se_X0_wayTo rfl rfl ar_X0_wayTo ⟨by decide, by decide, by decide, by decide⟩ rfl (Nat.le_of_ble_eq_true rfl) dX3_clock_57 (a_dR ?_) a_nR
          refine a_iadd C dX3_clock_60 ?_
          refine a_istore (L' := [(0, .ref (ad 9)), (1, .ref (ad o)), (2, .ref (ad t)), (3, ii_v now), (4, ii_v x), (5, ii_v y), (6, ii_v (a + (pd_d x y (v 0 (S.getD k 0)) (v 1 (S.getD k 0))))), (7, ii_v ((k : Nat) : Int)), (8, ii_v (((S.getD k 0) : Nat) : Int))]) C dX3_clock_61 (by decide) rfl ?_
          refine a_aload_n C dX3_clock_63 rfl ?_
          refine a_get (ci := 4) (i := 1) (v := .ref (ad 10)) C iw_X3 rfl (by decide) rfl fl_X3_9 rfl rfl dX3_clock_64 ?_
          refine a_iload C dX3_clock_67 rfl ?_
          refine a_iload C dX3_clock_69 rfl ?_
          refine a_iast (o := 10) (N := 8) k C dX3_clock_71 rfl (by omega) (by omega) (by decide) ?_
          obtain ⟨g1, eg1⟩ : ∃ F : Nat → Nat → Int, F = ii_up g 10 k (a + (pd_d x y (v 0 (S.getD k 0)) (v 1 (S.getD k 0)))) := ⟨_, rfl⟩
          rw [← eg1]
          have hvg1 : pe_C g1 v w.2.1 := pe_same hvg (fun o2 h => by rw [eg1]; exact ii_up_row _ _ (by omega))
          refine a_aload_n C dX3_clock_72 rfl ?_
          refine a_get (ci := 4) (i := 0) (v := .ref (ad 2)) C iw_X3 rfl (by decide) rfl fl_X3_15 rfl rfl dX3_clock_73 ?_
          refine a_iload C dX3_clock_76 rfl ?_
          refine a_callVN (o := 2) (As := [ii_v (((S.getD k 0) : Nat) : Int)]) C (c_xOf hl g1 w hr hvg1 (S.getD k 0) (by omega)) co_X0_xOf in_X0 mn_X3_43 im_X0_xOf se_X0_xOf rfl rfl ar_X0_xOf ⟨by decide, by decide, by decide, by decide⟩ rfl (Nat.le_of_ble_eq_true rfl) dX3_clock_78 (a_dR ?_) a_nR
          refine a_istore (L' := [(0, .ref (ad 9)), (1, .ref (ad o)), (2, .ref (ad t)), (3, ii_v now), (4, ii_v (v 0 (S.getD k 0))), (5, ii_v y), (6, ii_v (a + (pd_d x y (v 0 (S.getD k 0)) (v 1 (S.getD k 0))))), (7, ii_v ((k : Nat) : Int)), (8, ii_v (((S.getD k 0) : Nat) : Int))]) C dX3_clock_81 (by decide) rfl ?_
          refine a_aload_n C dX3_clock_83 rfl ?_
          refine a_get (ci := 4) (i := 0) (v := .ref (ad 2)) C iw_X3 rfl (by decide) rfl fl_X3_15 rfl rfl dX3_clock_84 ?_
          refine a_iload C dX3_clock_87 rfl ?_
          refine a_callVN (o := 2) (As := [ii_v (((S.getD k 0) : Nat) : Int)]) C (c_yOf hl g1 w hr hvg1 (S.getD k 0) (by omega)) co_X0_yOf in_X0 mn_X3_46 im_X0_yOf se_X0_yOf rfl rfl ar_X0_yOf ⟨by decide, by decide, by decide, by decide⟩ rfl (Nat.le_of_ble_eq_true rfl) dX3_clock_89 (a_dR ?_) a_nR
          refine a_istore (L' := [(0, .ref (ad 9)), (1, .ref (ad o)), (2, .ref (ad t)), (3, ii_v now), (4, ii_v (v 0 (S.getD k 0))), (5, ii_v (v 1 (S.getD k 0))), (6, ii_v (a + (pd_d x y (v 0 (S.getD k 0)) (v 1 (S.getD k 0))))), (7, ii_v ((k : Nat) : Int)), (8, ii_v (((S.getD k 0) : Nat) : Int))]) C dX3_clock_92 (by decide) rfl ?_
          refine a_iinc (L' := [(0, .ref (ad 9)), (1, .ref (ad o)), (2, .ref (ad t)), (3, ii_v now), (4, ii_v (v 0 (S.getD k 0))), (5, ii_v (v 1 (S.getD k 0))), (6, ii_v (a + (pd_d x y (v 0 (S.getD k 0)) (v 1 (S.getD k 0))))), (7, ii_v (((k : Nat) : Int) + 1)), (8, ii_v (((S.getD k 0) : Nat) : Int))]) C dX3_clock_94 rfl (by decide) rfl ?_
          refine a_goto (tgt := 18) C dX3_clock_97 rfl ?_
          refine a_pick [0, 1, 2, 3, 4, 5, 6, 7] (L2 := [(0, .ref (ad 9)), (1, .ref (ad o)), (2, .ref (ad t)), (3, ii_v now), (4, ii_v (v 0 (S.getD k 0))), (5, ii_v (v 1 (S.getD k 0))), (6, ii_v (a + (pd_d x y (v 0 (S.getD k 0)) (v 1 (S.getD k 0))))), (7, ii_v (((k : Nat) : Int) + 1))]) rfl ?_
          exact ih18 (k + 1) (v 0 (S.getD k 0)) (v 1 (S.getD k 0)) (a + pd_d x y (v 0 (S.getD k 0)) (v 1 (S.getD k 0))) g1 (by omega) (by omega) qv.2.2.1 qv.2.2.2 (by omega) (tm_step (by omega) hT hTl).2 (by rw [eg1]; exact lt_s (fun j h => by rw [ii_up_k _ _ (by omega)]; exact hg j h) (by rw [ii_up_s]; exact (tm_step (by omega) hT hTl).1)) (fun o2 h => by rw [eg1, ii_up_row _ _ h]; exact hfr o2 h)
  exact loop18 (_ + 1) 0 (f o 6) (f o 7) now f (Nat.lt_succ_self _) (Nat.zero_le _) hB6 hB7 (by omega) rfl (fun j h => absurd h (Nat.not_lt_zero j)) (fun _ _ => rfl)
set_option maxRecDepth 20000 in
set_option maxHeartbeats 2000000 in
theorem c_timeAt {l : Launch} {E : ab_E} {base : Nat} (hl : l.stackTraces = false) {ad : Nat → Nat} (f : Nat → Nat → Int) (w : Nat × Nat × Int64 × UInt64) (i : Int) (k : Nat) (hi : i = (k : Int)) (hk : k < 8) (u : Int) (hu : f 10 k = u) : ab_M l E base yX3_timeAt cX3_timeAt 2 (some .int) 1 0 0 [.ref (ad 9), ii_v i] ab_x4 ad (f, w) (ab_R (ii_v u) ab_x4 ad (f, w)) := by
  obtain ⟨Post, hPost⟩ : ∃ P : ab_P, P = (ab_R (ii_v u) ab_x4 ad (f, w)) := ⟨_, rfl⟩
  rw [← hPost]
  refine ab_of RX3 [(0, .ref (ad 9)), (1, ii_v i)] hl (by decide) rfl (Nat.le_of_ble_eq_true rfl) rfl ?_
  intro p e s m args below meth c C T0 hnm
  refine a_iload_n C dX3_timeAt_0 rfl ?_
  refine a_if_lt (tgt := 22) C dX3_timeAt_1 rfl (by unfold ii_B; omega) (fun h1 => ?_) (fun h1 => ?_)
  · skip
    omega
  · skip
    refine a_iload_n C dX3_timeAt_4 rfl ?_
    refine a_aload_n C dX3_timeAt_5 rfl ?_
    refine a_get (ci := 4) (i := 1) (v := .ref (ad 10)) C iw_X3 rfl (by decide) rfl fl_X3_9 rfl rfl dX3_timeAt_6 ?_
    refine a_alen (o := 10) (N := 8) C dX3_timeAt_9 rfl (Or.inl rfl) ?_
    refine a_icmp_ge (tgt := 22) C dX3_timeAt_10 rfl (by unfold ii_B; omega) (by unfold ii_B; omega) (fun h10 => ?_) (fun h10 => ?_)
    · skip
      omega
    · skip
      refine a_aload_n C dX3_timeAt_13 rfl ?_
      refine a_get (ci := 4) (i := 1) (v := .ref (ad 10)) C iw_X3 rfl (by decide) rfl fl_X3_9 rfl rfl dX3_timeAt_14 ?_
      refine a_iload_n C dX3_timeAt_17 rfl ?_
      refine a_iald (o := 10) (N := 8) k C dX3_timeAt_18 rfl (by omega) (by omega) (by decide) ?_
      refine a_goto (tgt := 23) C dX3_timeAt_19 rfl ?_
      refine a_iret C ?_ (by decide) (by decide) dX3_timeAt_23
      rw [hPost]
      exact ⟨rt_i hu, rfl, rfl, rfl⟩
set_option maxRecDepth 20000 in
set_option maxHeartbeats 2000000 in
theorem c_lacksSeats {l : Launch} {E : ab_E} {base : Nat} (hl : l.stackTraces = false) {ad : Nat → Nat} (f : Nat → Nat → Int) (w : Nat × Nat × Int64 × UInt64) (hr : w.2.1 ≤ 30) {v : Nat → Nat → Int} (hv : pe_C f v w.2.1) {o : Nat} (ho : ab_ob 4 w.1 w.2.1 o = some (2, [none, none, none, none, none, some (o + 10), none, none, none, none, none, none, none])) (hB : pb_B f o) {t : Nat} (ht : ab_ob 4 w.1 w.2.1 t = some (8, [some (t + 10), none])) (hta : ab_ar 4 w.1 (t + 10) = some (0, 8)) {S : List Nat} (hS : ts_I f t S) (hq : ∀ j, j < S.length → S.getD j 0 / 2 ≤ w.2.1)  : ab_M l E base yX3_lacksSeats cX3_lacksSeats 7 (some .boolean) 6 0 0 [.ref (ad 9), .ref (ad o), .ref (ad t)] ab_x4 ad (f, w) (ab_R (ii_v (if pl_seat v (f o 1) S (f o 9) = true then 1 else 0)) ab_x4 ad (f, w)) := by
  obtain ⟨Post, hPost⟩ : ∃ P : ab_P, P = (ab_R (ii_v (if pl_seat v (f o 1) S (f o 9) = true then 1 else 0)) ab_x4 ad (f, w)) := ⟨_, rfl⟩
  rw [← hPost]
  refine ab_of RX3 [(0, .ref (ad 9)), (1, .ref (ad o)), (2, .ref (ad t))] hl (by decide) rfl (Nat.le_of_ble_eq_true rfl) rfl ?_
  intro p e s m args below meth c C T0 hnm
  obtain ⟨hc, h8, hj, hb⟩ := id hS
  obtain ⟨hB1, hB3, hB4, hB6, hB7, hB8, hB9⟩ := id hB
  refine a_aload_n C dX3_lacksSeats_0 rfl ?_
  refine a_getN (ci := 2) (i := 9) (v := ii_v (f o 9)) C iw_X1 rfl (by decide) rfl fn_X3_81 ho rfl dX3_lacksSeats_1 ?_
  refine a_istore_n (L' := [(0, .ref (ad 9)), (1, .ref (ad o)), (2, .ref (ad t)), (3, ii_v (f o 9))]) C dX3_lacksSeats_4 (by decide) rfl ?_
  refine a_iconst C dX3_lacksSeats_5 ?_
  refine a_istore (L' := [(0, .ref (ad 9)), (1, .ref (ad o)), (2, .ref (ad t)), (3, ii_v (f o 9)), (4, ii_v 0)]) C dX3_lacksSeats_6 (by decide) rfl ?_
  have loop8 : ∀ (NN8 : Nat) (k : Nat) (n : Int), S.length - k < NN8 → (k ≤ S.length) → (-1000 - 6 * (k : Int) ≤ n ∧ n ≤ 1000 + 6 * (k : Int)) → (pl_seat v (f o 1) (S.drop k) n = pl_seat v (f o 1) S (f o 9)) → ab_W p l e (ab_rm 6 0 0) s m args below meth c E base 7 (ab_Q below E base Post args s 0 0) ab_x4 ad (f, w) 0 0 8 [(0, .ref (ad 9)), (1, .ref (ad o)), (2, .ref (ad t)), (3, ii_v n), (4, ii_v ((k : Nat) : Int))] [] := by
    intro NN8
    induction NN8 with
    | zero => intro k n hNN; exact absurd hNN (Nat.not_lt_zero _)
    | succ NN8 ih8 =>
      intro k n hNN hk hn hE
      refine a_iload C dX3_lacksSeats_8 rfl ?_
      refine a_aload_n C dX3_lacksSeats_10 rfl ?_
      refine a_getN (ci := 8) (i := 1) (v := ii_v (f t 1)) C iw_X7 rfl (by decide) rfl fn_X3_28 ht rfl dX3_lacksSeats_11 ?_
      refine a_icmp_ge (tgt := 77) C dX3_lacksSeats_14 rfl (by unfold ii_B; omega) (by unfold ii_B; omega) (fun h14 => ?_) (fun h14 => ?_)
      · skip
        refine a_iconst C dX3_lacksSeats_77 ?_
        refine a_zret C (by decide) ?_ (by decide) (by decide) dX3_lacksSeats_78
        rw [hPost]
        exact ⟨rt_0 (by rw [← hE, List.drop_eq_nil_of_le (by omega)]; simp [pl_seat]), rfl, rfl, rfl⟩
      · skip
        refine a_aload_n C dX3_lacksSeats_17 rfl ?_
        refine a_iload C dX3_lacksSeats_18 rfl ?_
        refine a_callVN (o := t) (As := [ii_v ((k : Nat) : Int)]) C (c_stopAtS hl f w ht hta hS ((k : Nat) : Int) k (by omega) (by omega)) co_X7_stopAt in_X7 mn_X3_33 im_X7_stopAt se_X7_stopAt rfl ht ar_X7_stopAt ⟨by decide, by decide, by decide, by decide⟩ rfl (Nat.le_of_ble_eq_true rfl) dX3_lacksSeats_20 (a_dR ?_) a_nR
        refine a_istore (L' := [(0, .ref (ad 9)), (1, .ref (ad o)), (2, .ref (ad t)), (3, ii_v n), (4, ii_v ((k : Nat) : Int)), (5, ii_v (((S.getD k 0) : Nat) : Int))]) C dX3_lacksSeats_23 (by decide) rfl ?_
        have q1 := hq k (by omega)
        have qv := hv.1 _ q1
        have qr := hv.2 _ q1
        have q64 := hb k (by omega)
        refine a_aload_n C dX3_lacksSeats_25 rfl ?_
        refine a_get (ci := 4) (i := 0) (v := .ref (ad 2)) C iw_X3 rfl (by decide) rfl fl_X3_15 rfl rfl dX3_lacksSeats_26 ?_
        refine a_iload C dX3_lacksSeats_29 rfl ?_
        refine a_callSN (As := [ii_v (((S.getD k 0) : Nat) : Int)]) C (c_requestOf hl f w (S.getD k 0) (by omega)) co_X9_requestOf in_X9 mn_X3_84 sc_X9_requestOf ar_X9_requestOf ⟨by decide, by decide, by decide, by decide⟩ rfl (Nat.le_of_ble_eq_true rfl) dX3_lacksSeats_31 (a_dR ?_) a_nR
        refine a_callVN (o := 2) (As := [ii_v ((((S.getD k 0) / 2) : Nat) : Int)]) C (c_requestAt hl f w hr ((((S.getD k 0) / 2) : Nat) : Int) ((S.getD k 0) / 2) (by omega) (by omega)) co_X0_requestAt in_X0 mn_X3_87 im_X0_requestAt se_X0_requestAt rfl rfl ar_X0_requestAt ⟨by decide, by decide, by decide, by decide⟩ rfl (Nat.le_of_ble_eq_true rfl) dX3_lacksSeats_34 (a_dR ?_) a_nR
        refine a_getN (ci := 7) (i := 4) (v := ii_v (f (300 + ((S.getD k 0) / 2)) 4)) C iw_X6 rfl (by decide) rfl fn_X3_91 (ob_req (by omega)) rfl dX3_lacksSeats_37 ?_
        refine a_top (w := ii_v (v 2 ((S.getD k 0) / 2))) (congrArg (fun q => ii_v q) (hv.2 ((S.getD k 0) / 2) (by omega)).1) ?_
        refine a_istore (L' := [(0, .ref (ad 9)), (1, .ref (ad o)), (2, .ref (ad t)), (3, ii_v n), (4, ii_v ((k : Nat) : Int)), (5, ii_v (((S.getD k 0) : Nat) : Int)), (6, ii_v (v 2 ((S.getD k 0) / 2)))]) C dX3_lacksSeats_40 (by decide) rfl ?_
        refine a_iload_n C dX3_lacksSeats_42 rfl ?_
        refine a_iload C dX3_lacksSeats_43 rfl ?_
        refine a_callSN (As := [ii_v (((S.getD k 0) : Nat) : Int)]) C (c_picksUp hl f w (S.getD k 0) (by omega)) co_X9_picksUp in_X9 mn_X3_96 sc_X9_picksUp ar_X9_picksUp ⟨by decide, by decide, by decide, by decide⟩ rfl (Nat.le_of_ble_eq_true rfl) dX3_lacksSeats_45 (a_dR ?_) a_nR
        refine a_bif_eq (tgt := 56) C dX3_lacksSeats_48 rfl (fun h48 => ?_) (fun h48 => ?_)
        · skip
          refine a_iload C dX3_lacksSeats_56 rfl ?_
          refine a_ineg C dX3_lacksSeats_58 ?_
          refine a_iadd C dX3_lacksSeats_59 ?_
          have hmv := pl_mv_b (v := v) (q := S.getD k 0) (by omega)
          refine a_top (w := ii_v (n + pl_mv v (S.getD k 0))) (by unfold pl_mv; first | rw [if_pos (by assumption)] | rw [if_neg (by assumption)]) ?_
          refine a_istore_n (L' := [(0, .ref (ad 9)), (1, .ref (ad o)), (2, .ref (ad t)), (3, ii_v (n + pl_mv v (S.getD k 0))), (4, ii_v ((k : Nat) : Int)), (5, ii_v (((S.getD k 0) : Nat) : Int)), (6, ii_v (v 2 ((S.getD k 0) / 2)))]) C dX3_lacksSeats_60 (by decide) rfl ?_
          refine a_iload_n C dX3_lacksSeats_61 rfl ?_
          refine a_aload_n C dX3_lacksSeats_62 rfl ?_
          refine a_getN (ci := 2) (i := 1) (v := ii_v (f o 1)) C iw_X1 rfl (by decide) rfl fn_X3_100 ho rfl dX3_lacksSeats_63 ?_
          refine a_icmp_le (tgt := 71) C dX3_lacksSeats_66 rfl (by unfold ii_B; omega) (by unfold ii_B; omega) (fun h66 => ?_) (fun h66 => ?_)
          · skip
            refine a_iinc (L' := [(0, .ref (ad 9)), (1, .ref (ad o)), (2, .ref (ad t)), (3, ii_v (n + pl_mv v (S.getD k 0))), (4, ii_v (((k : Nat) : Int) + 1)), (5, ii_v (((S.getD k 0) : Nat) : Int)), (6, ii_v (v 2 ((S.getD k 0) / 2)))]) C dX3_lacksSeats_71 rfl (by decide) rfl ?_
            refine a_goto (tgt := 8) C dX3_lacksSeats_74 rfl ?_
            refine a_pick [0, 1, 2, 3, 4] (L2 := [(0, .ref (ad 9)), (1, .ref (ad o)), (2, .ref (ad t)), (3, ii_v (n + pl_mv v (S.getD k 0))), (4, ii_v (((k : Nat) : Int) + 1))]) rfl ?_
            exact ih8 (k + 1) (n + pl_mv v (S.getD k 0)) (by omega) (by omega) (by omega) (by rw [ls_drop (k := k) (by omega)] at hE; simp only [pl_seat] at hE; rw [decide_eq_false (p := f o 1 < n + pl_mv v (S.getD k 0)) (by omega), Bool.false_or] at hE; exact hE)
          · skip
            refine a_iconst C dX3_lacksSeats_69 ?_
            refine a_zret C (by decide) ?_ (by decide) (by decide) dX3_lacksSeats_70
            rw [hPost]
            exact ⟨rt_1 (by rw [← hE, ls_drop (by omega)]; simp only [pl_seat]; rw [decide_eq_true (p := f o 1 < n + pl_mv v (S.getD k 0)) (by omega), Bool.true_or]), rfl, rfl, rfl⟩
        · skip
          refine a_iload C dX3_lacksSeats_51 rfl ?_
          refine a_goto (tgt := 59) C dX3_lacksSeats_53 rfl ?_
          refine a_iadd C dX3_lacksSeats_59 ?_
          have hmv := pl_mv_b (v := v) (q := S.getD k 0) (by omega)
          refine a_top (w := ii_v (n + pl_mv v (S.getD k 0))) (by unfold pl_mv; first | rw [if_pos (by assumption)] | rw [if_neg (by assumption)]) ?_
          refine a_istore_n (L' := [(0, .ref (ad 9)), (1, .ref (ad o)), (2, .ref (ad t)), (3, ii_v (n + pl_mv v (S.getD k 0))), (4, ii_v ((k : Nat) : Int)), (5, ii_v (((S.getD k 0) : Nat) : Int)), (6, ii_v (v 2 ((S.getD k 0) / 2)))]) C dX3_lacksSeats_60 (by decide) rfl ?_
          refine a_iload_n C dX3_lacksSeats_61 rfl ?_
          refine a_aload_n C dX3_lacksSeats_62 rfl ?_
          refine a_getN (ci := 2) (i := 1) (v := ii_v (f o 1)) C iw_X1 rfl (by decide) rfl fn_X3_100 ho rfl dX3_lacksSeats_63 ?_
          refine a_icmp_le (tgt := 71) C dX3_lacksSeats_66 rfl (by unfold ii_B; omega) (by unfold ii_B; omega) (fun h66 => ?_) (fun h66 => ?_)
          · skip
            refine a_iinc (L' := [(0, .ref (ad 9)), (1, .ref (ad o)), (2, .ref (ad t)), (3, ii_v (n + pl_mv v (S.getD k 0))), (4, ii_v (((k : Nat) : Int) + 1)), (5, ii_v (((S.getD k 0) : Nat) : Int)), (6, ii_v (v 2 ((S.getD k 0) / 2)))]) C dX3_lacksSeats_71 rfl (by decide) rfl ?_
            refine a_goto (tgt := 8) C dX3_lacksSeats_74 rfl ?_
            refine a_pick [0, 1, 2, 3, 4] (L2 := [(0, .ref (ad 9)), (1, .ref (ad o)), (2, .ref (ad t)), (3, ii_v (n + pl_mv v (S.getD k 0))), (4, ii_v (((k : Nat) : Int) + 1))]) rfl ?_
            exact ih8 (k + 1) (n + pl_mv v (S.getD k 0)) (by omega) (by omega) (by omega) (by rw [ls_drop (k := k) (by omega)] at hE; simp only [pl_seat] at hE; rw [decide_eq_false (p := f o 1 < n + pl_mv v (S.getD k 0)) (by omega), Bool.false_or] at hE; exact hE)
          · skip
            refine a_iconst C dX3_lacksSeats_69 ?_
            refine a_zret C (by decide) ?_ (by decide) (by decide) dX3_lacksSeats_70
            rw [hPost]
            exact ⟨rt_1 (by rw [← hE, ls_drop (by omega)]; simp only [pl_seat]; rw [decide_eq_true (p := f o 1 < n + pl_mv v (S.getD k 0)) (by omega), Bool.true_or]), rfl, rfl, rfl⟩
  exact loop8 (_ + 1) 0 (f o 9) (Nat.lt_succ_self _) (Nat.zero_le _) (by omega) rfl
set_option maxRecDepth 20000 in
set_option maxHeartbeats 2000000 in
theorem c_comesLate {l : Launch} {E : ab_E} {base : Nat} (hl : l.stackTraces = false) {ad : Nat → Nat} (f : Nat → Nat → Int) (w : Nat × Nat × Int64 × UInt64) (hr : w.2.1 ≤ 30) {v : Nat → Nat → Int} (hv : pe_C f v w.2.1) {t : Nat} (ht : ab_ob 4 w.1 w.2.1 t = some (8, [some (t + 10), none])) (hta : ab_ar 4 w.1 (t + 10) = some (0, 8)) {S : List Nat} (hS : ts_I f t S) (hq : ∀ j, j < S.length → S.getD j 0 / 2 ≤ w.2.1) (T : List Int) (hTl : T.length = S.length) (hT : ∀ j, j < S.length → f 10 j = T.getD j 0) (hTb : ∀ j, j < S.length → 0 ≤ T.getD j 0 ∧ T.getD j 0 ≤ 200000)  : ab_M l E base yX3_comesLate cX3_comesLate 4 (some .boolean) 6 0 0 [.ref (ad 9), .ref (ad t)] ab_x4 ad (f, w) (ab_R (ii_v (if pl_late v S T = true then 1 else 0)) ab_x4 ad (f, w)) := by
  obtain ⟨Post, hPost⟩ : ∃ P : ab_P, P = (ab_R (ii_v (if pl_late v S T = true then 1 else 0)) ab_x4 ad (f, w)) := ⟨_, rfl⟩
  rw [← hPost]
  refine ab_of RX3 [(0, .ref (ad 9)), (1, .ref (ad t))] hl (by decide) rfl (Nat.le_of_ble_eq_true rfl) rfl ?_
  intro p e s m args below meth c C T0 hnm
  obtain ⟨hc, h8, hj, hb⟩ := id hS
  refine a_iconst C dX3_comesLate_0 ?_
  refine a_istore_n (L' := [(0, .ref (ad 9)), (1, .ref (ad t)), (2, ii_v 0)]) C dX3_comesLate_1 (by decide) rfl ?_
  have loop2 : ∀ (NN2 : Nat) (k : Nat), S.length - k < NN2 → (k ≤ S.length) → (pl_late v (S.drop k) (T.drop k) = pl_late v S T) → ab_W p l e (ab_rm 6 0 0) s m args below meth c E base 4 (ab_Q below E base Post args s 0 0) ab_x4 ad (f, w) 0 0 2 [(0, .ref (ad 9)), (1, .ref (ad t)), (2, ii_v ((k : Nat) : Int))] [] := by
    intro NN2
    induction NN2 with
    | zero => intro k hNN; exact absurd hNN (Nat.not_lt_zero _)
    | succ NN2 ih2 =>
      intro k hNN hk hE
      refine a_iload_n C dX3_comesLate_2 rfl ?_
      refine a_aload_n C dX3_comesLate_3 rfl ?_
      refine a_getN (ci := 8) (i := 1) (v := ii_v (f t 1)) C iw_X7 rfl (by decide) rfl fn_X3_28 ht rfl dX3_comesLate_4 ?_
      refine a_icmp_ge (tgt := 53) C dX3_comesLate_7 rfl (by unfold ii_B; omega) (by unfold ii_B; omega) (fun h7 => ?_) (fun h7 => ?_)
      · skip
        refine a_iconst C dX3_comesLate_53 ?_
        refine a_zret C (by decide) ?_ (by decide) (by decide) dX3_comesLate_54
        rw [hPost]
        exact ⟨rt_0 (by rw [← hE, List.drop_eq_nil_of_le (by omega)]; simp [pl_late]), rfl, rfl, rfl⟩
      · skip
        refine a_aload_n C dX3_comesLate_10 rfl ?_
        refine a_iload_n C dX3_comesLate_11 rfl ?_
        refine a_callVN (o := t) (As := [ii_v ((k : Nat) : Int)]) C (c_stopAtS hl f w ht hta hS ((k : Nat) : Int) k (by omega) (by omega)) co_X7_stopAt in_X7 mn_X3_33 im_X7_stopAt se_X7_stopAt rfl ht ar_X7_stopAt ⟨by decide, by decide, by decide, by decide⟩ rfl (Nat.le_of_ble_eq_true rfl) dX3_comesLate_12 (a_dR ?_) a_nR
        have q1 := hq k (by omega)
        have qv := hv.1 _ q1
        have qr := hv.2 _ q1
        have q64 := hb k (by omega)
        have qt := hTb k (by omega)
        refine a_istore_n (L' := [(0, .ref (ad 9)), (1, .ref (ad t)), (2, ii_v ((k : Nat) : Int)), (3, ii_v (((S.getD k 0) : Nat) : Int))]) C dX3_comesLate_15 (by decide) rfl ?_
        refine a_iload_n C dX3_comesLate_16 rfl ?_
        refine a_callSN (As := [ii_v (((S.getD k 0) : Nat) : Int)]) C (c_picksUp hl f w (S.getD k 0) (by omega)) co_X9_picksUp in_X9 mn_X3_96 sc_X9_picksUp ar_X9_picksUp ⟨by decide, by decide, by decide, by decide⟩ rfl (Nat.le_of_ble_eq_true rfl) dX3_comesLate_17 (a_dR ?_) a_nR
        refine a_bif_eq (tgt := 47) C dX3_comesLate_20 rfl (fun h20 => ?_) (fun h20 => ?_)
        · skip
          refine a_iinc (L' := [(0, .ref (ad 9)), (1, .ref (ad t)), (2, ii_v (((k : Nat) : Int) + 1)), (3, ii_v (((S.getD k 0) : Nat) : Int))]) C dX3_comesLate_47 rfl (by decide) rfl ?_
          refine a_goto (tgt := 2) C dX3_comesLate_50 rfl ?_
          refine a_pick [0, 1, 2] (L2 := [(0, .ref (ad 9)), (1, .ref (ad t)), (2, ii_v (((k : Nat) : Int) + 1))]) rfl ?_
          exact ih2 (k + 1) (by omega) (by omega) (by rw [ls_drop (k := k) (by omega), lt_drop (k := k) (by omega)] at hE; simp only [pl_late] at hE; first | (rw [decide_eq_false (p := (S.getD k 0) % 2 = 0) (by assumption), Bool.false_and, Bool.false_or] at hE; exact hE) | (rw [decide_eq_false (p := v 3 (S.getD k 0 / 2) < T.getD k 0) (by omega), Bool.and_false, Bool.false_or] at hE; exact hE))
        · skip
          refine a_aload_n C dX3_comesLate_23 rfl ?_
          refine a_iload_n C dX3_comesLate_24 rfl ?_
          refine a_callV (o := 9) (As := [ii_v ((k : Nat) : Int)]) C (c_timeAt hl f w ((k : Nat) : Int) k (by omega) (by omega) (T.getD k 0) (hT k (by omega))) co_X3_timeAt in_X3 ml_X3_103 im_X3_timeAt se_X3_timeAt rfl rfl ar_X3_timeAt ⟨by decide, by decide, by decide, by decide⟩ rfl (Nat.le_of_ble_eq_true rfl) dX3_comesLate_25 (a_dR ?_) a_nR
          refine a_aload_n C dX3_comesLate_28 rfl ?_
          refine a_get (ci := 4) (i := 0) (v := .ref (ad 2)) C iw_X3 rfl (by decide) rfl fl_X3_15 rfl rfl dX3_comesLate_29 ?_
          refine a_iload_n C dX3_comesLate_32 rfl ?_
          refine a_callSN (As := [ii_v (((S.getD k 0) : Nat) : Int)]) C (c_requestOf hl f w (S.getD k 0) (by omega)) co_X9_requestOf in_X9 mn_X3_84 sc_X9_requestOf ar_X9_requestOf ⟨by decide, by decide, by decide, by decide⟩ rfl (Nat.le_of_ble_eq_true rfl) dX3_comesLate_33 (a_dR ?_) a_nR
          refine a_callVN (o := 2) (As := [ii_v ((((S.getD k 0) / 2) : Nat) : Int)]) C (c_requestAt hl f w hr ((((S.getD k 0) / 2) : Nat) : Int) ((S.getD k 0) / 2) (by omega) (by omega)) co_X0_requestAt in_X0 mn_X3_87 im_X0_requestAt se_X0_requestAt rfl rfl ar_X0_requestAt ⟨by decide, by decide, by decide, by decide⟩ rfl (Nat.le_of_ble_eq_true rfl) dX3_comesLate_36 (a_dR ?_) a_nR
          refine a_getN (ci := 7) (i := 6) (v := ii_v (f (300 + ((S.getD k 0) / 2)) 6)) C iw_X6 rfl (by decide) rfl fn_X3_106 (ob_req (by omega)) rfl dX3_comesLate_39 ?_
          refine a_top (w := ii_v (v 3 ((S.getD k 0) / 2))) (congrArg (fun q => ii_v q) (hv.2 ((S.getD k 0) / 2) (by omega)).2.1) ?_
          refine a_icmp_le (tgt := 47) C dX3_comesLate_42 rfl (by unfold ii_B; omega) (by unfold ii_B; omega) (fun h42 => ?_) (fun h42 => ?_)
          · skip
            refine a_iinc (L' := [(0, .ref (ad 9)), (1, .ref (ad t)), (2, ii_v (((k : Nat) : Int) + 1)), (3, ii_v (((S.getD k 0) : Nat) : Int))]) C dX3_comesLate_47 rfl (by decide) rfl ?_
            refine a_goto (tgt := 2) C dX3_comesLate_50 rfl ?_
            refine a_pick [0, 1, 2] (L2 := [(0, .ref (ad 9)), (1, .ref (ad t)), (2, ii_v (((k : Nat) : Int) + 1))]) rfl ?_
            exact ih2 (k + 1) (by omega) (by omega) (by rw [ls_drop (k := k) (by omega), lt_drop (k := k) (by omega)] at hE; simp only [pl_late] at hE; first | (rw [decide_eq_false (p := (S.getD k 0) % 2 = 0) (by assumption), Bool.false_and, Bool.false_or] at hE; exact hE) | (rw [decide_eq_false (p := v 3 (S.getD k 0 / 2) < T.getD k 0) (by omega), Bool.and_false, Bool.false_or] at hE; exact hE))
          · skip
            refine a_iconst C dX3_comesLate_45 ?_
            refine a_zret C (by decide) ?_ (by decide) (by decide) dX3_comesLate_46
            rw [hPost]
            exact ⟨rt_1 (by rw [← hE, ls_drop (by omega), lt_drop (by omega)]; simp only [pl_late]; rw [decide_eq_true (p := (S.getD k 0) % 2 = 0) (by assumption), decide_eq_true (p := v 3 (S.getD k 0 / 2) < T.getD k 0) (by omega), Bool.true_and, Bool.true_or]), rfl, rfl, rfl⟩
  exact loop2 (_ + 1) 0 (Nat.lt_succ_self _) (Nat.zero_le _) rfl
set_option maxRecDepth 20000 in
set_option maxHeartbeats 2000000 in
theorem c_ridesLong {l : Launch} {E : ab_E} {base : Nat} (hl : l.stackTraces = false) {ad : Nat → Nat} (f : Nat → Nat → Int) (w : Nat × Nat × Int64 × UInt64) (hr : w.2.1 ≤ 30) {v : Nat → Nat → Int} (hv : pe_C f v w.2.1) {t : Nat} (ht : ab_ob 4 w.1 w.2.1 t = some (8, [some (t + 10), none])) (hta : ab_ar 4 w.1 (t + 10) = some (0, 8)) {S : List Nat} (hS : ts_I f t S) (hq : ∀ j, j < S.length → S.getD j 0 / 2 ≤ w.2.1) (T : List Int) (hTl : T.length = S.length) (hT : ∀ j, j < S.length → f 10 j = T.getD j 0) (hTb : ∀ j, j < S.length → 0 ≤ T.getD j 0 ∧ T.getD j 0 ≤ 200000)  : ab_M l E base yX3_ridesLong cX3_ridesLong 7 (some .boolean) 6 0 0 [.ref (ad 9), .ref (ad t)] ab_x4 ad (f, w) (ab_R (ii_v (if pl_long v S T S T = true then 1 else 0)) ab_x4 ad (f, w)) := by
  obtain ⟨Post, hPost⟩ : ∃ P : ab_P, P = (ab_R (ii_v (if pl_long v S T S T = true then 1 else 0)) ab_x4 ad (f, w)) := ⟨_, rfl⟩
  rw [← hPost]
  refine ab_of RX3 [(0, .ref (ad 9)), (1, .ref (ad t))] hl (by decide) rfl (Nat.le_of_ble_eq_true rfl) rfl ?_
  intro p e s m args below meth c C T0 hnm
  obtain ⟨hc, h8, hj, hb⟩ := id hS
  refine a_iconst C dX3_ridesLong_0 ?_
  refine a_istore_n (L' := [(0, .ref (ad 9)), (1, .ref (ad t)), (2, ii_v 0)]) C dX3_ridesLong_1 (by decide) rfl ?_
  have loop2 : ∀ (NN2 : Nat) (k : Nat), S.length - k < NN2 → (k ≤ S.length) → (pl_long v S T (S.drop k) (T.drop k) = pl_long v S T S T) → ab_W p l e (ab_rm 6 0 0) s m args below meth c E base 7 (ab_Q below E base Post args s 0 0) ab_x4 ad (f, w) 0 0 2 [(0, .ref (ad 9)), (1, .ref (ad t)), (2, ii_v ((k : Nat) : Int))] [] := by
    intro NN2
    induction NN2 with
    | zero => intro k hNN; exact absurd hNN (Nat.not_lt_zero _)
    | succ NN2 ih2 =>
      intro k hNN hk hE
      refine a_iload_n C dX3_ridesLong_2 rfl ?_
      refine a_aload_n C dX3_ridesLong_3 rfl ?_
      refine a_getN (ci := 8) (i := 1) (v := ii_v (f t 1)) C iw_X7 rfl (by decide) rfl fn_X3_28 ht rfl dX3_ridesLong_4 ?_
      refine a_icmp_ge (tgt := 94) C dX3_ridesLong_7 rfl (by unfold ii_B; omega) (by unfold ii_B; omega) (fun h7 => ?_) (fun h7 => ?_)
      · skip
        refine a_iconst C dX3_ridesLong_94 ?_
        refine a_zret C (by decide) ?_ (by decide) (by decide) dX3_ridesLong_95
        rw [hPost]
        exact ⟨rt_0 (by rw [← hE, List.drop_eq_nil_of_le (by omega)]; simp [pl_long]), rfl, rfl, rfl⟩
      · skip
        refine a_aload_n C dX3_ridesLong_10 rfl ?_
        refine a_iload_n C dX3_ridesLong_11 rfl ?_
        refine a_callVN (o := t) (As := [ii_v ((k : Nat) : Int)]) C (c_stopAtS hl f w ht hta hS ((k : Nat) : Int) k (by omega) (by omega)) co_X7_stopAt in_X7 mn_X3_33 im_X7_stopAt se_X7_stopAt rfl ht ar_X7_stopAt ⟨by decide, by decide, by decide, by decide⟩ rfl (Nat.le_of_ble_eq_true rfl) dX3_ridesLong_12 (a_dR ?_) a_nR
        have q1 := hq k (by omega)
        have qv := hv.1 _ q1
        have qr := hv.2 _ q1
        have q64 := hb k (by omega)
        have qt := hTb k (by omega)
        refine a_istore_n (L' := [(0, .ref (ad 9)), (1, .ref (ad t)), (2, ii_v ((k : Nat) : Int)), (3, ii_v (((S.getD k 0) : Nat) : Int))]) C dX3_ridesLong_15 (by decide) rfl ?_
        refine a_iload_n C dX3_ridesLong_16 rfl ?_
        refine a_callSN (As := [ii_v (((S.getD k 0) : Nat) : Int)]) C (c_picksUp hl f w (S.getD k 0) (by omega)) co_X9_picksUp in_X9 mn_X3_96 sc_X9_picksUp ar_X9_picksUp ⟨by decide, by decide, by decide, by decide⟩ rfl (Nat.le_of_ble_eq_true rfl) dX3_ridesLong_17 (a_dR ?_) a_nR
        refine a_bif_ne (tgt := 88) C dX3_ridesLong_20 rfl (fun h20 => ?_) (fun h20 => ?_)
        · skip
          refine a_iinc (L' := [(0, .ref (ad 9)), (1, .ref (ad t)), (2, ii_v (((k : Nat) : Int) + 1)), (3, ii_v (((S.getD k 0) : Nat) : Int))]) C dX3_ridesLong_88 rfl (by decide) rfl ?_
          refine a_goto (tgt := 2) C dX3_ridesLong_91 rfl ?_
          refine a_pick [0, 1, 2] (L2 := [(0, .ref (ad 9)), (1, .ref (ad t)), (2, ii_v (((k : Nat) : Int) + 1))]) rfl ?_
          exact ih2 (k + 1) (by omega) (by omega) (by rw [ls_drop (k := k) (by omega), lt_drop (k := k) (by omega)] at hE; simp only [pl_long] at hE; first | (rw [decide_eq_true (p := (S.getD k 0) % 2 = 0) (by assumption), Bool.not_true, Bool.false_and, Bool.false_or] at hE; exact hE) | (rw [decide_eq_false (p := v 4 (S.getD k 0 / 2) < T.getD k 0 - pl_since v S T (S.getD k 0)) (by omega), Bool.and_false, Bool.false_or] at hE; exact hE))
        · skip
          refine a_aload_n C dX3_ridesLong_23 rfl ?_
          refine a_get (ci := 4) (i := 0) (v := .ref (ad 2)) C iw_X3 rfl (by decide) rfl fl_X3_15 rfl rfl dX3_ridesLong_24 ?_
          refine a_iload_n C dX3_ridesLong_27 rfl ?_
          refine a_callSN (As := [ii_v (((S.getD k 0) : Nat) : Int)]) C (c_requestOf hl f w (S.getD k 0) (by omega)) co_X9_requestOf in_X9 mn_X3_84 sc_X9_requestOf ar_X9_requestOf ⟨by decide, by decide, by decide, by decide⟩ rfl (Nat.le_of_ble_eq_true rfl) dX3_ridesLong_28 (a_dR ?_) a_nR
          refine a_callVN (o := 2) (As := [ii_v ((((S.getD k 0) / 2) : Nat) : Int)]) C (c_requestAt hl f w hr ((((S.getD k 0) / 2) : Nat) : Int) ((S.getD k 0) / 2) (by omega) (by omega)) co_X0_requestAt in_X0 mn_X3_87 im_X0_requestAt se_X0_requestAt rfl rfl ar_X0_requestAt ⟨by decide, by decide, by decide, by decide⟩ rfl (Nat.le_of_ble_eq_true rfl) dX3_ridesLong_31 (a_dR ?_) a_nR
          refine a_astore (L' := [(0, .ref (ad 9)), (1, .ref (ad t)), (2, ii_v ((k : Nat) : Int)), (3, ii_v (((S.getD k 0) : Nat) : Int)), (4, .ref (ad (300 + ((S.getD k 0) / 2))))]) C dX3_ridesLong_34 (by decide) rfl ?_
          refine a_aload_n C dX3_ridesLong_36 rfl ?_
          refine a_iload_n C dX3_ridesLong_37 rfl ?_
          refine a_callSN (As := [ii_v (((S.getD k 0) : Nat) : Int)]) C (c_requestOf hl f w (S.getD k 0) (by omega)) co_X9_requestOf in_X9 mn_X3_84 sc_X9_requestOf ar_X9_requestOf ⟨by decide, by decide, by decide, by decide⟩ rfl (Nat.le_of_ble_eq_true rfl) dX3_ridesLong_38 (a_dR ?_) a_nR
          refine a_callSN (As := [ii_v ((((S.getD k 0) / 2) : Nat) : Int)]) C (c_pickupOf hl f w ((S.getD k 0) / 2)) co_X9_pickupOf in_X9 mn_X3_109 sc_X9_pickupOf ar_X9_pickupOf ⟨by decide, by decide, by decide, by decide⟩ rfl (Nat.le_of_ble_eq_true rfl) dX3_ridesLong_41 (a_dR ?_) a_nR
          refine a_callVN (o := t) (As := [ii_v (((2 * ((S.getD k 0) / 2)) : Nat) : Int)]) C (c_indexOf hl f w ht hta hS (2 * (S.getD k 0 / 2)) (by omega)) co_X7_indexOf in_X7 mn_X3_112 im_X7_indexOf se_X7_indexOf rfl ht ar_X7_indexOf ⟨by decide, by decide, by decide, by decide⟩ rfl (Nat.le_of_ble_eq_true rfl) dX3_ridesLong_44 (a_dR ?_) a_nR
          refine a_istore (L' := [(0, .ref (ad 9)), (1, .ref (ad t)), (2, ii_v ((k : Nat) : Int)), (3, ii_v (((S.getD k 0) : Nat) : Int)), (4, .ref (ad (300 + ((S.getD k 0) / 2)))), (5, ii_v (if (2 * (S.getD k 0 / 2)) ∈ S then (S.idxOf (2 * (S.getD k 0 / 2)) : Int) else -1))]) C dX3_ridesLong_47 (by decide) rfl ?_
          have hil : S.idxOf (2 * (S.getD k 0 / 2)) ≤ S.length := List.idxOf_le_length
          refine a_iload C dX3_ridesLong_49 rfl ?_
          refine a_if_lt (tgt := 63) C dX3_ridesLong_51 rfl (by unfold ii_B; split <;> omega) (fun h51 => ?_) (fun h51 => ?_)
          · skip
            have hm : (2 * (S.getD k 0 / 2)) ∉ S := fun q => by rw [if_pos q] at h51; omega
            refine a_aload C dX3_ridesLong_63 rfl ?_
            refine a_getN (ci := 7) (i := 11) (v := ii_v (f (300 + ((S.getD k 0) / 2)) 11)) C iw_X6 rfl (by decide) rfl fn_X3_115 (ob_req (by omega)) rfl dX3_ridesLong_65 ?_
            refine a_top (w := ii_v (v 5 ((S.getD k 0) / 2))) (congrArg (fun q => ii_v q) (hv.2 ((S.getD k 0) / 2) (by omega)).2.2.2.1) ?_
            refine a_top (w := ii_v (pl_since v S T (S.getD k 0))) (by unfold pl_since; first | rw [if_pos (by assumption)] | rw [if_neg (by assumption)]) ?_
            have hsb : 0 ≤ pl_since v S T (S.getD k 0) ∧ pl_since v S T (S.getD k 0) ≤ 200000 := ls_since hTb (by omega)
            refine a_istore (L' := [(0, .ref (ad 9)), (1, .ref (ad t)), (2, ii_v ((k : Nat) : Int)), (3, ii_v (((S.getD k 0) : Nat) : Int)), (4, .ref (ad (300 + ((S.getD k 0) / 2)))), (5, ii_v (if (2 * (S.getD k 0 / 2)) ∈ S then (S.idxOf (2 * (S.getD k 0 / 2)) : Int) else -1)), (6, ii_v (pl_since v S T (S.getD k 0)))]) C dX3_ridesLong_68 (by decide) rfl ?_
            refine a_aload_n C dX3_ridesLong_70 rfl ?_
            refine a_iload_n C dX3_ridesLong_71 rfl ?_
            refine a_callV (o := 9) (As := [ii_v ((k : Nat) : Int)]) C (c_timeAt hl f w ((k : Nat) : Int) k (by omega) (by omega) (T.getD k 0) (hT k (by omega))) co_X3_timeAt in_X3 ml_X3_103 im_X3_timeAt se_X3_timeAt rfl rfl ar_X3_timeAt ⟨by decide, by decide, by decide, by decide⟩ rfl (Nat.le_of_ble_eq_true rfl) dX3_ridesLong_72 (a_dR ?_) a_nR
            refine a_iload C dX3_ridesLong_75 rfl ?_
            refine a_isub C dX3_ridesLong_77 ?_
            refine a_aload C dX3_ridesLong_78 rfl ?_
            refine a_getN (ci := 7) (i := 7) (v := ii_v (f (300 + ((S.getD k 0) / 2)) 7)) C iw_X6 rfl (by decide) rfl fn_X3_118 (ob_req (by omega)) rfl dX3_ridesLong_80 ?_
            refine a_top (w := ii_v (v 4 ((S.getD k 0) / 2))) (congrArg (fun q => ii_v q) (hv.2 ((S.getD k 0) / 2) (by omega)).2.2.1) ?_
            refine a_icmp_le (tgt := 88) C dX3_ridesLong_83 rfl (by unfold ii_B; omega) (by unfold ii_B; omega) (fun h83 => ?_) (fun h83 => ?_)
            · skip
              refine a_iinc (L' := [(0, .ref (ad 9)), (1, .ref (ad t)), (2, ii_v (((k : Nat) : Int) + 1)), (3, ii_v (((S.getD k 0) : Nat) : Int)), (4, .ref (ad (300 + ((S.getD k 0) / 2)))), (5, ii_v (if (2 * (S.getD k 0 / 2)) ∈ S then (S.idxOf (2 * (S.getD k 0 / 2)) : Int) else -1)), (6, ii_v (pl_since v S T (S.getD k 0)))]) C dX3_ridesLong_88 rfl (by decide) rfl ?_
              refine a_goto (tgt := 2) C dX3_ridesLong_91 rfl ?_
              refine a_pick [0, 1, 2] (L2 := [(0, .ref (ad 9)), (1, .ref (ad t)), (2, ii_v (((k : Nat) : Int) + 1))]) rfl ?_
              exact ih2 (k + 1) (by omega) (by omega) (by rw [ls_drop (k := k) (by omega), lt_drop (k := k) (by omega)] at hE; simp only [pl_long] at hE; first | (rw [decide_eq_true (p := (S.getD k 0) % 2 = 0) (by assumption), Bool.not_true, Bool.false_and, Bool.false_or] at hE; exact hE) | (rw [decide_eq_false (p := v 4 (S.getD k 0 / 2) < T.getD k 0 - pl_since v S T (S.getD k 0)) (by omega), Bool.and_false, Bool.false_or] at hE; exact hE))
            · skip
              refine a_iconst C dX3_ridesLong_86 ?_
              refine a_zret C (by decide) ?_ (by decide) (by decide) dX3_ridesLong_87
              rw [hPost]
              exact ⟨rt_1 (by rw [← hE, ls_drop (by omega), lt_drop (by omega)]; simp only [pl_long]; rw [decide_eq_false (p := (S.getD k 0) % 2 = 0) (by assumption), decide_eq_true (p := v 4 (S.getD k 0 / 2) < T.getD k 0 - pl_since v S T (S.getD k 0)) (by omega), Bool.not_false, Bool.true_and, Bool.true_or]), rfl, rfl, rfl⟩
          · skip
            have hm : (2 * (S.getD k 0 / 2)) ∈ S := Classical.byContradiction fun q => by rw [if_neg q] at h51; omega
            rw [if_pos hm]
            have hi1 := (gd_idx (d := 0) hm).1
            refine a_aload_n C dX3_ridesLong_54 rfl ?_
            refine a_iload C dX3_ridesLong_55 rfl ?_
            refine a_callV (o := 9) (As := [ii_v (((S.idxOf (2 * (S.getD k 0 / 2))) : Nat) : Int)]) C (c_timeAt hl f w (((S.idxOf (2 * (S.getD k 0 / 2))) : Nat) : Int) (S.idxOf (2 * (S.getD k 0 / 2))) (by omega) (by omega) (T.getD (S.idxOf (2 * (S.getD k 0 / 2))) 0) (hT (S.idxOf (2 * (S.getD k 0 / 2))) (by omega))) co_X3_timeAt in_X3 ml_X3_103 im_X3_timeAt se_X3_timeAt rfl rfl ar_X3_timeAt ⟨by decide, by decide, by decide, by decide⟩ rfl (Nat.le_of_ble_eq_true rfl) dX3_ridesLong_57 (a_dR ?_) a_nR
            refine a_goto (tgt := 68) C dX3_ridesLong_60 rfl ?_
            refine a_top (w := ii_v (pl_since v S T (S.getD k 0))) (by unfold pl_since; first | rw [if_pos (by assumption)] | rw [if_neg (by assumption)]) ?_
            have hsb : 0 ≤ pl_since v S T (S.getD k 0) ∧ pl_since v S T (S.getD k 0) ≤ 200000 := ls_since hTb (by omega)
            refine a_istore (L' := [(0, .ref (ad 9)), (1, .ref (ad t)), (2, ii_v ((k : Nat) : Int)), (3, ii_v (((S.getD k 0) : Nat) : Int)), (4, .ref (ad (300 + ((S.getD k 0) / 2)))), (5, ii_v (((S.idxOf (2 * (S.getD k 0 / 2))) : Nat) : Int)), (6, ii_v (pl_since v S T (S.getD k 0)))]) C dX3_ridesLong_68 (by decide) rfl ?_
            refine a_aload_n C dX3_ridesLong_70 rfl ?_
            refine a_iload_n C dX3_ridesLong_71 rfl ?_
            refine a_callV (o := 9) (As := [ii_v ((k : Nat) : Int)]) C (c_timeAt hl f w ((k : Nat) : Int) k (by omega) (by omega) (T.getD k 0) (hT k (by omega))) co_X3_timeAt in_X3 ml_X3_103 im_X3_timeAt se_X3_timeAt rfl rfl ar_X3_timeAt ⟨by decide, by decide, by decide, by decide⟩ rfl (Nat.le_of_ble_eq_true rfl) dX3_ridesLong_72 (a_dR ?_) a_nR
            refine a_iload C dX3_ridesLong_75 rfl ?_
            refine a_isub C dX3_ridesLong_77 ?_
            refine a_aload C dX3_ridesLong_78 rfl ?_
            refine a_getN (ci := 7) (i := 7) (v := ii_v (f (300 + ((S.getD k 0) / 2)) 7)) C iw_X6 rfl (by decide) rfl fn_X3_118 (ob_req (by omega)) rfl dX3_ridesLong_80 ?_
            refine a_top (w := ii_v (v 4 ((S.getD k 0) / 2))) (congrArg (fun q => ii_v q) (hv.2 ((S.getD k 0) / 2) (by omega)).2.2.1) ?_
            refine a_icmp_le (tgt := 88) C dX3_ridesLong_83 rfl (by unfold ii_B; omega) (by unfold ii_B; omega) (fun h83 => ?_) (fun h83 => ?_)
            · skip
              refine a_iinc (L' := [(0, .ref (ad 9)), (1, .ref (ad t)), (2, ii_v (((k : Nat) : Int) + 1)), (3, ii_v (((S.getD k 0) : Nat) : Int)), (4, .ref (ad (300 + ((S.getD k 0) / 2)))), (5, ii_v (((S.idxOf (2 * (S.getD k 0 / 2))) : Nat) : Int)), (6, ii_v (pl_since v S T (S.getD k 0)))]) C dX3_ridesLong_88 rfl (by decide) rfl ?_
              refine a_goto (tgt := 2) C dX3_ridesLong_91 rfl ?_
              refine a_pick [0, 1, 2] (L2 := [(0, .ref (ad 9)), (1, .ref (ad t)), (2, ii_v (((k : Nat) : Int) + 1))]) rfl ?_
              exact ih2 (k + 1) (by omega) (by omega) (by rw [ls_drop (k := k) (by omega), lt_drop (k := k) (by omega)] at hE; simp only [pl_long] at hE; first | (rw [decide_eq_true (p := (S.getD k 0) % 2 = 0) (by assumption), Bool.not_true, Bool.false_and, Bool.false_or] at hE; exact hE) | (rw [decide_eq_false (p := v 4 (S.getD k 0 / 2) < T.getD k 0 - pl_since v S T (S.getD k 0)) (by omega), Bool.and_false, Bool.false_or] at hE; exact hE))
            · skip
              refine a_iconst C dX3_ridesLong_86 ?_
              refine a_zret C (by decide) ?_ (by decide) (by decide) dX3_ridesLong_87
              rw [hPost]
              exact ⟨rt_1 (by rw [← hE, ls_drop (by omega), lt_drop (by omega)]; simp only [pl_long]; rw [decide_eq_false (p := (S.getD k 0) % 2 = 0) (by assumption), decide_eq_true (p := v 4 (S.getD k 0 / 2) < T.getD k 0 - pl_since v S T (S.getD k 0)) (by omega), Bool.not_false, Bool.true_and, Bool.true_or]), rfl, rfl, rfl⟩
  exact loop2 (_ + 1) 0 (Nat.lt_succ_self _) (Nat.zero_le _) rfl
set_option maxRecDepth 20000 in
set_option maxHeartbeats 2000000 in
theorem c_dropsAhead {l : Launch} {E : ab_E} {base : Nat} (hl : l.stackTraces = false) {ad : Nat → Nat} (f : Nat → Nat → Int) (w : Nat × Nat × Int64 × UInt64) (hr : w.2.1 ≤ 30) {v : Nat → Nat → Int} (hv : pe_C f v w.2.1) {t : Nat} (ht : ab_ob 4 w.1 w.2.1 t = some (8, [some (t + 10), none])) (hta : ab_ar 4 w.1 (t + 10) = some (0, 8)) {S : List Nat} (hS : ts_I f t S) (hq : ∀ j, j < S.length → S.getD j 0 / 2 ≤ w.2.1)  : ab_M l E base yX3_dropsAheadOfPickup cX3_dropsAheadOfPickup 4 (some .boolean) 6 0 0 [.ref (ad 9), .ref (ad t)] ab_x4 ad (f, w) (ab_R (ii_v (if pl_ah S S 0 = true then 1 else 0)) ab_x4 ad (f, w)) := by
  obtain ⟨Post, hPost⟩ : ∃ P : ab_P, P = (ab_R (ii_v (if pl_ah S S 0 = true then 1 else 0)) ab_x4 ad (f, w)) := ⟨_, rfl⟩
  rw [← hPost]
  refine ab_of RX3 [(0, .ref (ad 9)), (1, .ref (ad t))] hl (by decide) rfl (Nat.le_of_ble_eq_true rfl) rfl ?_
  intro p e s m args below meth c C T0 hnm
  obtain ⟨hc, h8, hj, hb⟩ := id hS
  refine a_iconst C dX3_dropsAheadOfPickup_0 ?_
  refine a_istore_n (L' := [(0, .ref (ad 9)), (1, .ref (ad t)), (2, ii_v 0)]) C dX3_dropsAheadOfPickup_1 (by decide) rfl ?_
  have loop2 : ∀ (NN2 : Nat) (k : Nat), S.length - k < NN2 → (k ≤ S.length) → (pl_ah S (S.drop k) k = pl_ah S S 0) → ab_W p l e (ab_rm 6 0 0) s m args below meth c E base 4 (ab_Q below E base Post args s 0 0) ab_x4 ad (f, w) 0 0 2 [(0, .ref (ad 9)), (1, .ref (ad t)), (2, ii_v ((k : Nat) : Int))] [] := by
    intro NN2
    induction NN2 with
    | zero => intro k hNN; exact absurd hNN (Nat.not_lt_zero _)
    | succ NN2 ih2 =>
      intro k hNN hk hE
      refine a_iload_n C dX3_dropsAheadOfPickup_2 rfl ?_
      refine a_aload_n C dX3_dropsAheadOfPickup_3 rfl ?_
      refine a_getN (ci := 8) (i := 1) (v := ii_v (f t 1)) C iw_X7 rfl (by decide) rfl fn_X3_28 ht rfl dX3_dropsAheadOfPickup_4 ?_
      refine a_icmp_ge (tgt := 46) C dX3_dropsAheadOfPickup_7 rfl (by unfold ii_B; omega) (by unfold ii_B; omega) (fun h7 => ?_) (fun h7 => ?_)
      · skip
        refine a_iconst C dX3_dropsAheadOfPickup_46 ?_
        refine a_zret C (by decide) ?_ (by decide) (by decide) dX3_dropsAheadOfPickup_47
        rw [hPost]
        exact ⟨rt_0 (by rw [← hE, List.drop_eq_nil_of_le (by omega)]; simp [pl_ah]), rfl, rfl, rfl⟩
      · skip
        refine a_aload_n C dX3_dropsAheadOfPickup_10 rfl ?_
        refine a_iload_n C dX3_dropsAheadOfPickup_11 rfl ?_
        refine a_callVN (o := t) (As := [ii_v ((k : Nat) : Int)]) C (c_stopAtS hl f w ht hta hS ((k : Nat) : Int) k (by omega) (by omega)) co_X7_stopAt in_X7 mn_X3_33 im_X7_stopAt se_X7_stopAt rfl ht ar_X7_stopAt ⟨by decide, by decide, by decide, by decide⟩ rfl (Nat.le_of_ble_eq_true rfl) dX3_dropsAheadOfPickup_12 (a_dR ?_) a_nR
        have q1 := hq k (by omega)
        have qv := hv.1 _ q1
        have qr := hv.2 _ q1
        have q64 := hb k (by omega)
        refine a_istore_n (L' := [(0, .ref (ad 9)), (1, .ref (ad t)), (2, ii_v ((k : Nat) : Int)), (3, ii_v (((S.getD k 0) : Nat) : Int))]) C dX3_dropsAheadOfPickup_15 (by decide) rfl ?_
        refine a_iload_n C dX3_dropsAheadOfPickup_16 rfl ?_
        refine a_callSN (As := [ii_v (((S.getD k 0) : Nat) : Int)]) C (c_picksUp hl f w (S.getD k 0) (by omega)) co_X9_picksUp in_X9 mn_X3_96 sc_X9_picksUp ar_X9_picksUp ⟨by decide, by decide, by decide, by decide⟩ rfl (Nat.le_of_ble_eq_true rfl) dX3_dropsAheadOfPickup_17 (a_dR ?_) a_nR
        refine a_bif_ne (tgt := 40) C dX3_dropsAheadOfPickup_20 rfl (fun h20 => ?_) (fun h20 => ?_)
        · skip
          refine a_iinc (L' := [(0, .ref (ad 9)), (1, .ref (ad t)), (2, ii_v (((k : Nat) : Int) + 1)), (3, ii_v (((S.getD k 0) : Nat) : Int))]) C dX3_dropsAheadOfPickup_40 rfl (by decide) rfl ?_
          refine a_goto (tgt := 2) C dX3_dropsAheadOfPickup_43 rfl ?_
          refine a_pick [0, 1, 2] (L2 := [(0, .ref (ad 9)), (1, .ref (ad t)), (2, ii_v (((k : Nat) : Int) + 1))]) rfl ?_
          exact ih2 (k + 1) (by omega) (by omega) (by rw [ls_drop (k := k) (by omega)] at hE; simp only [pl_ah] at hE; first | (rw [decide_eq_true (p := (S.getD k 0) % 2 = 0) (by assumption), Bool.not_true, Bool.false_and, Bool.false_or] at hE; exact hE) | (rw [ah_no h35, Bool.and_false, Bool.false_or] at hE; exact hE))
        · skip
          refine a_aload_n C dX3_dropsAheadOfPickup_23 rfl ?_
          refine a_iload_n C dX3_dropsAheadOfPickup_24 rfl ?_
          refine a_callSN (As := [ii_v (((S.getD k 0) : Nat) : Int)]) C (c_requestOf hl f w (S.getD k 0) (by omega)) co_X9_requestOf in_X9 mn_X3_84 sc_X9_requestOf ar_X9_requestOf ⟨by decide, by decide, by decide, by decide⟩ rfl (Nat.le_of_ble_eq_true rfl) dX3_dropsAheadOfPickup_25 (a_dR ?_) a_nR
          refine a_callSN (As := [ii_v ((((S.getD k 0) / 2) : Nat) : Int)]) C (c_pickupOf hl f w ((S.getD k 0) / 2)) co_X9_pickupOf in_X9 mn_X3_109 sc_X9_pickupOf ar_X9_pickupOf ⟨by decide, by decide, by decide, by decide⟩ rfl (Nat.le_of_ble_eq_true rfl) dX3_dropsAheadOfPickup_28 (a_dR ?_) a_nR
          refine a_callVN (o := t) (As := [ii_v (((2 * ((S.getD k 0) / 2)) : Nat) : Int)]) C (c_indexOf hl f w ht hta hS (2 * (S.getD k 0 / 2)) (by omega)) co_X7_indexOf in_X7 mn_X3_112 im_X7_indexOf se_X7_indexOf rfl ht ar_X7_indexOf ⟨by decide, by decide, by decide, by decide⟩ rfl (Nat.le_of_ble_eq_true rfl) dX3_dropsAheadOfPickup_31 (a_dR ?_) a_nR
          have hil : S.idxOf (2 * (S.getD k 0 / 2)) ≤ S.length := List.idxOf_le_length
          refine a_iload_n C dX3_dropsAheadOfPickup_34 rfl ?_
          refine a_icmp_le (tgt := 40) C dX3_dropsAheadOfPickup_35 rfl (by unfold ii_B; split <;> omega) (by unfold ii_B; omega) (fun h35 => ?_) (fun h35 => ?_)
          · skip
            refine a_iinc (L' := [(0, .ref (ad 9)), (1, .ref (ad t)), (2, ii_v (((k : Nat) : Int) + 1)), (3, ii_v (((S.getD k 0) : Nat) : Int))]) C dX3_dropsAheadOfPickup_40 rfl (by decide) rfl ?_
            refine a_goto (tgt := 2) C dX3_dropsAheadOfPickup_43 rfl ?_
            refine a_pick [0, 1, 2] (L2 := [(0, .ref (ad 9)), (1, .ref (ad t)), (2, ii_v (((k : Nat) : Int) + 1))]) rfl ?_
            exact ih2 (k + 1) (by omega) (by omega) (by rw [ls_drop (k := k) (by omega)] at hE; simp only [pl_ah] at hE; first | (rw [decide_eq_true (p := (S.getD k 0) % 2 = 0) (by assumption), Bool.not_true, Bool.false_and, Bool.false_or] at hE; exact hE) | (rw [ah_no h35, Bool.and_false, Bool.false_or] at hE; exact hE))
          · skip
            refine a_iconst C dX3_dropsAheadOfPickup_38 ?_
            refine a_zret C (by decide) ?_ (by decide) (by decide) dX3_dropsAheadOfPickup_39
            rw [hPost]
            exact ⟨rt_1 (by rw [← hE, ls_drop (by omega)]; simp only [pl_ah]; rw [decide_eq_false (p := (S.getD k 0) % 2 = 0) (by assumption), ah_yes h35, Bool.not_false, Bool.true_and, Bool.true_or]), rfl, rfl, rfl⟩
  exact loop2 (_ + 1) 0 (Nat.lt_succ_self _) (Nat.zero_le _) rfl
set_option maxRecDepth 20000 in
set_option maxHeartbeats 2000000 in
theorem c_faultOf {l : Launch} {E : ab_E} {base : Nat} (hl : l.stackTraces = false) {ad : Nat → Nat} (f : Nat → Nat → Int) (w : Nat × Nat × Int64 × UInt64) (hr : w.2.1 ≤ 30) {v : Nat → Nat → Int} (hv : pe_C f v w.2.1) {o : Nat} (ho : ab_ob 4 w.1 w.2.1 o = some (2, [none, none, none, none, none, some (o + 10), none, none, none, none, none, none, none])) (hB : pb_B f o) {t : Nat} (ht : ab_ob 4 w.1 w.2.1 t = some (8, [some (t + 10), none])) (hta : ab_ar 4 w.1 (t + 10) = some (0, 8)) {S : List Nat} (hS : ts_I f t S) (hq : ∀ j, j < S.length → S.getD j 0 / 2 ≤ w.2.1) (now : Int) (hnow : 0 ≤ now ∧ now ≤ 100000)  : ab_M l E base yX3_faultOf cX3_faultOf 4 (some .int) 8 0 0 [.ref (ad 9), .ref (ad o), .ref (ad t), ii_v now] ab_x4 ad (f, w) (ab_F ad w (fun r g => r = some (ii_v (pl_fault v S (f o 6) (f o 7) now (f o 9) (f o 1) (f o 3) (f o 4) (f o 8))) ∧ (∀ j, j < S.length → g 10 j = (pl_tm v S (f o 6) (f o 7) now).getD j 0) ∧ ∀ o2, o2 ≠ 10 → g o2 = f o2)) := by
  obtain ⟨Post, hPost⟩ : ∃ P : ab_P, P = (ab_F ad w (fun r g => r = some (ii_v (pl_fault v S (f o 6) (f o 7) now (f o 9) (f o 1) (f o 3) (f o 4) (f o 8))) ∧ (∀ j, j < S.length → g 10 j = (pl_tm v S (f o 6) (f o 7) now).getD j 0) ∧ ∀ o2, o2 ≠ 10 → g o2 = f o2)) := ⟨_, rfl⟩
  rw [← hPost]
  refine ab_of RX3 [(0, .ref (ad 9)), (1, .ref (ad o)), (2, .ref (ad t)), (3, ii_v now)] hl (by decide) rfl (Nat.le_of_ble_eq_true rfl) rfl ?_
  intro p e s m args below meth c C T0 hnm
  obtain ⟨hc, h8, hj, hb⟩ := id hS
  obtain ⟨hB1, hB3, hB4, hB6, hB7, hB8, hB9⟩ := id hB
  have htc := ob_tour_c ht
  have hoc := ob_bus_c ho
  have hTl := pl_tm_len v S (f o 6) (f o 7) now
  have hTb := tm_b (fun q h => (hv.1 q h).2.2) S (f o 6) (f o 7) now hq hB6 hB7
  have hLb := len_b hB3 hB4 (fun q h => (hv.1 q h).2.2) S (f o 6) (f o 7) hq hB6 hB7
  refine a_aload_n C dX3_faultOf_0 rfl ?_
  refine a_aload_n C dX3_faultOf_1 rfl ?_
  refine a_aload_n C dX3_faultOf_2 rfl ?_
  refine a_iload_n C dX3_faultOf_3 rfl ?_
  refine a_callV (o := 9) (As := [.ref (ad o), .ref (ad t), ii_v now]) C (c_clock hl f w hr hv ho hB ht hta hS hq now hnow) co_X3_clock in_X3 ml_X3_59 im_X3_clock se_X3_clock rfl rfl ar_X3_clock ⟨by decide, by decide, by decide, by decide⟩ rfl (Nat.le_of_ble_eq_true rfl) dX3_faultOf_4 (a_dF ?_) a_nF
  intro vg1 g1 hvg1
  obtain ⟨rfl, hTg1, hfg1⟩ := hvg1
  have hv9 : pe_C g1 v w.2.1 := pe_same hv (fun o2 h => hfg1 o2 (by omega))
  have hS9 : ts_I g1 t S := ts_same hS (hfg1 _ (by omega)) (hfg1 _ (by omega))
  have hB9x : pb_B g1 o := by unfold pb_B; rw [hfg1 o (by omega)]; exact hB
  have ho9 : g1 o = f o := hfg1 o (by omega)
  refine a_aload_n C dX3_faultOf_7 rfl ?_
  refine a_getN (ci := 8) (i := 1) (v := ii_v (g1 t 1)) C iw_X7 rfl (by decide) rfl fn_X3_28 ht rfl dX3_faultOf_8 ?_
  rw [hS9.1]
  refine a_bipush C dX3_faultOf_11 (by decide) ?_
  refine a_icmp_gt (tgt := 25) C dX3_faultOf_13 rfl (by unfold ii_B; omega) (by unfold ii_B; omega) (fun h13 => ?_) (fun h13 => ?_)
  · skip
    refine a_iconst C dX3_faultOf_25 ?_
    refine a_iret C ?_ (by decide) (by decide) dX3_faultOf_26
    rw [hPost]
    refine ab_F_of ⟨?_, hTg1, hfg1⟩
    unfold pl_fault
    first | rw [if_pos (Or.inl (by omega))] | rw [if_pos (Or.inr (by assumption))]
  · skip
    refine a_aload_n C dX3_faultOf_16 rfl ?_
    refine a_aload_n C dX3_faultOf_17 rfl ?_
    refine a_aload_n C dX3_faultOf_18 rfl ?_
    refine a_callV (o := 9) (As := [.ref (ad o), .ref (ad t)]) C (c_lacksSeats hl g1 w hr hv9 ho hB9x ht hta hS9 hq) co_X3_lacksSeats in_X3 ml_X3_63 im_X3_lacksSeats se_X3_lacksSeats rfl rfl ar_X3_lacksSeats ⟨by decide, by decide, by decide, by decide⟩ rfl (Nat.le_of_ble_eq_true rfl) dX3_faultOf_19 (a_dR ?_) a_nR
    rw [ho9]
    refine a_bif_eq (tgt := 27) C dX3_faultOf_22 rfl (fun h22 => ?_) (fun h22 => ?_)
    · skip
      refine a_aload_n C dX3_faultOf_27 rfl ?_
      refine a_aload_n C dX3_faultOf_28 rfl ?_
      refine a_callV (o := 9) (As := [.ref (ad t)]) C (c_comesLate hl g1 w hr hv9 ht hta hS9 hq (pl_tm v S (f o 6) (f o 7) now) hTl hTg1 (fun j h => by have := hTb j h; omega)) co_X3_comesLate in_X3 ml_X3_67 im_X3_comesLate se_X3_comesLate rfl rfl ar_X3_comesLate ⟨by decide, by decide, by decide, by decide⟩ rfl (Nat.le_of_ble_eq_true rfl) dX3_faultOf_29 (a_dR ?_) a_nR
      refine a_bif_eq (tgt := 37) C dX3_faultOf_32 rfl (fun h32 => ?_) (fun h32 => ?_)
      · skip
        refine a_aload_n C dX3_faultOf_37 rfl ?_
        refine a_aload_n C dX3_faultOf_38 rfl ?_
        refine a_callV (o := 9) (As := [.ref (ad t)]) C (c_ridesLong hl g1 w hr hv9 ht hta hS9 hq (pl_tm v S (f o 6) (f o 7) now) hTl hTg1 (fun j h => by have := hTb j h; omega)) co_X3_ridesLong in_X3 ml_X3_71 im_X3_ridesLong se_X3_ridesLong rfl rfl ar_X3_ridesLong ⟨by decide, by decide, by decide, by decide⟩ rfl (Nat.le_of_ble_eq_true rfl) dX3_faultOf_39 (a_dR ?_) a_nR
        refine a_bif_eq (tgt := 47) C dX3_faultOf_42 rfl (fun h42 => ?_) (fun h42 => ?_)
        · skip
          refine a_aload_n C dX3_faultOf_47 rfl ?_
          refine a_aload_n C dX3_faultOf_48 rfl ?_
          refine a_aload_n C dX3_faultOf_49 rfl ?_
          refine a_callV (o := 9) (As := [.ref (ad o), .ref (ad t)]) C (c_lengthOf hl g1 w hr hv9 ho hB9x ht hta hS9 hq) co_X3_lengthOf in_X3 ml_X3_74 im_X3_lengthOf se_X3_lengthOf rfl rfl ar_X3_lengthOf ⟨by decide, by decide, by decide, by decide⟩ rfl (Nat.le_of_ble_eq_true rfl) dX3_faultOf_50 (a_dR ?_) a_nR
          rw [ho9]
          refine a_aload_n C dX3_faultOf_53 rfl ?_
          refine a_getN (ci := 2) (i := 8) (v := ii_v (g1 o 8)) C iw_X1 rfl (by decide) rfl fn_X3_78 ho rfl dX3_faultOf_54 ?_
          rw [ho9]
          refine a_icmp_le (tgt := 64) C dX3_faultOf_57 rfl (by unfold ii_B; omega) (by unfold ii_B; omega) (fun h57 => ?_) (fun h57 => ?_)
          · skip
            refine a_iconst C dX3_faultOf_64 ?_
            refine a_iret C ?_ (by decide) (by decide) dX3_faultOf_65
            rw [hPost]
            refine ab_F_of ⟨?_, hTg1, hfg1⟩
            unfold pl_fault
            rw [if_neg (fun q => q.elim (fun q => by omega) (fun q => h22 q)), if_neg h32, if_neg h42]
            first | rw [if_pos (by omega)] | rw [if_neg (by omega)]
          · skip
            refine a_iconst C dX3_faultOf_60 ?_
            refine a_goto (tgt := 65) C dX3_faultOf_61 rfl ?_
            refine a_iret C ?_ (by decide) (by decide) dX3_faultOf_65
            rw [hPost]
            refine ab_F_of ⟨?_, hTg1, hfg1⟩
            unfold pl_fault
            rw [if_neg (fun q => q.elim (fun q => by omega) (fun q => h22 q)), if_neg h32, if_neg h42]
            first | rw [if_pos (by omega)] | rw [if_neg (by omega)]
        · skip
          refine a_iconst C dX3_faultOf_45 ?_
          refine a_iret C ?_ (by decide) (by decide) dX3_faultOf_46
          rw [hPost]
          refine ab_F_of ⟨?_, hTg1, hfg1⟩
          unfold pl_fault
          rw [if_neg (fun q => q.elim (fun q => by omega) (fun q => h22 q)), if_neg h32, if_pos h42]
      · skip
        refine a_iconst C dX3_faultOf_35 ?_
        refine a_iret C ?_ (by decide) (by decide) dX3_faultOf_36
        rw [hPost]
        refine ab_F_of ⟨?_, hTg1, hfg1⟩
        unfold pl_fault
        rw [if_neg (fun q => q.elim (fun q => by omega) (fun q => h22 q)), if_pos h32]
    · skip
      refine a_iconst C dX3_faultOf_25 ?_
      refine a_iret C ?_ (by decide) (by decide) dX3_faultOf_26
      rw [hPost]
      refine ab_F_of ⟨?_, hTg1, hfg1⟩
      unfold pl_fault
      first | rw [if_pos (Or.inl (by omega))] | rw [if_pos (Or.inr (by assumption))]
