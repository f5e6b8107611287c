/-! Inspection: what it finds of a tour. -/
/-- the length of a tour from x y over its stops to the depot -/
def pl_len (v : Nat → Nat → Int) (dx dy : Int) : List Nat → Int → Int → Int
  | [], x, y => pd_d x y dx dy
  | q :: S, x, y => pd_d x y (v 0 q) (v 1 q) + pl_len v dx dy S (v 0 q) (v 1 q)
/-- when its stops are made -/
def pl_tm (v : Nat → Nat → Int) : List Nat → Int → Int → Int → List Int
  | [], _, _, _ => []
  | q :: S, x, y, t => (t + pd_d x y (v 0 q) (v 1 q)) :: pl_tm v S (v 0 q) (v 1 q) (t + pd_d x y (v 0 q) (v 1 q))
/-- how the riders on board change at a stop -/
def pl_mv (v : Nat → Nat → Int) (q : Nat) : Int := if q % 2 = 0 then v 2 (q / 2) else -(v 2 (q / 2))
def pl_seat (v : Nat → Nat → Int) (cap : Int) : List Nat → Int → Bool
  | [], _ => false
  | q :: S, n => decide (cap < n + pl_mv v q) || pl_seat v cap S (n + pl_mv v q)
def pl_late (v : Nat → Nat → Int) : List Nat → List Int → Bool
  | q :: S, t :: T => (decide (q % 2 = 0) && decide (v 3 (q / 2) < t)) || pl_late v S T
  | _, _ => false
def pl_since (v : Nat → Nat → Int) (S : List Nat) (T : List Int) (q : Nat) : Int := if 2 * (q / 2) ∈ S then T.getD (S.idxOf (2 * (q / 2))) 0 else v 5 (q / 2)
def pl_long (v : Nat → Nat → Int) (S0 : List Nat) (T0 : List Int) : List Nat → List Int → Bool
  | q :: S, t :: T => (!decide (q % 2 = 0) && decide (v 4 (q / 2) < t - pl_since v S0 T0 q)) || pl_long v S0 T0 S T
  | _, _ => false
def pl_ah (S0 : List Nat) : List Nat → Nat → Bool
  | [], _ => false
  | q :: S, k => (!decide (q % 2 = 0) && (decide (2 * (q / 2) ∈ S0) && decide (k < S0.idxOf (2 * (q / 2))))) || pl_ah S0 S (k + 1)
/-- the first check that fails: 1 seats, 2 wait, 3 detour, 4 battery, 0 none -/
def pl_fault (v : Nat → Nat → Int) (S : List Nat) (x y now onb cap dx dy chg : Int) : Int :=
  if 6 < S.length ∨ pl_seat v cap S onb = true then 1 else if pl_late v S (pl_tm v S x y now) = true then 2 else if pl_long v S (pl_tm v S x y now) S (pl_tm v S x y now) = true then 3 else if chg < pl_len v dx dy S x y then 4 else 0
/-- a bus's numbers are in their ranges -/
def pb_B (f : Nat → Nat → Int) (o : Nat) : Prop := (0 ≤ f o 1 ∧ f o 1 ≤ 6) ∧ (0 ≤ f o 3 ∧ f o 3 ≤ 20) ∧ (0 ≤ f o 4 ∧ f o 4 ≤ 20) ∧ (0 ≤ f o 6 ∧ f o 6 ≤ 20) ∧ (0 ≤ f o 7 ∧ f o 7 ≤ 20) ∧ (-1000 ≤ f o 8 ∧ f o 8 ≤ 1000) ∧ (0 ≤ f o 9 ∧ f o 9 ≤ 1000)
theorem pd_b {x y u v : Int} (hx : 0 ≤ x ∧ x ≤ 20) (hy : 0 ≤ y ∧ y ≤ 20) (hu : 0 ≤ u ∧ u ≤ 20) (hv : 0 ≤ v ∧ v ≤ 20) : 0 ≤ pd_d x y u v ∧ pd_d x y u v ≤ 40 := by
  unfold pd_d
  omega
theorem pl_tm_len (v : Nat → Nat → Int) (S : List Nat) (x y t : Int) : (pl_tm v S x y t).length = S.length := by
  induction S generalizing x y t with
  | nil => rfl
  | cons q S ih => simp [pl_tm, ih]
theorem c_stopAtS {l : Launch} {E : ab_E} {base : Nat} (hl : l.stackTraces = false) {ad : Nat → Nat} (f : Nat → Nat → Int) (w : Nat × Nat × Int64 × UInt64) {t : Nat} (ht : ab_ob 4 w.1 w.2.1 t = some (8, [some (t + 10), none])) (hta : ab_ar 4 w.1 (t + 10) = some (0, 8)) {S : List Nat} (hS : ts_I f t S) (i : Int) (k : Nat) (hi : i = (k : Int)) (hk : k < S.length) : ab_M l E base yX7_stopAt cX7_stopAt 2 (some .int) 1 0 0 [.ref (ad t), ii_v i] ab_x4 ad (f, w) (ab_R (ii_v ((S.getD k 0 : Nat) : Int)) ab_x4 ad (f, w)) := by
  rw [← hS.2.2.1 k hk]
  exact c_stopAt hl f w ht hta S.length hS.1 hS.2.1 i k hi hk
set_option maxRecDepth 20000 in
set_option maxHeartbeats 2000000 in
theorem c_lengthOf {l : Launch} {E : ab_E} {base : Nat} (hl : l.stackTraces = false) {ad : Nat → Nat} (f : Nat → Nat → Int) (w : Nat × Nat × Int64 × UInt64) (hr : w.2.1 ≤ 30) {v : Nat → Nat → Int} (hv : pe_C f v w.2.1) {o : Nat} (ho : ab_ob 4 w.1 w.2.1 o = some (2, [none, none, none, none, none, some (o + 10), none, none, none, none, none, none, none])) (hB : pb_B f o) {t : Nat} (ht : ab_ob 4 w.1 w.2.1 t = some (8, [some (t + 10), none])) (hta : ab_ar 4 w.1 (t + 10) = some (0, 8)) {S : List Nat} (hS : ts_I f t S) (hq : ∀ j, j < S.length → S.getD j 0 / 2 ≤ w.2.1)  : ab_M l E base yX3_lengthOf cX3_lengthOf 8 (some .int) 7 0 0 [.ref (ad 9), .ref (ad o), .ref (ad t)] ab_x4 ad (f, w) (ab_R (ii_v (pl_len v (f o 3) (f o 4) S (f o 6) (f o 7))) ab_x4 ad (f, w)) := by
  obtain ⟨Post, hPost⟩ : ∃ P : ab_P, P = (ab_R (ii_v (pl_len v (f o 3) (f o 4) S (f o 6) (f o 7))) ab_x4 ad (f, w)) := ⟨_, rfl⟩
  rw [← hPost]
  refine ab_of RX3 [(0, .ref (ad 9)), (1, .ref (ad o)), (2, .ref (ad t))] hl (by decide) rfl (Nat.le_of_ble_eq_true rfl) rfl ?_
  intro p e s m args below meth c C T0 hnm
  obtain ⟨hc, h8, hj, hb⟩ := id hS
  obtain ⟨hB1, hB3, hB4, hB6, hB7, hB8, hB9⟩ := id hB
  refine a_aload_n C dX3_lengthOf_0 rfl ?_
  refine a_getN (ci := 2) (i := 6) (v := ii_v (f o 6)) C iw_X1 rfl (by decide) rfl fn_X3_19 ho rfl dX3_lengthOf_1 ?_
  refine a_istore_n (L' := [(0, .ref (ad 9)), (1, .ref (ad o)), (2, .ref (ad t)), (3, ii_v (f o 6))]) C dX3_lengthOf_4 (by decide) rfl ?_
  refine a_aload_n C dX3_lengthOf_5 rfl ?_
  refine a_getN (ci := 2) (i := 7) (v := ii_v (f o 7)) C iw_X1 rfl (by decide) rfl fn_X3_25 ho rfl dX3_lengthOf_6 ?_
  refine a_istore (L' := [(0, .ref (ad 9)), (1, .ref (ad o)), (2, .ref (ad t)), (3, ii_v (f o 6)), (4, ii_v (f o 7))]) C dX3_lengthOf_9 (by decide) rfl ?_
  refine a_iconst C dX3_lengthOf_11 ?_
  refine a_istore (L' := [(0, .ref (ad 9)), (1, .ref (ad o)), (2, .ref (ad t)), (3, ii_v (f o 6)), (4, ii_v (f o 7)), (5, ii_v 0)]) C dX3_lengthOf_12 (by decide) rfl ?_
  refine a_iconst C dX3_lengthOf_14 ?_
  refine a_istore (L' := [(0, .ref (ad 9)), (1, .ref (ad o)), (2, .ref (ad t)), (3, ii_v (f o 6)), (4, ii_v (f o 7)), (5, ii_v 0), (6, ii_v 0)]) C dX3_lengthOf_15 (by decide) rfl ?_
  have loop17 : ∀ (NN : Nat) (k : Nat) (x : Int) (y : Int) (a : Int), S.length - k < NN → (k ≤ S.length) → (0 ≤ x ∧ x ≤ 20) → (0 ≤ y ∧ y ≤ 20) → (0 ≤ a ∧ a ≤ 40 * (k : Int)) → (a + pl_len v (f o 3) (f o 4) (S.drop k) x y = pl_len v (f o 3) (f o 4) S (f o 6) (f o 7)) → ab_W p l e (ab_rm 7 0 0) s m args below meth c E base 8 (ab_Q below E base Post args s 0 0) ab_x4 ad (f, w) 0 0 17 [(0, .ref (ad 9)), (1, .ref (ad o)), (2, .ref (ad t)), (3, ii_v x), (4, ii_v y), (5, ii_v a), (6, ii_v ((k : Nat) : Int))] [] := by
    intro NN
    induction NN with
    | zero => intro k x y a hNN; exact absurd hNN (Nat.not_lt_zero _)
    | succ NN ih =>
      intro k x y a hNN hk hx hy ha hE
      refine a_iload C dX3_lengthOf_17 rfl ?_
      refine a_aload_n C dX3_lengthOf_19 rfl ?_
      refine a_getN (ci := 8) (i := 1) (v := ii_v (f t 1)) C iw_X7 rfl (by decide) rfl fn_X3_28 ht rfl dX3_lengthOf_20 ?_
      refine a_icmp_ge (tgt := 78) C dX3_lengthOf_23 rfl (by unfold ii_B; omega) (by unfold ii_B; omega) (fun h23 => ?_) (fun h23 => ?_)
      · skip
        refine a_iload C dX3_lengthOf_78 rfl ?_
        refine a_iload_n C dX3_lengthOf_80 rfl ?_
        refine a_iload C dX3_lengthOf_81 rfl ?_
        refine a_aload_n C dX3_lengthOf_83 rfl ?_
        refine a_getN (ci := 2) (i := 3) (v := ii_v (f o 3)) C iw_X1 rfl (by decide) rfl fn_X3_49 ho rfl dX3_lengthOf_84 ?_
        refine a_aload_n C dX3_lengthOf_87 rfl ?_
        refine a_getN (ci := 2) (i := 4) (v := ii_v (f o 4)) C iw_X1 rfl (by decide) rfl fn_X3_52 ho rfl dX3_lengthOf_88 ?_
        refine a_callSN (As := [ii_v x, ii_v y, ii_v (f o 3), ii_v (f o 4)]) C (c_distance hl f w x y (f o 3) (f o 4) (by omega) (by omega) (by omega) (by omega)) co_X9_distance in_X9 mn_X3_55 sc_X9_distance ar_X9_distance ⟨by decide, by decide, by decide, by decide⟩ rfl (Nat.le_of_ble_eq_true rfl) dX3_lengthOf_91 (a_dR ?_) a_nR
        refine a_iadd C dX3_lengthOf_94 ?_
        refine a_iret C ?_ (by decide) (by decide) dX3_lengthOf_95
        rw [hPost]
        exact ⟨rt_i (by rw [← hE, List.drop_eq_nil_of_le (by omega)]; rfl), rfl, rfl, rfl⟩
      · skip
        refine a_aload_n C dX3_lengthOf_26 rfl ?_
        refine a_iload C dX3_lengthOf_27 rfl ?_
        refine a_callVN (o := t) (As := [ii_v ((k : Nat) : Int)]) C (c_stopAtS hl f w ht hta hS ((k : Nat) : Int) k (by omega) (by omega)) co_X7_stopAt in_X7 mn_X3_33 im_X7_stopAt se_X7_stopAt rfl ht ar_X7_stopAt ⟨by decide, by decide, by decide, by decide⟩ rfl (Nat.le_of_ble_eq_true rfl) dX3_lengthOf_29 (a_dR ?_) a_nR
        refine a_istore (L' := [(0, .ref (ad 9)), (1, .ref (ad o)), (2, .ref (ad t)), (3, ii_v x), (4, ii_v y), (5, ii_v a), (6, ii_v ((k : Nat) : Int)), (7, ii_v (((S.getD k 0) : Nat) : Int))]) C dX3_lengthOf_32 (by decide) rfl ?_
        have q1 := hq k (by omega)
        have qv := hv.1 _ q1
        have hd := pd_b (x := x) (y := y) (u := v 0 (S.getD k 0)) (v := v 1 (S.getD k 0)) (by omega) (by omega) (by omega) (by omega)
        refine a_iload C dX3_lengthOf_34 rfl ?_
        refine a_aload_n C dX3_lengthOf_36 rfl ?_
        refine a_get (ci := 4) (i := 0) (v := .ref (ad 2)) C iw_X3 rfl (by decide) rfl fl_X3_15 rfl rfl dX3_lengthOf_37 ?_
        refine a_iload C dX3_lengthOf_40 rfl ?_
        refine a_iload_n C dX3_lengthOf_42 rfl ?_
        refine a_iload C dX3_lengthOf_43 rfl ?_
        refine a_callVN (o := 2) (As := [ii_v (((S.getD k 0) : Nat) : Int), ii_v x, ii_v y]) C (c_wayTo hl f w hr hv (S.getD k 0) (by omega) x y (by omega) (by omega)) co_X0_wayTo in_X0 mn_X3_37 im_X0_wayTo se_X0_wayTo rfl rfl ar_X0_wayTo ⟨by decide, by decide, by decide, by decide⟩ rfl (Nat.le_of_ble_eq_true rfl) dX3_lengthOf_45 (a_dR ?_) a_nR
        refine a_iadd C dX3_lengthOf_48 ?_
        refine a_istore (L' := [(0, .ref (ad 9)), (1, .ref (ad o)), (2, .ref (ad t)), (3, ii_v x), (4, ii_v y), (5, ii_v (a + (pd_d x y (v 0 (S.getD k 0)) (v 1 (S.getD k 0))))), (6, ii_v ((k : Nat) : Int)), (7, ii_v (((S.getD k 0) : Nat) : Int))]) C dX3_lengthOf_49 (by decide) rfl ?_
        refine a_aload_n C dX3_lengthOf_51 rfl ?_
        refine a_get (ci := 4) (i := 0) (v := .ref (ad 2)) C iw_X3 rfl (by decide) rfl fl_X3_15 rfl rfl dX3_lengthOf_52 ?_
        refine a_iload C dX3_lengthOf_55 rfl ?_
        refine a_callVN (o := 2) (As := [ii_v (((S.getD k 0) : Nat) : Int)]) C (c_xOf hl f w hr hv (S.getD k 0) (by omega)) co_X0_xOf in_X0 mn_X3_43 im_X0_xOf se_X0_xOf rfl rfl ar_X0_xOf ⟨by decide, by decide, by decide, by decide⟩ rfl (Nat.le_of_ble_eq_true rfl) dX3_lengthOf_57 (a_dR ?_) a_nR
        refine a_istore_n (L' := [(0, .ref (ad 9)), (1, .ref (ad o)), (2, .ref (ad t)), (3, ii_v (v 0 (S.getD k 0))), (4, ii_v y), (5, ii_v (a + (pd_d x y (v 0 (S.getD k 0)) (v 1 (S.getD k 0))))), (6, ii_v ((k : Nat) : Int)), (7, ii_v (((S.getD k 0) : Nat) : Int))]) C dX3_lengthOf_60 (by decide) rfl ?_
        refine a_aload_n C dX3_lengthOf_61 rfl ?_
        refine a_get (ci := 4) (i := 0) (v := .ref (ad 2)) C iw_X3 rfl (by decide) rfl fl_X3_15 rfl rfl dX3_lengthOf_62 ?_
        refine a_iload C dX3_lengthOf_65 rfl ?_
        refine a_callVN (o := 2) (As := [ii_v (((S.getD k 0) : Nat) : Int)]) C (c_yOf hl f w hr hv (S.getD k 0) (by omega)) co_X0_yOf in_X0 mn_X3_46 im_X0_yOf se_X0_yOf rfl rfl ar_X0_yOf ⟨by decide, by decide, by decide, by decide⟩ rfl (Nat.le_of_ble_eq_true rfl) dX3_lengthOf_67 (a_dR ?_) a_nR
        refine a_istore (L' := [(0, .ref (ad 9)), (1, .ref (ad o)), (2, .ref (ad t)), (3, ii_v (v 0 (S.getD k 0))), (4, ii_v (v 1 (S.getD k 0))), (5, ii_v (a + (pd_d x y (v 0 (S.getD k 0)) (v 1 (S.getD k 0))))), (6, ii_v ((k : Nat) : Int)), (7, ii_v (((S.getD k 0) : Nat) : Int))]) C dX3_lengthOf_70 (by decide) rfl ?_
        refine a_iinc (L' := [(0, .ref (ad 9)), (1, .ref (ad o)), (2, .ref (ad t)), (3, ii_v (v 0 (S.getD k 0))), (4, ii_v (v 1 (S.getD k 0))), (5, ii_v (a + (pd_d x y (v 0 (S.getD k 0)) (v 1 (S.getD k 0))))), (6, ii_v (((k : Nat) : Int) + 1)), (7, ii_v (((S.getD k 0) : Nat) : Int))]) C dX3_lengthOf_72 rfl (by decide) rfl ?_
        refine a_goto (tgt := 17) C dX3_lengthOf_75 rfl ?_
        refine a_pick [0, 1, 2, 3, 4, 5, 6] (L2 := [(0, .ref (ad 9)), (1, .ref (ad o)), (2, .ref (ad t)), (3, ii_v (v 0 (S.getD k 0))), (4, ii_v (v 1 (S.getD k 0))), (5, ii_v (a + (pd_d x y (v 0 (S.getD k 0)) (v 1 (S.getD k 0))))), (6, ii_v (((k : Nat) : Int) + 1))]) rfl ?_
        exact ih (k + 1) (v 0 (S.getD k 0)) (v 1 (S.getD k 0)) (a + pd_d x y (v 0 (S.getD k 0)) (v 1 (S.getD k 0))) (by omega) (by omega) qv.2.2.1 qv.2.2.2 (by omega) (by rw [ls_drop (by omega)] at hE; simp only [pl_len] at hE; omega)
  exact loop17 (_ + 1) 0 (f o 6) (f o 7) 0 (Nat.lt_succ_self _) (Nat.zero_le _) hB6 hB7 (by omega) (by rw [List.drop_zero, Int.zero_add])
