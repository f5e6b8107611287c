/-! The model: what a request writes; stops are made; a bus drives. -/
def wm_T (f : Nat → Nat → Int) (r : Nat) (x y u z n : Int) : Nat → Nat → Int :=
  ii_up (ii_up (ii_up (ii_up (ii_up (ii_up (ii_up f 53 r x) 54 r y) 55 r u) 56 r z) 57 r n) 58 r (f 40 32 + f 40 34)) 59 r (pd_d x y u z * (100 + f 40 33) / 100)
/-- what is wrong with a wish: 1, 2 or nothing -/
def wc_f (x y u z n : Int) : Int := if ((0 ≤ x ∧ x ≤ 20) ∧ (0 ≤ y ∧ y ≤ 20)) ∧ ((0 ≤ u ∧ u ≤ 20) ∧ (0 ≤ z ∧ z ≤ 20)) ∧ 1 ≤ n ∧ n ≤ 6 then (if x = u ∧ y = z then 2 else 0) else 1
def dm_1 (f : Nat → Nat → Int) (b : Nat) (x y : Int) : Nat → Nat → Int :=
  if f 44 b = x then ii_up f 45 b (f 45 b + (if f 45 b < y then 1 else -1)) else ii_up f 44 b (f 44 b + (if f 44 b < x then 1 else -1))
/-- the bus b drives one step to the place, in the model -/
def dm_T (f : Nat → Nat → Int) (n b : Nat) (x y : Int) : Nat → Nat → Int :=
  if ab_n f b n = 0 then ii_up (ii_up (ii_up (ii_up (dm_1 f b x y) 43 b (f 43 b - 1)) 48 b (f 48 b + 1)) 50 b (f 50 b + ab_n f b n)) 49 b (f 49 b + 1)
  else ii_up (ii_up (ii_up (dm_1 f b x y) 43 b (f 43 b - 1)) 48 b (f 48 b + 1)) 50 b (f 50 b + ab_n f b n)
set_option maxRecDepth 20000 in
set_option maxHeartbeats 2000000 in
theorem m_writes {l : Launch} {E : ab_E} {base : Nat} (hl : l.stackTraces = false) {ad : Nat → Nat} (f : Nat → Nat → Int) (w : Nat × Nat × Int64 × UInt64) (r : Nat) (hr : r ≤ 30) (x y u z n : Int) (h : (((0 ≤ x ∧ x ≤ 20) ∧ (0 ≤ y ∧ y ≤ 20)) ∧ ((0 ≤ u ∧ u ≤ 20) ∧ (0 ≤ z ∧ z ≤ 20)) ∧ 1 ≤ n ∧ n ≤ 6)) (hdt : 0 ≤ f 40 33 ∧ f 40 33 ≤ 200) : ab_M l E base yX10_writes cX10_writes 7 none 3 0 0 [.ref (ad 40), ii_v ((r : Nat) : Int), ii_v x, ii_v y, ii_v u, ii_v z, ii_v n] ab_x4 ad (f, w) (ab_V ab_x4 ad (wm_T f r x y u z n, w)) := by
  obtain ⟨Post, hPost⟩ : ∃ P : ab_P, P = (ab_V ab_x4 ad (wm_T f r x y u z n, w)) := ⟨_, rfl⟩
  rw [← hPost]
  refine ab_of RX10 [(0, .ref (ad 40)), (1, ii_v ((r : Nat) : Int)), (2, ii_v x), (3, ii_v y), (4, ii_v u), (5, ii_v z), (6, ii_v n)] hl (by decide) rfl (Nat.le_of_ble_eq_true rfl) rfl ?_
  intro p e s m args below meth c C T0 hnm
  have hpd := pd_b h.1.1 h.1.2 h.2.1.1 h.2.1.2
  have hmul : 0 ≤ pd_d x y u z * (100 + f 40 33) ∧ pd_d x y u z * (100 + f 40 33) ≤ 80 * 300 := ⟨Int.mul_nonneg (by omega) (by omega), Int.mul_le_mul (by omega) (by omega) (by omega) (by omega)⟩
  refine a_aload_n C dX10_writes_0 rfl ?_
  refine a_get (ci := 11) (i := 13) (v := .ref (ad 53)) C iw_X10 rfl (by decide) rfl fl_X10_46 rfl rfl dX10_writes_1 ?_
  refine a_iload_n C dX10_writes_4 rfl ?_
  refine a_iload_n C dX10_writes_5 rfl ?_
  refine a_iast (o := 53) (N := 31) r C dX10_writes_6 rfl (by omega) (by omega) (by decide) ?_
  obtain ⟨g1, eg1⟩ : ∃ F : Nat → Nat → Int, F = ii_up f 53 r x := ⟨_, rfl⟩
  rw [← eg1]
  refine a_aload_n C dX10_writes_7 rfl ?_
  refine a_get (ci := 11) (i := 14) (v := .ref (ad 54)) C iw_X10 rfl (by decide) rfl fl_X10_49 rfl rfl dX10_writes_8 ?_
  refine a_iload_n C dX10_writes_11 rfl ?_
  refine a_iload_n C dX10_writes_12 rfl ?_
  refine a_iast (o := 54) (N := 31) r C dX10_writes_13 rfl (by omega) (by omega) (by decide) ?_
  obtain ⟨g2, eg2⟩ : ∃ F : Nat → Nat → Int, F = ii_up g1 54 r y := ⟨_, rfl⟩
  rw [← eg2]
  refine a_aload_n C dX10_writes_14 rfl ?_
  refine a_get (ci := 11) (i := 15) (v := .ref (ad 55)) C iw_X10 rfl (by decide) rfl fl_X10_52 rfl rfl dX10_writes_15 ?_
  refine a_iload_n C dX10_writes_18 rfl ?_
  refine a_iload C dX10_writes_19 rfl ?_
  refine a_iast (o := 55) (N := 31) r C dX10_writes_21 rfl (by omega) (by omega) (by decide) ?_
  obtain ⟨g3, eg3⟩ : ∃ F : Nat → Nat → Int, F = ii_up g2 55 r u := ⟨_, rfl⟩
  rw [← eg3]
  refine a_aload_n C dX10_writes_22 rfl ?_
  refine a_get (ci := 11) (i := 16) (v := .ref (ad 56)) C iw_X10 rfl (by decide) rfl fl_X10_55 rfl rfl dX10_writes_23 ?_
  refine a_iload_n C dX10_writes_26 rfl ?_
  refine a_iload C dX10_writes_27 rfl ?_
  refine a_iast (o := 56) (N := 31) r C dX10_writes_29 rfl (by omega) (by omega) (by decide) ?_
  obtain ⟨g4, eg4⟩ : ∃ F : Nat → Nat → Int, F = ii_up g3 56 r z := ⟨_, rfl⟩
  rw [← eg4]
  refine a_aload_n C dX10_writes_30 rfl ?_
  refine a_get (ci := 11) (i := 17) (v := .ref (ad 57)) C iw_X10 rfl (by decide) rfl fl_X10_58 rfl rfl dX10_writes_31 ?_
  refine a_iload_n C dX10_writes_34 rfl ?_
  refine a_iload C dX10_writes_35 rfl ?_
  refine a_iast (o := 57) (N := 31) r C dX10_writes_37 rfl (by omega) (by omega) (by decide) ?_
  obtain ⟨g5, eg5⟩ : ∃ F : Nat → Nat → Int, F = ii_up g4 57 r n := ⟨_, rfl⟩
  rw [← eg5]
  refine a_aload_n C dX10_writes_38 rfl ?_
  refine a_get (ci := 11) (i := 18) (v := .ref (ad 58)) C iw_X10 rfl (by decide) rfl fl_X10_61 rfl rfl dX10_writes_39 ?_
  refine a_iload_n C dX10_writes_42 rfl ?_
  refine a_aload_n C dX10_writes_43 rfl ?_
  refine a_get (ci := 11) (i := 32) (v := ii_v (g5 40 32)) C iw_X10 rfl (by decide) rfl fl_X10_157 rfl rfl dX10_writes_44 ?_
  refine a_top (w := ii_v (f 40 32)) (congrArg (fun q => ii_v q) (show g5 40 32 = (f 40 32) by rw [eg5, ii_up_o _ _ _ (by omega), eg4, ii_up_o _ _ _ (by omega), eg3, ii_up_o _ _ _ (by omega), eg2, ii_up_o _ _ _ (by omega), eg1, ii_up_o _ _ _ (by omega)])) ?_
  refine a_aload_n C dX10_writes_47 rfl ?_
  refine a_get (ci := 11) (i := 34) (v := ii_v (g5 40 34)) C iw_X10 rfl (by decide) rfl fl_X10_99 rfl rfl dX10_writes_48 ?_
  refine a_top (w := ii_v (f 40 34)) (congrArg (fun q => ii_v q) (show g5 40 34 = (f 40 34) by rw [eg5, ii_up_o _ _ _ (by omega), eg4, ii_up_o _ _ _ (by omega), eg3, ii_up_o _ _ _ (by omega), eg2, ii_up_o _ _ _ (by omega), eg1, ii_up_o _ _ _ (by omega)])) ?_
  refine a_iadd C dX10_writes_51 ?_
  refine a_iast (o := 58) (N := 31) r C dX10_writes_52 rfl (by omega) (by omega) (by decide) ?_
  obtain ⟨g6, eg6⟩ : ∃ F : Nat → Nat → Int, F = ii_up g5 58 r ((f 40 32) + (f 40 34)) := ⟨_, rfl⟩
  rw [← eg6]
  refine a_aload_n C dX10_writes_53 rfl ?_
  refine a_get (ci := 11) (i := 19) (v := .ref (ad 59)) C iw_X10 rfl (by decide) rfl fl_X10_64 rfl rfl dX10_writes_54 ?_
  refine a_iload_n C dX10_writes_57 rfl ?_
  refine a_iload_n C dX10_writes_58 rfl ?_
  refine a_iload_n C dX10_writes_59 rfl ?_
  refine a_iload C dX10_writes_60 rfl ?_
  refine a_iload C dX10_writes_62 rfl ?_
  refine a_callS (As := [ii_v x, ii_v y, ii_v u, ii_v z]) C (m_distance hl g6 w x y u z (by omega) (by omega) (by omega) (by omega)) co_X10_distance in_X10 ml_X10_153 sc_X10_distance ar_X10_distance ⟨by decide, by decide, by decide, by decide⟩ rfl (Nat.le_of_ble_eq_true rfl) dX10_writes_64 (a_dR ?_) a_nR
  refine a_bipush C dX10_writes_67 (by decide) ?_
  refine a_aload_n C dX10_writes_69 rfl ?_
  refine a_get (ci := 11) (i := 33) (v := ii_v (g6 40 33)) C iw_X10 rfl (by decide) rfl fl_X10_95 rfl rfl dX10_writes_70 ?_
  refine a_top (w := ii_v (f 40 33)) (congrArg (fun q => ii_v q) (show g6 40 33 = (f 40 33) by rw [eg6, ii_up_o _ _ _ (by omega), eg5, ii_up_o _ _ _ (by omega), eg4, ii_up_o _ _ _ (by omega), eg3, ii_up_o _ _ _ (by omega), eg2, ii_up_o _ _ _ (by omega), eg1, ii_up_o _ _ _ (by omega)])) ?_
  refine a_iadd C dX10_writes_73 ?_
  refine a_imul C dX10_writes_74 ?_
  refine a_bipush C dX10_writes_75 (by decide) ?_
  refine a_idiv C dX10_writes_77 (by omega) (by omega) ?_
  refine a_iast (o := 59) (N := 31) r C dX10_writes_78 rfl (by omega) (by omega) (by decide) ?_
  obtain ⟨g7, eg7⟩ : ∃ F : Nat → Nat → Int, F = ii_up g6 59 r (((pd_d x y u z) * (100 + (f 40 33))) / 100) := ⟨_, rfl⟩
  rw [← eg7]
  refine a_vret C ?_ (by decide) (by decide) dX10_writes_79
  rw [hPost]
  refine ⟨rfl, rfl, rfl, congrArg (fun q => (q, w)) ?_⟩
  subst eg7 eg6 eg5 eg4 eg3 eg2 eg1
  rfl
set_option maxRecDepth 20000 in
set_option maxHeartbeats 2000000 in
theorem m_wrong {l : Launch} {E : ab_E} {base : Nat} (hl : l.stackTraces = false) {ad : Nat → Nat} (f : Nat → Nat → Int) (w : Nat × Nat × Int64 × UInt64) (x y u z n : Int) (zx : -2147483648 ≤ x ∧ x < 2147483648) (zy : -2147483648 ≤ y ∧ y < 2147483648) (zu : -2147483648 ≤ u ∧ u < 2147483648) (zz : -2147483648 ≤ z ∧ z < 2147483648) (zn : -2147483648 ≤ n ∧ n < 2147483648)  : ab_M l E base yX10_wrong cX10_wrong 6 (some .int) 3 0 0 [.ref (ad 40), ii_v x, ii_v y, ii_v u, ii_v z, ii_v n] ab_x4 ad (f, w) (ab_R (ii_v (wc_f x y u z n)) ab_x4 ad (f, w)) := by
  obtain ⟨Post, hPost⟩ : ∃ P : ab_P, P = (ab_R (ii_v (wc_f x y u z n)) ab_x4 ad (f, w)) := ⟨_, rfl⟩
  rw [← hPost]
  refine ab_of RX10 [(0, .ref (ad 40)), (1, ii_v x), (2, ii_v y), (3, ii_v u), (4, ii_v z), (5, ii_v n)] hl (by decide) rfl (Nat.le_of_ble_eq_true rfl) rfl ?_
  intro p e s m args below meth c C T0 hnm
  refine a_iload_n C dX10_wrong_0 rfl ?_
  refine a_iload_n C dX10_wrong_1 rfl ?_
  refine a_callS (As := [ii_v x, ii_v y]) C (m_isPlace hl f w x y (by omega) (by omega)) co_X10_isPlace in_X10 ml_X10_131 sc_X10_isPlace ar_X10_isPlace ⟨by decide, by decide, by decide, by decide⟩ rfl (Nat.le_of_ble_eq_true rfl) dX10_wrong_2 (a_dR ?_) a_nR
  refine a_bif_eq (tgt := 28) C dX10_wrong_5 rfl (fun h5 => ?_) (fun h5 => ?_)
  · skip
    refine a_iconst C dX10_wrong_28 ?_
    refine a_iret C ?_ (by decide) (by decide) dX10_wrong_29
    rw [hPost]
    exact ⟨rt_i (by unfold wc_f; rw [if_neg (fun z => by first | exact absurd z.1 h5 | exact absurd z.2.1 h14 | exact absurd z.2.2 h25)]), rfl, rfl, rfl⟩
  · skip
    refine a_iload_n C dX10_wrong_8 rfl ?_
    refine a_iload C dX10_wrong_9 rfl ?_
    refine a_callS (As := [ii_v u, ii_v z]) C (m_isPlace hl f w u z (by omega) (by omega)) co_X10_isPlace in_X10 ml_X10_131 sc_X10_isPlace ar_X10_isPlace ⟨by decide, by decide, by decide, by decide⟩ rfl (Nat.le_of_ble_eq_true rfl) dX10_wrong_11 (a_dR ?_) a_nR
    refine a_bif_eq (tgt := 28) C dX10_wrong_14 rfl (fun h14 => ?_) (fun h14 => ?_)
    · skip
      refine a_iconst C dX10_wrong_28 ?_
      refine a_iret C ?_ (by decide) (by decide) dX10_wrong_29
      rw [hPost]
      exact ⟨rt_i (by unfold wc_f; rw [if_neg (fun z => by first | exact absurd z.1 h5 | exact absurd z.2.1 h14 | exact absurd z.2.2 h25)]), rfl, rfl, rfl⟩
    · skip
      refine a_iload C dX10_wrong_17 rfl ?_
      refine a_iconst C dX10_wrong_19 ?_
      refine a_bipush C dX10_wrong_20 (by decide) ?_
      refine a_callS (As := [ii_v n, ii_v 1, ii_v 6]) C (m_isBetween hl f w n 1 6 (by omega) (by omega) (by omega)) co_X10_isBetween in_X10 ml_X10_120 sc_X10_isBetween ar_X10_isBetween ⟨by decide, by decide, by decide, by decide⟩ rfl (Nat.le_of_ble_eq_true rfl) dX10_wrong_22 (a_dR ?_) a_nR
      refine a_bif_ne (tgt := 30) C dX10_wrong_25 rfl (fun h25 => ?_) (fun h25 => ?_)
      · skip
        refine a_iload_n C dX10_wrong_30 rfl ?_
        refine a_iload_n C dX10_wrong_31 rfl ?_
        refine a_icmp_ne (tgt := 45) C dX10_wrong_32 rfl (by unfold ii_B; omega) (by unfold ii_B; omega) (fun h32 => ?_) (fun h32 => ?_)
        · skip
          refine a_iconst C dX10_wrong_45 ?_
          refine a_iret C ?_ (by decide) (by decide) dX10_wrong_46
          rw [hPost]
          exact ⟨rt_i (by unfold wc_f; rw [if_pos ⟨h5, h14, h25⟩]; first | rw [if_pos (by omega)] | rw [if_neg (by omega)]), rfl, rfl, rfl⟩
        · skip
          refine a_iload_n C dX10_wrong_35 rfl ?_
          refine a_iload C dX10_wrong_36 rfl ?_
          refine a_icmp_ne (tgt := 45) C dX10_wrong_38 rfl (by unfold ii_B; omega) (by unfold ii_B; omega) (fun h38 => ?_) (fun h38 => ?_)
          · skip
            refine a_iconst C dX10_wrong_45 ?_
            refine a_iret C ?_ (by decide) (by decide) dX10_wrong_46
            rw [hPost]
            exact ⟨rt_i (by unfold wc_f; rw [if_pos ⟨h5, h14, h25⟩]; first | rw [if_pos (by omega)] | rw [if_neg (by omega)]), rfl, rfl, rfl⟩
          · skip
            refine a_iconst C dX10_wrong_41 ?_
            refine a_goto (tgt := 46) C dX10_wrong_42 rfl ?_
            refine a_iret C ?_ (by decide) (by decide) dX10_wrong_46
            rw [hPost]
            exact ⟨rt_i (by unfold wc_f; rw [if_pos ⟨h5, h14, h25⟩]; first | rw [if_pos (by omega)] | rw [if_neg (by omega)]), rfl, rfl, rfl⟩
      · skip
        refine a_iconst C dX10_wrong_28 ?_
        refine a_iret C ?_ (by decide) (by decide) dX10_wrong_29
        rw [hPost]
        exact ⟨rt_i (by unfold wc_f; rw [if_neg (fun z => by first | exact absurd z.1 h5 | exact absurd z.2.1 h14 | exact absurd z.2.2 h25)]), rfl, rfl, rfl⟩
set_option maxRecDepth 20000 in
set_option maxHeartbeats 2000000 in
theorem m_takes {l : Launch} {E : ab_E} {base : Nat} (hl : l.stackTraces = false) {ad : Nat → Nat} (f : Nat → Nat → Int) (w : Nat × Nat × Int64 × UInt64) (b : Nat) (hb : b < 4) {S : List Nat} (hS : tr_I f S) : ab_M l E base yX10_takes cX10_takes 3 none 1 0 0 [.ref (ad 40), ii_v ((b : Nat) : Int)] ab_x4 ad (f, w) (ab_F ad w (fun ov g => ov = none ∧ mt_I g b S ∧ (∀ o2, o2 ≠ 51 → o2 ≠ 52 → g o2 = f o2) ∧ (∀ i, i ≠ b → g 51 i = f 51 i) ∧ ∀ i, i < 8 * b ∨ 8 * b + 8 ≤ i → g 52 i = f 52 i)) := by
  obtain ⟨Post, hPost⟩ : ∃ P : ab_P, P = (ab_F ad w (fun ov g => ov = none ∧ mt_I g b S ∧ (∀ o2, o2 ≠ 51 → o2 ≠ 52 → g o2 = f o2) ∧ (∀ i, i ≠ b → g 51 i = f 51 i) ∧ ∀ i, i < 8 * b ∨ 8 * b + 8 ≤ i → g 52 i = f 52 i)) := ⟨_, rfl⟩
  rw [← hPost]
  refine ab_of RX10 [(0, .ref (ad 40)), (1, ii_v ((b : Nat) : Int))] hl (by decide) rfl (Nat.le_of_ble_eq_true rfl) rfl ?_
  intro p e s m args below meth c C T0 hnm
  obtain ⟨hc, h8, hj, hb64⟩ := id hS
  refine a_aload_n C dX10_takes_0 rfl ?_
  refine a_get (ci := 11) (i := 11) (v := .ref (ad 51)) C iw_X10 rfl (by decide) rfl fl_X10_40 rfl rfl dX10_takes_1 ?_
  refine a_iload_n C dX10_takes_4 rfl ?_
  refine a_aload_n C dX10_takes_5 rfl ?_
  refine a_get (ci := 11) (i := 37) (v := ii_v (f 40 37)) C iw_X10 rfl (by decide) rfl fl_X10_144 rfl rfl dX10_takes_6 ?_
  refine a_top (w := ii_v ((S.length : Nat) : Int)) (congrArg (fun q => ii_v q) hc) ?_
  refine a_iast (o := 51) (N := 4) b C dX10_takes_9 rfl (by omega) (by omega) (by decide) ?_
  obtain ⟨g1, eg1⟩ : ∃ F : Nat → Nat → Int, F = ii_up f 51 b ((S.length : Nat) : Int) := ⟨_, rfl⟩
  rw [← eg1]
  have hfrg1 : ∀ o2, o2 ≠ 51 → o2 ≠ 52 → g1 o2 = f o2 := fun o2 h h2 => by rw [eg1, ii_up_row _ _ h]
  refine a_iconst C dX10_takes_10 ?_
  refine a_istore_n (L' := [(0, .ref (ad 40)), (1, ii_v ((b : Nat) : Int)), (2, ii_v 0)]) C dX10_takes_11 (by decide) rfl ?_
  have loop12 : ∀ (NN12 : Nat) (k : Nat) (g : Nat → Nat → Int), S.length - k < NN12 → (k ≤ S.length) → (g 51 b = (S.length : Int)) → (∀ j, j < k → g 52 (8 * b + j) = ((S.getD j 0 : Nat) : Int)) → (∀ o2, o2 ≠ 51 → o2 ≠ 52 → g o2 = f o2) → (∀ i, i ≠ b → g 51 i = f 51 i) → (∀ i, i < 8 * b ∨ 8 * b + 8 ≤ i → g 52 i = f 52 i) → ab_W p l e (ab_rm 1 0 0) s m args below meth c E base 3 (ab_Q below E base Post args s 0 0) ab_x4 ad (g, w) 0 0 12 [(0, .ref (ad 40)), (1, ii_v ((b : Nat) : Int)), (2, ii_v ((k : Nat) : Int))] [] := by
    intro NN12
    induction NN12 with
    | zero => intro k g hNN; exact absurd hNN (Nat.not_lt_zero _)
    | succ NN12 ih12 =>
      intro k g hNN hk h51 hgj hfrg hx51 hx52
      refine a_iload_n C dX10_takes_12 rfl ?_
      refine a_aload_n C dX10_takes_13 rfl ?_
      refine a_get (ci := 11) (i := 37) (v := ii_v (g 40 37)) C iw_X10 rfl (by decide) rfl fl_X10_144 rfl rfl dX10_takes_14 ?_
      refine a_top (w := ii_v ((S.length : Nat) : Int)) (congrArg (fun q => ii_v q) ((congrFun (hfrg 40 (by decide) (by decide)) _).trans hc)) ?_
      refine a_icmp_ge (tgt := 43) C dX10_takes_17 rfl (by unfold ii_B; omega) (by unfold ii_B; omega) (fun h17 => ?_) (fun h17 => ?_)
      · skip
        refine a_vret C ?_ (by decide) (by decide) dX10_takes_43
        rw [hPost]
        exact ab_F_of ⟨rfl, ⟨h51, h8, fun j h => hgj j (by omega), hb64⟩, hfrg, hx51, hx52⟩
      · skip
        refine a_aload_n C dX10_takes_20 rfl ?_
        refine a_get (ci := 11) (i := 12) (v := .ref (ad 52)) C iw_X10 rfl (by decide) rfl fl_X10_43 rfl rfl dX10_takes_21 ?_
        refine a_bipush C dX10_takes_24 (by decide) ?_
        refine a_iload_n C dX10_takes_26 rfl ?_
        refine a_imul C dX10_takes_27 ?_
        refine a_iload_n C dX10_takes_28 rfl ?_
        refine a_iadd C dX10_takes_29 ?_
        refine a_aload_n C dX10_takes_30 rfl ?_
        refine a_get (ci := 11) (i := 35) (v := .ref (ad 75)) C iw_X10 rfl (by decide) rfl fl_X10_102 rfl rfl dX10_takes_31 ?_
        refine a_iload_n C dX10_takes_34 rfl ?_
        refine a_iald (o := 75) (N := 8) k C dX10_takes_35 rfl (by omega) (by omega) (by decide) ?_
        refine a_top (w := ii_v (g 75 k)) rfl ?_
        refine a_top (w := ii_v ((S.getD k 0 : Nat) : Int)) (congrArg (fun q => ii_v q) ((congrFun (hfrg 75 (by decide) (by decide)) _).trans (hj k (by omega)))) ?_
        refine a_iast (o := 52) (N := 32) ((8 * b) + k) C dX10_takes_36 rfl (by omega) (by omega) (by decide) ?_
        obtain ⟨g2, eg2⟩ : ∃ F : Nat → Nat → Int, F = ii_up g 52 ((8 * b) + k) (((S.getD k 0) : Nat) : Int) := ⟨_, rfl⟩
        rw [← eg2]
        refine a_iinc (L' := [(0, .ref (ad 40)), (1, ii_v ((b : Nat) : Int)), (2, ii_v (((k : Nat) : Int) + 1))]) C dX10_takes_37 rfl (by decide) rfl ?_
        refine a_goto (tgt := 12) C dX10_takes_40 rfl ?_
        exact ih12 (k + 1) g2 (by omega) (by omega) (by rw [eg2, ii_up_o _ _ _ (by decide)]; exact h51) (by rw [eg2]; exact lt_s (fun j h => by rw [ii_up_k _ _ (by omega)]; exact hgj j h) (ii_up_s _ _ _ _)) (fun o2 h h2 => by rw [eg2, ii_up_row _ _ h2]; exact hfrg o2 h h2) (fun i h => by rw [eg2, ii_up_o _ _ _ (by decide)]; exact hx51 i h) (fun i h => by rw [eg2, ii_up_k _ _ (by omega)]; exact hx52 i h)
  exact loop12 (_ + 1) 0 g1 (Nat.lt_succ_self _) (Nat.zero_le _) (by rw [eg1, ii_up_s]) (fun j h => absurd h (Nat.not_lt_zero j)) hfrg1 (fun i h => by rw [eg1, ii_up_k _ _ h]) (fun i _ => by rw [eg1, ii_up_o _ _ _ (by decide)])
set_option maxRecDepth 20000 in
set_option maxHeartbeats 2000000 in
theorem m_drives {l : Launch} {E : ab_E} {base : Nat} (hl : l.stackTraces = false) {ad : Nat → Nat} (f : Nat → Nat → Int) (w : Nat × Nat × Int64 × UInt64) (b : Nat) (hb : b < 4) (hB : pk_B f b) (n : Nat) (hn : f 40 30 = (n : Int)) (hn30 : n ≤ 30) (hrid : ∀ r, r < n → (0 ≤ f 57 r ∧ f 57 r ≤ 6) ∧ st_ok (f 63 r) ∧ -1 ≤ f 60 r ∧ f 60 r ≤ 10) (x y : Int) (hx : 0 ≤ x ∧ x ≤ 20) (hy : 0 ≤ y ∧ y ≤ 20)  : ab_M l E base yX10_drives cX10_drives 5 none 3 0 0 [.ref (ad 40), ii_v ((b : Nat) : Int), ii_v x, ii_v y] ab_x4 ad (f, w) (ab_V ab_x4 ad (dm_T f n b x y, w)) := by
  obtain ⟨Post, hPost⟩ : ∃ P : ab_P, P = (ab_V ab_x4 ad (dm_T f n b x y, w)) := ⟨_, rfl⟩
  rw [← hPost]
  refine ab_of RX10 [(0, .ref (ad 40)), (1, ii_v ((b : Nat) : Int)), (2, ii_v x), (3, ii_v y)] hl (by decide) rfl (Nat.le_of_ble_eq_true rfl) rfl ?_
  intro p e s m args below meth c C T0 hnm
  obtain ⟨hB1, hB6, hB7, hB4, hB5, hB8⟩ := id hB
  refine a_aload_n C dX10_drives_0 rfl ?_
  refine a_get (ci := 11) (i := 4) (v := .ref (ad 44)) C iw_X10 rfl (by decide) rfl fl_X10_19 rfl rfl dX10_drives_1 ?_
  refine a_iload_n C dX10_drives_4 rfl ?_
  refine a_iald (o := 44) (N := 4) b C dX10_drives_5 rfl (by omega) (by omega) (by decide) ?_
  refine a_top (w := ii_v (f 44 b)) rfl ?_
  refine a_iload_n C dX10_drives_6 rfl ?_
  refine a_icmp_eq (tgt := 37) C dX10_drives_7 rfl (by unfold ii_B; omega) (by unfold ii_B; omega) (fun h7 => ?_) (fun h7 => ?_)
  · skip
    refine a_aload_n C dX10_drives_37 rfl ?_
    refine a_get (ci := 11) (i := 5) (v := .ref (ad 45)) C iw_X10 rfl (by decide) rfl fl_X10_22 rfl rfl dX10_drives_38 ?_
    refine a_iload_n C dX10_drives_41 rfl ?_
    refine a_dup2 C dX10_drives_42 rfl rfl ?_
    refine a_iald (o := 45) (N := 4) b C dX10_drives_43 rfl (by omega) (by omega) (by decide) ?_
    refine a_top (w := ii_v (f 45 b)) rfl ?_
    refine a_aload_n C dX10_drives_44 rfl ?_
    refine a_get (ci := 11) (i := 5) (v := .ref (ad 45)) C iw_X10 rfl (by decide) rfl fl_X10_22 rfl rfl dX10_drives_45 ?_
    refine a_iload_n C dX10_drives_48 rfl ?_
    refine a_iald (o := 45) (N := 4) b C dX10_drives_49 rfl (by omega) (by omega) (by decide) ?_
    refine a_top (w := ii_v (f 45 b)) rfl ?_
    refine a_iload_n C dX10_drives_50 rfl ?_
    refine a_icmp_ge (tgt := 58) C dX10_drives_51 rfl (by unfold ii_B; omega) (by unfold ii_B; omega) (fun h51 => ?_) (fun h51 => ?_)
    · skip
      refine a_iconst C dX10_drives_58 ?_
      refine a_iadd C dX10_drives_59 ?_
      refine a_iast (o := 45) (N := 4) b C dX10_drives_60 rfl (by omega) (by omega) (by decide) ?_
      obtain ⟨g1, eg1⟩ : ∃ F : Nat → Nat → Int, F = ii_up f 45 b ((f 45 b) + (-1)) := ⟨_, rfl⟩
      rw [← eg1]
      refine a_aload_n C dX10_drives_61 rfl ?_
      refine a_iload_n C dX10_drives_62 rfl ?_
      refine a_callV (o := 40) (As := [ii_v ((b : Nat) : Int)]) C (m_aboard hl g1 w b hb n (by rw [eg1, ii_up_o _ _ _ (by decide)]; exact hn) hn30 (fun r hr => by rw [eg1, ii_up_o _ _ _ (by decide), ii_up_o _ _ _ (by decide), ii_up_o _ _ _ (by decide)]; exact hrid r hr)) co_X10_aboard in_X10 ml_X10_163 im_X10_aboard se_X10_aboard rfl rfl ar_X10_aboard ⟨by decide, by decide, by decide, by decide⟩ rfl (Nat.le_of_ble_eq_true rfl) dX10_drives_63 (a_dR ?_) a_nR
      rw [ab_same (f := f) (g := g1) (by rw [eg1]; exact ii_up_row _ _ (by decide)) (by rw [eg1]; exact ii_up_row _ _ (by decide)) (by rw [eg1]; exact ii_up_row _ _ (by decide)) b n]
      have hab := ab_b (b := b) hrid n (Nat.le_refl _)
      refine a_istore (L' := [(0, .ref (ad 40)), (1, ii_v ((b : Nat) : Int)), (2, ii_v x), (3, ii_v y), (4, ii_v (ab_n f b n))]) C dX10_drives_66 (by decide) rfl ?_
      refine a_aload_n C dX10_drives_68 rfl ?_
      refine a_get (ci := 11) (i := 3) (v := .ref (ad 43)) C iw_X10 rfl (by decide) rfl fl_X10_16 rfl rfl dX10_drives_69 ?_
      refine a_iload_n C dX10_drives_72 rfl ?_
      refine a_dup2 C dX10_drives_73 rfl rfl ?_
      refine a_iald (o := 43) (N := 4) b C dX10_drives_74 rfl (by omega) (by omega) (by decide) ?_
      refine a_top (w := ii_v (g1 43 b)) rfl ?_
      refine a_top (w := ii_v (f 43 b)) (congrArg (fun q => ii_v q) (show g1 43 b = (f 43 b) by rw [eg1, ii_up_o _ _ _ (by omega)])) ?_
      refine a_iconst C dX10_drives_75 ?_
      refine a_isub C dX10_drives_76 ?_
      refine a_iast (o := 43) (N := 4) b C dX10_drives_77 rfl (by omega) (by omega) (by decide) ?_
      obtain ⟨g2, eg2⟩ : ∃ F : Nat → Nat → Int, F = ii_up g1 43 b ((f 43 b) - 1) := ⟨_, rfl⟩
      rw [← eg2]
      refine a_aload_n C dX10_drives_78 rfl ?_
      refine a_get (ci := 11) (i := 8) (v := .ref (ad 48)) C iw_X10 rfl (by decide) rfl fl_X10_31 rfl rfl dX10_drives_79 ?_
      refine a_iload_n C dX10_drives_82 rfl ?_
      refine a_dup2 C dX10_drives_83 rfl rfl ?_
      refine a_iald (o := 48) (N := 4) b C dX10_drives_84 rfl (by omega) (by omega) (by decide) ?_
      refine a_top (w := ii_v (g2 48 b)) rfl ?_
      refine a_top (w := ii_v (f 48 b)) (congrArg (fun q => ii_v q) (show g2 48 b = (f 48 b) by rw [eg2, ii_up_o _ _ _ (by omega), eg1, ii_up_o _ _ _ (by omega)])) ?_
      refine a_iconst C dX10_drives_85 ?_
      refine a_iadd C dX10_drives_86 ?_
      refine a_iast (o := 48) (N := 4) b C dX10_drives_87 rfl (by omega) (by omega) (by decide) ?_
      obtain ⟨g3, eg3⟩ : ∃ F : Nat → Nat → Int, F = ii_up g2 48 b ((f 48 b) + 1) := ⟨_, rfl⟩
      rw [← eg3]
      refine a_aload_n C dX10_drives_88 rfl ?_
      refine a_get (ci := 11) (i := 10) (v := .ref (ad 50)) C iw_X10 rfl (by decide) rfl fl_X10_37 rfl rfl dX10_drives_89 ?_
      refine a_iload_n C dX10_drives_92 rfl ?_
      refine a_dup2 C dX10_drives_93 rfl rfl ?_
      refine a_iald (o := 50) (N := 4) b C dX10_drives_94 rfl (by omega) (by omega) (by decide) ?_
      refine a_top (w := ii_v (g3 50 b)) rfl ?_
      refine a_top (w := ii_v (f 50 b)) (congrArg (fun q => ii_v q) (show g3 50 b = (f 50 b) by rw [eg3, ii_up_o _ _ _ (by omega), eg2, ii_up_o _ _ _ (by omega), eg1, ii_up_o _ _ _ (by omega)])) ?_
      refine a_iload C dX10_drives_95 rfl ?_
      refine a_iadd C dX10_drives_97 ?_
      refine a_iast (o := 50) (N := 4) b C dX10_drives_98 rfl (by omega) (by omega) (by decide) ?_
      obtain ⟨g4, eg4⟩ : ∃ F : Nat → Nat → Int, F = ii_up g3 50 b ((f 50 b) + (ab_n f b n)) := ⟨_, rfl⟩
      rw [← eg4]
      refine a_iload C dX10_drives_99 rfl ?_
      refine a_if_ne (tgt := 114) C dX10_drives_101 rfl (by unfold ii_B; omega) (fun h101 => ?_) (fun h101 => ?_)
      · skip
        refine a_vret C ?_ (by decide) (by decide) dX10_drives_114
        rw [hPost]
        refine ⟨rfl, rfl, rfl, ?_⟩
        subst eg4 eg3 eg2 eg1
        refine congrArg (fun q => (q, w)) ?_
        unfold dm_T dm_1; (first | rw [if_pos (show ab_n f b n = 0 by first | assumption | omega)] | rw [if_neg (show ¬ (ab_n f b n = 0) by first | assumption | omega)]); (first | rw [if_pos (show f 44 b = x by first | assumption | omega)] | rw [if_neg (show ¬ (f 44 b = x) by first | assumption | omega)]); (first | rw [if_pos (show f 45 b < y by omega)] | rw [if_neg (show ¬ f 45 b < y by omega)] | skip); (first | rw [if_pos (show f 44 b < x by omega)] | rw [if_neg (show ¬ f 44 b < x by omega)] | skip)
      · skip
        refine a_aload_n C dX10_drives_104 rfl ?_
        refine a_get (ci := 11) (i := 9) (v := .ref (ad 49)) C iw_X10 rfl (by decide) rfl fl_X10_34 rfl rfl dX10_drives_105 ?_
        refine a_iload_n C dX10_drives_108 rfl ?_
        refine a_dup2 C dX10_drives_109 rfl rfl ?_
        refine a_iald (o := 49) (N := 4) b C dX10_drives_110 rfl (by omega) (by omega) (by decide) ?_
        refine a_top (w := ii_v (g4 49 b)) rfl ?_
        refine a_top (w := ii_v (f 49 b)) (congrArg (fun q => ii_v q) (show g4 49 b = (f 49 b) by rw [eg4, ii_up_o _ _ _ (by omega), eg3, ii_up_o _ _ _ (by omega), eg2, ii_up_o _ _ _ (by omega), eg1, ii_up_o _ _ _ (by omega)])) ?_
        refine a_iconst C dX10_drives_111 ?_
        refine a_iadd C dX10_drives_112 ?_
        refine a_iast (o := 49) (N := 4) b C dX10_drives_113 rfl (by omega) (by omega) (by decide) ?_
        obtain ⟨g5, eg5⟩ : ∃ F : Nat → Nat → Int, F = ii_up g4 49 b ((f 49 b) + 1) := ⟨_, rfl⟩
        rw [← eg5]
        refine a_vret C ?_ (by decide) (by decide) dX10_drives_114
        rw [hPost]
        refine ⟨rfl, rfl, rfl, ?_⟩
        subst eg5 eg4 eg3 eg2 eg1
        refine congrArg (fun q => (q, w)) ?_
        unfold dm_T dm_1; (first | rw [if_pos (show ab_n f b n = 0 by first | assumption | omega)] | rw [if_neg (show ¬ (ab_n f b n = 0) by first | assumption | omega)]); (first | rw [if_pos (show f 44 b = x by first | assumption | omega)] | rw [if_neg (show ¬ (f 44 b = x) by first | assumption | omega)]); (first | rw [if_pos (show f 45 b < y by omega)] | rw [if_neg (show ¬ f 45 b < y by omega)] | skip); (first | rw [if_pos (show f 44 b < x by omega)] | rw [if_neg (show ¬ f 44 b < x by omega)] | skip)
    · skip
      refine a_iconst C dX10_drives_54 ?_
      refine a_goto (tgt := 59) C dX10_drives_55 rfl ?_
      refine a_iadd C dX10_drives_59 ?_
      refine a_iast (o := 45) (N := 4) b C dX10_drives_60 rfl (by omega) (by omega) (by decide) ?_
      obtain ⟨g6, eg6⟩ : ∃ F : Nat → Nat → Int, F = ii_up f 45 b ((f 45 b) + 1) := ⟨_, rfl⟩
      rw [← eg6]
      refine a_aload_n C dX10_drives_61 rfl ?_
      refine a_iload_n C dX10_drives_62 rfl ?_
      refine a_callV (o := 40) (As := [ii_v ((b : Nat) : Int)]) C (m_aboard hl g6 w b hb n (by rw [eg6, ii_up_o _ _ _ (by decide)]; exact hn) hn30 (fun r hr => by rw [eg6, ii_up_o _ _ _ (by decide), ii_up_o _ _ _ (by decide), ii_up_o _ _ _ (by decide)]; exact hrid r hr)) co_X10_aboard in_X10 ml_X10_163 im_X10_aboard se_X10_aboard rfl rfl ar_X10_aboard ⟨by decide, by decide, by decide, by decide⟩ rfl (Nat.le_of_ble_eq_true rfl) dX10_drives_63 (a_dR ?_) a_nR
      rw [ab_same (f := f) (g := g6) (by rw [eg6]; exact ii_up_row _ _ (by decide)) (by rw [eg6]; exact ii_up_row _ _ (by decide)) (by rw [eg6]; exact ii_up_row _ _ (by decide)) b n]
      have hab := ab_b (b := b) hrid n (Nat.le_refl _)
      refine a_istore (L' := [(0, .ref (ad 40)), (1, ii_v ((b : Nat) : Int)), (2, ii_v x), (3, ii_v y), (4, ii_v (ab_n f b n))]) C dX10_drives_66 (by decide) rfl ?_
      refine a_aload_n C dX10_drives_68 rfl ?_
      refine a_get (ci := 11) (i := 3) (v := .ref (ad 43)) C iw_X10 rfl (by decide) rfl fl_X10_16 rfl rfl dX10_drives_69 ?_
      refine a_iload_n C dX10_drives_72 rfl ?_
      refine a_dup2 C dX10_drives_73 rfl rfl ?_
      refine a_iald (o := 43) (N := 4) b C dX10_drives_74 rfl (by omega) (by omega) (by decide) ?_
      refine a_top (w := ii_v (g6 43 b)) rfl ?_
      refine a_top (w := ii_v (f 43 b)) (congrArg (fun q => ii_v q) (show g6 43 b = (f 43 b) by rw [eg6, ii_up_o _ _ _ (by omega)])) ?_
      refine a_iconst C dX10_drives_75 ?_
      refine a_isub C dX10_drives_76 ?_
      refine a_iast (o := 43) (N := 4) b C dX10_drives_77 rfl (by omega) (by omega) (by decide) ?_
      obtain ⟨g7, eg7⟩ : ∃ F : Nat → Nat → Int, F = ii_up g6 43 b ((f 43 b) - 1) := ⟨_, rfl⟩
      rw [← eg7]
      refine a_aload_n C dX10_drives_78 rfl ?_
      refine a_get (ci := 11) (i := 8) (v := .ref (ad 48)) C iw_X10 rfl (by decide) rfl fl_X10_31 rfl rfl dX10_drives_79 ?_
      refine a_iload_n C dX10_drives_82 rfl ?_
      refine a_dup2 C dX10_drives_83 rfl rfl ?_
      refine a_iald (o := 48) (N := 4) b C dX10_drives_84 rfl (by omega) (by omega) (by decide) ?_
      refine a_top (w := ii_v (g7 48 b)) rfl ?_
      refine a_top (w := ii_v (f 48 b)) (congrArg (fun q => ii_v q) (show g7 48 b = (f 48 b) by rw [eg7, ii_up_o _ _ _ (by omega), eg6, ii_up_o _ _ _ (by omega)])) ?_
      refine a_iconst C dX10_drives_85 ?_
      refine a_iadd C dX10_drives_86 ?_
      refine a_iast (o := 48) (N := 4) b C dX10_drives_87 rfl (by omega) (by omega) (by decide) ?_
      obtain ⟨g8, eg8⟩ : ∃ F : Nat → Nat → Int, F = ii_up g7 48 b ((f 48 b) + 1) := ⟨_, rfl⟩
      rw [← eg8]
      refine a_aload_n C dX10_drives_88 rfl ?_
      refine a_get (ci := 11) (i := 10) (v := .ref (ad 50)) C iw_X10 rfl (by decide) rfl fl_X10_37 rfl rfl dX10_drives_89 ?_
      refine a_iload_n C dX10_drives_92 rfl ?_
      refine a_dup2 C dX10_drives_93 rfl rfl ?_
      refine a_iald (o := 50) (N := 4) b C dX10_drives_94 rfl (by omega) (by omega) (by decide) ?_
      refine a_top (w := ii_v (g8 50 b)) rfl ?_
      refine a_top (w := ii_v (f 50 b)) (congrArg (fun q => ii_v q) (show g8 50 b = (f 50 b) by rw [eg8, ii_up_o _ _ _ (by omega), eg7, ii_up_o _ _ _ (by omega), eg6, ii_up_o _ _ _ (by omega)])) ?_
      refine a_iload C dX10_drives_95 rfl ?_
      refine a_iadd C dX10_drives_97 ?_
      refine a_iast (o := 50) (N := 4) b C dX10_drives_98 rfl (by omega) (by omega) (by decide) ?_
      obtain ⟨g9, eg9⟩ : ∃ F : Nat → Nat → Int, F = ii_up g8 50 b ((f 50 b) + (ab_n f b n)) := ⟨_, rfl⟩
      rw [← eg9]
      refine a_iload C dX10_drives_99 rfl ?_
      refine a_if_ne (tgt := 114) C dX10_drives_101 rfl (by unfold ii_B; omega) (fun h101 => ?_) (fun h101 => ?_)
      · skip
        refine a_vret C ?_ (by decide) (by decide) dX10_drives_114
        rw [hPost]
        refine ⟨rfl, rfl, rfl, ?_⟩
        subst eg9 eg8 eg7 eg6
        refine congrArg (fun q => (q, w)) ?_
        unfold dm_T dm_1; (first | rw [if_pos (show ab_n f b n = 0 by first | assumption | omega)] | rw [if_neg (show ¬ (ab_n f b n = 0) by first | assumption | omega)]); (first | rw [if_pos (show f 44 b = x by first | assumption | omega)] | rw [if_neg (show ¬ (f 44 b = x) by first | assumption | omega)]); (first | rw [if_pos (show f 45 b < y by omega)] | rw [if_neg (show ¬ f 45 b < y by omega)] | skip); (first | rw [if_pos (show f 44 b < x by omega)] | rw [if_neg (show ¬ f 44 b < x by omega)] | skip)
      · skip
        refine a_aload_n C dX10_drives_104 rfl ?_
        refine a_get (ci := 11) (i := 9) (v := .ref (ad 49)) C iw_X10 rfl (by decide) rfl fl_X10_34 rfl rfl dX10_drives_105 ?_
        refine a_iload_n C dX10_drives_108 rfl ?_
        refine a_dup2 C dX10_drives_109 rfl rfl ?_
        refine a_iald (o := 49) (N := 4) b C dX10_drives_110 rfl (by omega) (by omega) (by decide) ?_
        refine a_top (w := ii_v (g9 49 b)) rfl ?_
        refine a_top (w := ii_v (f 49 b)) (congrArg (fun q => ii_v q) (show g9 49 b = (f 49 b) by rw [eg9, ii_up_o _ _ _ (by omega), eg8, ii_up_o _ _ _ (by omega), eg7, ii_up_o _ _ _ (by omega), eg6, ii_up_o _ _ _ (by omega)])) ?_
        refine a_iconst C dX10_drives_111 ?_
        refine a_iadd C dX10_drives_112 ?_
        refine a_iast (o := 49) (N := 4) b C dX10_drives_113 rfl (by omega) (by omega) (by decide) ?_
        obtain ⟨g10, eg10⟩ : ∃ F : Nat → Nat → Int, F = ii_up g9 49 b ((f 49 b) + 1) := ⟨_, rfl⟩
        rw [← eg10]
        refine a_vret C ?_ (by decide) (by decide) dX10_drives_114
        rw [hPost]
        refine ⟨rfl, rfl, rfl, ?_⟩
        subst eg10 eg9 eg8 eg7 eg6
        refine congrArg (fun q => (q, w)) ?_
        unfold dm_T dm_1; (first | rw [if_pos (show ab_n f b n = 0 by first | assumption | omega)] | rw [if_neg (show ¬ (ab_n f b n = 0) by first | assumption | omega)]); (first | rw [if_pos (show f 44 b = x by first | assumption | omega)] | rw [if_neg (show ¬ (f 44 b = x) by first | assumption | omega)]); (first | rw [if_pos (show f 45 b < y by omega)] | rw [if_neg (show ¬ f 45 b < y by omega)] | skip); (first | rw [if_pos (show f 44 b < x by omega)] | rw [if_neg (show ¬ f 44 b < x by omega)] | skip)
  · skip
    refine a_aload_n C dX10_drives_10 rfl ?_
    refine a_get (ci := 11) (i := 4) (v := .ref (ad 44)) C iw_X10 rfl (by decide) rfl fl_X10_19 rfl rfl dX10_drives_11 ?_
    refine a_iload_n C dX10_drives_14 rfl ?_
    refine a_dup2 C dX10_drives_15 rfl rfl ?_
    refine a_iald (o := 44) (N := 4) b C dX10_drives_16 rfl (by omega) (by omega) (by decide) ?_
    refine a_top (w := ii_v (f 44 b)) rfl ?_
    refine a_aload_n C dX10_drives_17 rfl ?_
    refine a_get (ci := 11) (i := 4) (v := .ref (ad 44)) C iw_X10 rfl (by decide) rfl fl_X10_19 rfl rfl dX10_drives_18 ?_
    refine a_iload_n C dX10_drives_21 rfl ?_
    refine a_iald (o := 44) (N := 4) b C dX10_drives_22 rfl (by omega) (by omega) (by decide) ?_
    refine a_top (w := ii_v (f 44 b)) rfl ?_
    refine a_iload_n C dX10_drives_23 rfl ?_
    refine a_icmp_ge (tgt := 31) C dX10_drives_24 rfl (by unfold ii_B; omega) (by unfold ii_B; omega) (fun h24 => ?_) (fun h24 => ?_)
    · skip
      refine a_iconst C dX10_drives_31 ?_
      refine a_iadd C dX10_drives_32 ?_
      refine a_iast (o := 44) (N := 4) b C dX10_drives_33 rfl (by omega) (by omega) (by decide) ?_
      obtain ⟨g11, eg11⟩ : ∃ F : Nat → Nat → Int, F = ii_up f 44 b ((f 44 b) + (-1)) := ⟨_, rfl⟩
      rw [← eg11]
      refine a_goto (tgt := 61) C dX10_drives_34 rfl ?_
      refine a_aload_n C dX10_drives_61 rfl ?_
      refine a_iload_n C dX10_drives_62 rfl ?_
      refine a_callV (o := 40) (As := [ii_v ((b : Nat) : Int)]) C (m_aboard hl g11 w b hb n (by rw [eg11, ii_up_o _ _ _ (by decide)]; exact hn) hn30 (fun r hr => by rw [eg11, ii_up_o _ _ _ (by decide), ii_up_o _ _ _ (by decide), ii_up_o _ _ _ (by decide)]; exact hrid r hr)) co_X10_aboard in_X10 ml_X10_163 im_X10_aboard se_X10_aboard rfl rfl ar_X10_aboard ⟨by decide, by decide, by decide, by decide⟩ rfl (Nat.le_of_ble_eq_true rfl) dX10_drives_63 (a_dR ?_) a_nR
      rw [ab_same (f := f) (g := g11) (by rw [eg11]; exact ii_up_row _ _ (by decide)) (by rw [eg11]; exact ii_up_row _ _ (by decide)) (by rw [eg11]; exact ii_up_row _ _ (by decide)) b n]
      have hab := ab_b (b := b) hrid n (Nat.le_refl _)
      refine a_istore (L' := [(0, .ref (ad 40)), (1, ii_v ((b : Nat) : Int)), (2, ii_v x), (3, ii_v y), (4, ii_v (ab_n f b n))]) C dX10_drives_66 (by decide) rfl ?_
      refine a_aload_n C dX10_drives_68 rfl ?_
      refine a_get (ci := 11) (i := 3) (v := .ref (ad 43)) C iw_X10 rfl (by decide) rfl fl_X10_16 rfl rfl dX10_drives_69 ?_
      refine a_iload_n C dX10_drives_72 rfl ?_
      refine a_dup2 C dX10_drives_73 rfl rfl ?_
      refine a_iald (o := 43) (N := 4) b C dX10_drives_74 rfl (by omega) (by omega) (by decide) ?_
      refine a_top (w := ii_v (g11 43 b)) rfl ?_
      refine a_top (w := ii_v (f 43 b)) (congrArg (fun q => ii_v q) (show g11 43 b = (f 43 b) by rw [eg11, ii_up_o _ _ _ (by omega)])) ?_
      refine a_iconst C dX10_drives_75 ?_
      refine a_isub C dX10_drives_76 ?_
      refine a_iast (o := 43) (N := 4) b C dX10_drives_77 rfl (by omega) (by omega) (by decide) ?_
      obtain ⟨g12, eg12⟩ : ∃ F : Nat → Nat → Int, F = ii_up g11 43 b ((f 43 b) - 1) := ⟨_, rfl⟩
      rw [← eg12]
      refine a_aload_n C dX10_drives_78 rfl ?_
      refine a_get (ci := 11) (i := 8) (v := .ref (ad 48)) C iw_X10 rfl (by decide) rfl fl_X10_31 rfl rfl dX10_drives_79 ?_
      refine a_iload_n C dX10_drives_82 rfl ?_
      refine a_dup2 C dX10_drives_83 rfl rfl ?_
      refine a_iald (o := 48) (N := 4) b C dX10_drives_84 rfl (by omega) (by omega) (by decide) ?_
      refine a_top (w := ii_v (g12 48 b)) rfl ?_
      refine a_top (w := ii_v (f 48 b)) (congrArg (fun q => ii_v q) (show g12 48 b = (f 48 b) by rw [eg12, ii_up_o _ _ _ (by omega), eg11, ii_up_o _ _ _ (by omega)])) ?_
      refine a_iconst C dX10_drives_85 ?_
      refine a_iadd C dX10_drives_86 ?_
      refine a_iast (o := 48) (N := 4) b C dX10_drives_87 rfl (by omega) (by omega) (by decide) ?_
      obtain ⟨g13, eg13⟩ : ∃ F : Nat → Nat → Int, F = ii_up g12 48 b ((f 48 b) + 1) := ⟨_, rfl⟩
      rw [← eg13]
      refine a_aload_n C dX10_drives_88 rfl ?_
      refine a_get (ci := 11) (i := 10) (v := .ref (ad 50)) C iw_X10 rfl (by decide) rfl fl_X10_37 rfl rfl dX10_drives_89 ?_
      refine a_iload_n C dX10_drives_92 rfl ?_
      refine a_dup2 C dX10_drives_93 rfl rfl ?_
      refine a_iald (o := 50) (N := 4) b C dX10_drives_94 rfl (by omega) (by omega) (by decide) ?_
      refine a_top (w := ii_v (g13 50 b)) rfl ?_
      refine a_top (w := ii_v (f 50 b)) (congrArg (fun q => ii_v q) (show g13 50 b = (f 50 b) by rw [eg13, ii_up_o _ _ _ (by omega), eg12, ii_up_o _ _ _ (by omega), eg11, ii_up_o _ _ _ (by omega)])) ?_
      refine a_iload C dX10_drives_95 rfl ?_
      refine a_iadd C dX10_drives_97 ?_
      refine a_iast (o := 50) (N := 4) b C dX10_drives_98 rfl (by omega) (by omega) (by decide) ?_
      obtain ⟨g14, eg14⟩ : ∃ F : Nat → Nat → Int, F = ii_up g13 50 b ((f 50 b) + (ab_n f b n)) := ⟨_, rfl⟩
      rw [← eg14]
      refine a_iload C dX10_drives_99 rfl ?_
      refine a_if_ne (tgt := 114) C dX10_drives_101 rfl (by unfold ii_B; omega) (fun h101 => ?_) (fun h101 => ?_)
      · skip
        refine a_vret C ?_ (by decide) (by decide) dX10_drives_114
        rw [hPost]
        refine ⟨rfl, rfl, rfl, ?_⟩
        subst eg14 eg13 eg12 eg11
        refine congrArg (fun q => (q, w)) ?_
        unfold dm_T dm_1; (first | rw [if_pos (show ab_n f b n = 0 by first | assumption | omega)] | rw [if_neg (show ¬ (ab_n f b n = 0) by first | assumption | omega)]); (first | rw [if_pos (show f 44 b = x by first | assumption | omega)] | rw [if_neg (show ¬ (f 44 b = x) by first | assumption | omega)]); (first | rw [if_pos (show f 45 b < y by omega)] | rw [if_neg (show ¬ f 45 b < y by omega)] | skip); (first | rw [if_pos (show f 44 b < x by omega)] | rw [if_neg (show ¬ f 44 b < x by omega)] | skip)
      · skip
        refine a_aload_n C dX10_drives_104 rfl ?_
        refine a_get (ci := 11) (i := 9) (v := .ref (ad 49)) C iw_X10 rfl (by decide) rfl fl_X10_34 rfl rfl dX10_drives_105 ?_
        refine a_iload_n C dX10_drives_108 rfl ?_
        refine a_dup2 C dX10_drives_109 rfl rfl ?_
        refine a_iald (o := 49) (N := 4) b C dX10_drives_110 rfl (by omega) (by omega) (by decide) ?_
        refine a_top (w := ii_v (g14 49 b)) rfl ?_
        refine a_top (w := ii_v (f 49 b)) (congrArg (fun q => ii_v q) (show g14 49 b = (f 49 b) by rw [eg14, ii_up_o _ _ _ (by omega), eg13, ii_up_o _ _ _ (by omega), eg12, ii_up_o _ _ _ (by omega), eg11, ii_up_o _ _ _ (by omega)])) ?_
        refine a_iconst C dX10_drives_111 ?_
        refine a_iadd C dX10_drives_112 ?_
        refine a_iast (o := 49) (N := 4) b C dX10_drives_113 rfl (by omega) (by omega) (by decide) ?_
        obtain ⟨g15, eg15⟩ : ∃ F : Nat → Nat → Int, F = ii_up g14 49 b ((f 49 b) + 1) := ⟨_, rfl⟩
        rw [← eg15]
        refine a_vret C ?_ (by decide) (by decide) dX10_drives_114
        rw [hPost]
        refine ⟨rfl, rfl, rfl, ?_⟩
        subst eg15 eg14 eg13 eg12 eg11
        refine congrArg (fun q => (q, w)) ?_
        unfold dm_T dm_1; (first | rw [if_pos (show ab_n f b n = 0 by first | assumption | omega)] | rw [if_neg (show ¬ (ab_n f b n = 0) by first | assumption | omega)]); (first | rw [if_pos (show f 44 b = x by first | assumption | omega)] | rw [if_neg (show ¬ (f 44 b = x) by first | assumption | omega)]); (first | rw [if_pos (show f 45 b < y by omega)] | rw [if_neg (show ¬ f 45 b < y by omega)] | skip); (first | rw [if_pos (show f 44 b < x by omega)] | rw [if_neg (show ¬ f 44 b < x by omega)] | skip)
    · skip
      refine a_iconst C dX10_drives_27 ?_
      refine a_goto (tgt := 32) C dX10_drives_28 rfl ?_
      refine a_iadd C dX10_drives_32 ?_
      refine a_iast (o := 44) (N := 4) b C dX10_drives_33 rfl (by omega) (by omega) (by decide) ?_
      obtain ⟨g16, eg16⟩ : ∃ F : Nat → Nat → Int, F = ii_up f 44 b ((f 44 b) + 1) := ⟨_, rfl⟩
      rw [← eg16]
      refine a_goto (tgt := 61) C dX10_drives_34 rfl ?_
      refine a_aload_n C dX10_drives_61 rfl ?_
      refine a_iload_n C dX10_drives_62 rfl ?_
      refine a_callV (o := 40) (As := [ii_v ((b : Nat) : Int)]) C (m_aboard hl g16 w b hb n (by rw [eg16, ii_up_o _ _ _ (by decide)]; exact hn) hn30 (fun r hr => by rw [eg16, ii_up_o _ _ _ (by decide), ii_up_o _ _ _ (by decide), ii_up_o _ _ _ (by decide)]; exact hrid r hr)) co_X10_aboard in_X10 ml_X10_163 im_X10_aboard se_X10_aboard rfl rfl ar_X10_aboard ⟨by decide, by decide, by decide, by decide⟩ rfl (Nat.le_of_ble_eq_true rfl) dX10_drives_63 (a_dR ?_) a_nR
      rw [ab_same (f := f) (g := g16) (by rw [eg16]; exact ii_up_row _ _ (by decide)) (by rw [eg16]; exact ii_up_row _ _ (by decide)) (by rw [eg16]; exact ii_up_row _ _ (by decide)) b n]
      have hab := ab_b (b := b) hrid n (Nat.le_refl _)
      refine a_istore (L' := [(0, .ref (ad 40)), (1, ii_v ((b : Nat) : Int)), (2, ii_v x), (3, ii_v y), (4, ii_v (ab_n f b n))]) C dX10_drives_66 (by decide) rfl ?_
      refine a_aload_n C dX10_drives_68 rfl ?_
      refine a_get (ci := 11) (i := 3) (v := .ref (ad 43)) C iw_X10 rfl (by decide) rfl fl_X10_16 rfl rfl dX10_drives_69 ?_
      refine a_iload_n C dX10_drives_72 rfl ?_
      refine a_dup2 C dX10_drives_73 rfl rfl ?_
      refine a_iald (o := 43) (N := 4) b C dX10_drives_74 rfl (by omega) (by omega) (by decide) ?_
      refine a_top (w := ii_v (g16 43 b)) rfl ?_
      refine a_top (w := ii_v (f 43 b)) (congrArg (fun q => ii_v q) (show g16 43 b = (f 43 b) by rw [eg16, ii_up_o _ _ _ (by omega)])) ?_
      refine a_iconst C dX10_drives_75 ?_
      refine a_isub C dX10_drives_76 ?_
      refine a_iast (o := 43) (N := 4) b C dX10_drives_77 rfl (by omega) (by omega) (by decide) ?_
      obtain ⟨g17, eg17⟩ : ∃ F : Nat → Nat → Int, F = ii_up g16 43 b ((f 43 b) - 1) := ⟨_, rfl⟩
      rw [← eg17]
      refine a_aload_n C dX10_drives_78 rfl ?_
      refine a_get (ci := 11) (i := 8) (v := .ref (ad 48)) C iw_X10 rfl (by decide) rfl fl_X10_31 rfl rfl dX10_drives_79 ?_
      refine a_iload_n C dX10_drives_82 rfl ?_
      refine a_dup2 C dX10_drives_83 rfl rfl ?_
      refine a_iald (o := 48) (N := 4) b C dX10_drives_84 rfl (by omega) (by omega) (by decide) ?_
      refine a_top (w := ii_v (g17 48 b)) rfl ?_
      refine a_top (w := ii_v (f 48 b)) (congrArg (fun q => ii_v q) (show g17 48 b = (f 48 b) by rw [eg17, ii_up_o _ _ _ (by omega), eg16, ii_up_o _ _ _ (by omega)])) ?_
      refine a_iconst C dX10_drives_85 ?_
      refine a_iadd C dX10_drives_86 ?_
      refine a_iast (o := 48) (N := 4) b C dX10_drives_87 rfl (by omega) (by omega) (by decide) ?_
      obtain ⟨g18, eg18⟩ : ∃ F : Nat → Nat → Int, F = ii_up g17 48 b ((f 48 b) + 1) := ⟨_, rfl⟩
      rw [← eg18]
      refine a_aload_n C dX10_drives_88 rfl ?_
      refine a_get (ci := 11) (i := 10) (v := .ref (ad 50)) C iw_X10 rfl (by decide) rfl fl_X10_37 rfl rfl dX10_drives_89 ?_
      refine a_iload_n C dX10_drives_92 rfl ?_
      refine a_dup2 C dX10_drives_93 rfl rfl ?_
      refine a_iald (o := 50) (N := 4) b C dX10_drives_94 rfl (by omega) (by omega) (by decide) ?_
      refine a_top (w := ii_v (g18 50 b)) rfl ?_
      refine a_top (w := ii_v (f 50 b)) (congrArg (fun q => ii_v q) (show g18 50 b = (f 50 b) by rw [eg18, ii_up_o _ _ _ (by omega), eg17, ii_up_o _ _ _ (by omega), eg16, ii_up_o _ _ _ (by omega)])) ?_
      refine a_iload C dX10_drives_95 rfl ?_
      refine a_iadd C dX10_drives_97 ?_
      refine a_iast (o := 50) (N := 4) b C dX10_drives_98 rfl (by omega) (by omega) (by decide) ?_
      obtain ⟨g19, eg19⟩ : ∃ F : Nat → Nat → Int, F = ii_up g18 50 b ((f 50 b) + (ab_n f b n)) := ⟨_, rfl⟩
      rw [← eg19]
      refine a_iload C dX10_drives_99 rfl ?_
      refine a_if_ne (tgt := 114) C dX10_drives_101 rfl (by unfold ii_B; omega) (fun h101 => ?_) (fun h101 => ?_)
      · skip
        refine a_vret C ?_ (by decide) (by decide) dX10_drives_114
        rw [hPost]
        refine ⟨rfl, rfl, rfl, ?_⟩
        subst eg19 eg18 eg17 eg16
        refine congrArg (fun q => (q, w)) ?_
        unfold dm_T dm_1; (first | rw [if_pos (show ab_n f b n = 0 by first | assumption | omega)] | rw [if_neg (show ¬ (ab_n f b n = 0) by first | assumption | omega)]); (first | rw [if_pos (show f 44 b = x by first | assumption | omega)] | rw [if_neg (show ¬ (f 44 b = x) by first | assumption | omega)]); (first | rw [if_pos (show f 45 b < y by omega)] | rw [if_neg (show ¬ f 45 b < y by omega)] | skip); (first | rw [if_pos (show f 44 b < x by omega)] | rw [if_neg (show ¬ f 44 b < x by omega)] | skip)
      · skip
        refine a_aload_n C dX10_drives_104 rfl ?_
        refine a_get (ci := 11) (i := 9) (v := .ref (ad 49)) C iw_X10 rfl (by decide) rfl fl_X10_34 rfl rfl dX10_drives_105 ?_
        refine a_iload_n C dX10_drives_108 rfl ?_
        refine a_dup2 C dX10_drives_109 rfl rfl ?_
        refine a_iald (o := 49) (N := 4) b C dX10_drives_110 rfl (by omega) (by omega) (by decide) ?_
        refine a_top (w := ii_v (g19 49 b)) rfl ?_
        refine a_top (w := ii_v (f 49 b)) (congrArg (fun q => ii_v q) (show g19 49 b = (f 49 b) by rw [eg19, ii_up_o _ _ _ (by omega), eg18, ii_up_o _ _ _ (by omega), eg17, ii_up_o _ _ _ (by omega), eg16, ii_up_o _ _ _ (by omega)])) ?_
        refine a_iconst C dX10_drives_111 ?_
        refine a_iadd C dX10_drives_112 ?_
        refine a_iast (o := 49) (N := 4) b C dX10_drives_113 rfl (by omega) (by omega) (by decide) ?_
        obtain ⟨g20, eg20⟩ : ∃ F : Nat → Nat → Int, F = ii_up g19 49 b ((f 49 b) + 1) := ⟨_, rfl⟩
        rw [← eg20]
        refine a_vret C ?_ (by decide) (by decide) dX10_drives_114
        rw [hPost]
        refine ⟨rfl, rfl, rfl, ?_⟩
        subst eg20 eg19 eg18 eg17 eg16
        refine congrArg (fun q => (q, w)) ?_
        unfold dm_T dm_1; (first | rw [if_pos (show ab_n f b n = 0 by first | assumption | omega)] | rw [if_neg (show ¬ (ab_n f b n = 0) by first | assumption | omega)]); (first | rw [if_pos (show f 44 b = x by first | assumption | omega)] | rw [if_neg (show ¬ (f 44 b = x) by first | assumption | omega)]); (first | rw [if_pos (show f 45 b < y by omega)] | rw [if_neg (show ¬ f 45 b < y by omega)] | skip); (first | rw [if_pos (show f 44 b < x by omega)] | rw [if_neg (show ¬ f 44 b < x by omega)] | skip)
