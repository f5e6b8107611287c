/-! The model: worstRide. -/
def wrm_f (f : Nat → Nat → Int) : Nat → Int
  | 0 => -1
  | k + 1 => if f 63 k = 100 then max (wrm_f f k) (f 62 k - f 61 k - pd_d (f 53 k) (f 54 k) (f 55 k) (f 56 k)) else wrm_f f k
section WRM
variable {f : Nat → Nat → Int} {k n : Nat}
theorem wrm_y (h : f 63 k = 100) : wrm_f f (k + 1) = max (wrm_f f k) (f 62 k - f 61 k - pd_d (f 53 k) (f 54 k) (f 55 k) (f 56 k)) := if_pos h
theorem wrm_n (h : ¬ f 63 k = 100) : wrm_f f (k + 1) = wrm_f f k := if_neg h
theorem wrm_b (h : ∀ k, k < n → st_ok (f 63 k) ∧ (0 ≤ f 62 k ∧ f 62 k ≤ 100000) ∧ (0 ≤ f 61 k ∧ f 61 k ≤ 100000) ∧ (0 ≤ f 53 k ∧ f 53 k ≤ 20) ∧ (0 ≤ f 54 k ∧ f 54 k ≤ 20) ∧ (0 ≤ f 55 k ∧ f 55 k ≤ 20) ∧ 0 ≤ f 56 k ∧ f 56 k ≤ 20) : ∀ k, k ≤ n → -1 ≤ wrm_f f k ∧ wrm_f f k ≤ 100000
  | 0, _ => by
    unfold wrm_f
    omega
  | k + 1, hk => by
    have h1 := wrm_b h k (by omega)
    have h2 := h k (by omega)
    have h3 := pd_b h2.2.2.2.1 h2.2.2.2.2.1 h2.2.2.2.2.2.1 h2.2.2.2.2.2.2
    rw [wrm_f]
    split
    · omega
    · exact h1
end WRM
set_option maxRecDepth 20000 in
set_option maxHeartbeats 2000000 in
theorem m_worstRide {l : Launch} {E : ab_E} {base : Nat} (hl : l.stackTraces = false) {ad : Nat → Nat} (f : Nat → Nat → Int) (w : Nat × Nat × Int64 × UInt64) (n : Nat) (hn : f 40 30 = (n : Int)) (hn30 : n ≤ 30) (hwr : ∀ k, k < n → st_ok (f 63 k) ∧ (0 ≤ f 62 k ∧ f 62 k ≤ 100000) ∧ (0 ≤ f 61 k ∧ f 61 k ≤ 100000) ∧ (0 ≤ f 53 k ∧ f 53 k ≤ 20) ∧ (0 ≤ f 54 k ∧ f 54 k ≤ 20) ∧ (0 ≤ f 55 k ∧ f 55 k ≤ 20) ∧ 0 ≤ f 56 k ∧ f 56 k ≤ 20) (h : 0 ≤ wrm_f f n) : ab_M l E base yX10_worstRide cX10_worstRide 3 (some .int) 3 0 0 [.ref (ad 40)] ab_x4 ad (f, w) (ab_R (ii_v (wrm_f f n)) ab_x4 ad (ii_up f 40 0 0, w)) := by
  obtain ⟨Post, hPost⟩ : ∃ P : ab_P, P = (ab_R (ii_v (wrm_f f n)) ab_x4 ad (ii_up f 40 0 0, w)) := ⟨_, rfl⟩
  rw [← hPost]
  refine ab_of RX10 [(0, .ref (ad 40))] hl (by decide) rfl (Nat.le_of_ble_eq_true rfl) rfl ?_
  intro p e s m args below meth c C T0 hnm
  refine a_aload_n C dX10_worstRide_0 rfl ?_
  refine a_iconst C dX10_worstRide_1 ?_
  refine a_put (ci := 11) (i := 0) C iw_X10 rfl (by decide) rfl tyX10 tyX10_ok nmX10 rfl rfl fl_X10_114 rfl rfl rfl rfl dX10_worstRide_2 ?_
  obtain ⟨g1, eg1⟩ : ∃ F : Nat → Nat → Int, F = ii_up f 40 0 0 := ⟨_, rfl⟩
  rw [← eg1]
  refine a_iconst C dX10_worstRide_5 ?_
  refine a_istore_n (L' := [(0, .ref (ad 40)), (1, ii_v (-1))]) C dX10_worstRide_6 (by decide) rfl ?_
  refine a_iconst C dX10_worstRide_7 ?_
  refine a_istore_n (L' := [(0, .ref (ad 40)), (1, ii_v (-1)), (2, ii_v 0)]) C dX10_worstRide_8 (by decide) rfl ?_
  have loop9 : ∀ (NN9 : Nat) (k : Nat), n - k < NN9 → (k ≤ n) → ab_W p l e (ab_rm 3 0 0) s m args below meth c E base 3 (ab_Q below E base Post args s 0 0) ab_x4 ad (g1, w) 0 0 9 [(0, .ref (ad 40)), (1, ii_v (wrm_f f k)), (2, ii_v ((k : Nat) : Int))] [] := by
    intro NN9
    induction NN9 with
    | zero => intro k hNN; exact absurd hNN (Nat.not_lt_zero _)
    | succ NN9 ih9 =>
      intro k hNN hk
      refine a_iload_n C dX10_worstRide_9 rfl ?_
      refine a_aload_n C dX10_worstRide_10 rfl ?_
      refine a_get (ci := 11) (i := 30) (v := ii_v (g1 40 30)) C iw_X10 rfl (by decide) rfl fl_X10_124 rfl rfl dX10_worstRide_11 ?_
      refine a_top (w := ii_v (f 40 30)) (congrArg (fun q => ii_v q) (show g1 40 30 = (f 40 30) by rw [eg1, ii_up_k _ _ (by first | decide | omega)])) ?_
      refine a_top (w := ii_v ((n : Nat) : Int)) (congrArg (fun q => ii_v q) hn) ?_
      refine a_icmp_ge (tgt := 80) C dX10_worstRide_14 rfl (by unfold ii_B; omega) (by unfold ii_B; omega) (fun h14 => ?_) (fun h14 => ?_)
      · skip
        have hke : n = k := by omega
        have w10 := wrm_b hwr k (by omega)
        refine a_iload_n C dX10_worstRide_80 rfl ?_
        refine a_if_ge (tgt := 92) C dX10_worstRide_81 rfl (by unfold ii_B; omega) (fun h81 => ?_) (fun h81 => ?_)
        · skip
          refine a_iload_n C dX10_worstRide_92 rfl ?_
          refine a_iret C ?_ (by decide) (by decide) dX10_worstRide_93
          rw [hPost]
          rw [hke]
          subst eg1
          exact ⟨rfl, rfl, rfl, by first | rfl | rw [ii_up_up]⟩
        · skip
          exact absurd (hke ▸ h) h81
      · skip
        obtain ⟨w1, w2, w3, w4, w5, w6, w7⟩ := hwr k (by omega)
        have w8 := st_b w1
        have w9 := pd_b w4 w5 w6 w7
        have w10 := wrm_b hwr k (by omega)
        refine a_aload_n C dX10_worstRide_17 rfl ?_
        refine a_get (ci := 11) (i := 23) (v := .ref (ad 63)) C iw_X10 rfl (by decide) rfl fl_X10_76 rfl rfl dX10_worstRide_18 ?_
        refine a_iload_n C dX10_worstRide_21 rfl ?_
        refine a_cald (o := 63) (N := 31) k C dX10_worstRide_22 rfl (by omega) (by omega) (by decide) ?_
        refine a_top (w := ii_v (g1 63 k)) rfl ?_
        refine a_top (w := ii_v (f 63 k)) (congrArg (fun q => ii_v q) (show g1 63 k = (f 63 k) by rw [eg1, ii_up_o _ _ _ (by omega)])) ?_
        refine a_bipush C dX10_worstRide_23 (by decide) ?_
        refine a_icmp_ne (tgt := 74) C dX10_worstRide_25 rfl (by unfold ii_B; omega) (by unfold ii_B; omega) (fun h25 => ?_) (fun h25 => ?_)
        · skip
          rw [← wrm_n (f := f) (k := k) h25]
          refine a_iinc (L' := [(0, .ref (ad 40)), (1, ii_v (wrm_f f (k + 1))), (2, ii_v (((k : Nat) : Int) + 1))]) C dX10_worstRide_74 rfl (by decide) rfl ?_
          refine a_goto (tgt := 9) C dX10_worstRide_77 rfl ?_
          exact ih9 (k + 1) (by omega) (by omega)
        · skip
          refine a_iload_n C dX10_worstRide_28 rfl ?_
          refine a_aload_n C dX10_worstRide_29 rfl ?_
          refine a_get (ci := 11) (i := 22) (v := .ref (ad 62)) C iw_X10 rfl (by decide) rfl fl_X10_73 rfl rfl dX10_worstRide_30 ?_
          refine a_iload_n C dX10_worstRide_33 rfl ?_
          refine a_iald (o := 62) (N := 31) k C dX10_worstRide_34 rfl (by omega) (by omega) (by decide) ?_
          refine a_top (w := ii_v (g1 62 k)) rfl ?_
          refine a_top (w := ii_v (f 62 k)) (congrArg (fun q => ii_v q) (show g1 62 k = (f 62 k) by rw [eg1, ii_up_o _ _ _ (by omega)])) ?_
          refine a_aload_n C dX10_worstRide_35 rfl ?_
          refine a_get (ci := 11) (i := 21) (v := .ref (ad 61)) C iw_X10 rfl (by decide) rfl fl_X10_70 rfl rfl dX10_worstRide_36 ?_
          refine a_iload_n C dX10_worstRide_39 rfl ?_
          refine a_iald (o := 61) (N := 31) k C dX10_worstRide_40 rfl (by omega) (by omega) (by decide) ?_
          refine a_top (w := ii_v (g1 61 k)) rfl ?_
          refine a_top (w := ii_v (f 61 k)) (congrArg (fun q => ii_v q) (show g1 61 k = (f 61 k) by rw [eg1, ii_up_o _ _ _ (by omega)])) ?_
          refine a_isub C dX10_worstRide_41 ?_
          refine a_aload_n C dX10_worstRide_42 rfl ?_
          refine a_get (ci := 11) (i := 13) (v := .ref (ad 53)) C iw_X10 rfl (by decide) rfl fl_X10_46 rfl rfl dX10_worstRide_43 ?_
          refine a_iload_n C dX10_worstRide_46 rfl ?_
          refine a_iald (o := 53) (N := 31) k C dX10_worstRide_47 rfl (by omega) (by omega) (by decide) ?_
          refine a_top (w := ii_v (g1 53 k)) rfl ?_
          refine a_top (w := ii_v (f 53 k)) (congrArg (fun q => ii_v q) (show g1 53 k = (f 53 k) by rw [eg1, ii_up_o _ _ _ (by omega)])) ?_
          refine a_aload_n C dX10_worstRide_48 rfl ?_
          refine a_get (ci := 11) (i := 14) (v := .ref (ad 54)) C iw_X10 rfl (by decide) rfl fl_X10_49 rfl rfl dX10_worstRide_49 ?_
          refine a_iload_n C dX10_worstRide_52 rfl ?_
          refine a_iald (o := 54) (N := 31) k C dX10_worstRide_53 rfl (by omega) (by omega) (by decide) ?_
          refine a_top (w := ii_v (g1 54 k)) rfl ?_
          refine a_top (w := ii_v (f 54 k)) (congrArg (fun q => ii_v q) (show g1 54 k = (f 54 k) by rw [eg1, ii_up_o _ _ _ (by omega)])) ?_
          refine a_aload_n C dX10_worstRide_54 rfl ?_
          refine a_get (ci := 11) (i := 15) (v := .ref (ad 55)) C iw_X10 rfl (by decide) rfl fl_X10_52 rfl rfl dX10_worstRide_55 ?_
          refine a_iload_n C dX10_worstRide_58 rfl ?_
          refine a_iald (o := 55) (N := 31) k C dX10_worstRide_59 rfl (by omega) (by omega) (by decide) ?_
          refine a_top (w := ii_v (g1 55 k)) rfl ?_
          refine a_top (w := ii_v (f 55 k)) (congrArg (fun q => ii_v q) (show g1 55 k = (f 55 k) by rw [eg1, ii_up_o _ _ _ (by omega)])) ?_
          refine a_aload_n C dX10_worstRide_60 rfl ?_
          refine a_get (ci := 11) (i := 16) (v := .ref (ad 56)) C iw_X10 rfl (by decide) rfl fl_X10_55 rfl rfl dX10_worstRide_61 ?_
          refine a_iload_n C dX10_worstRide_64 rfl ?_
          refine a_iald (o := 56) (N := 31) k C dX10_worstRide_65 rfl (by omega) (by omega) (by decide) ?_
          refine a_top (w := ii_v (g1 56 k)) rfl ?_
          refine a_top (w := ii_v (f 56 k)) (congrArg (fun q => ii_v q) (show g1 56 k = (f 56 k) by rw [eg1, ii_up_o _ _ _ (by omega)])) ?_
          refine a_callS (As := [ii_v (f 53 k), ii_v (f 54 k), ii_v (f 55 k), ii_v (f 56 k)]) C (m_distance hl g1 w (f 53 k) (f 54 k) (f 55 k) (f 56 k) (by omega) (by omega) (by omega) (by omega)) co_X10_distance in_X10 ml_X10_153 sc_X10_distance ar_X10_distance ⟨by decide, by decide, by decide, by decide⟩ rfl (Nat.le_of_ble_eq_true rfl) dX10_worstRide_66 (a_dR ?_) a_nR
          refine a_isub C dX10_worstRide_69 ?_
          refine a_max C ml_X10_189 dX10_worstRide_70 (by decide) (Nat.le_of_ble_eq_true rfl) (by decide) (by unfold ii_B; omega) (by unfold ii_B; omega) ?_
          refine a_istore_n (L' := [(0, .ref (ad 40)), (1, ii_v (max (wrm_f f k) (((f 62 k) - (f 61 k)) - (pd_d (f 53 k) (f 54 k) (f 55 k) (f 56 k))))), (2, ii_v ((k : Nat) : Int))]) C dX10_worstRide_73 (by decide) rfl ?_
          rw [← wrm_y (f := f) (k := k) (by omega)]
          refine a_iinc (L' := [(0, .ref (ad 40)), (1, ii_v (wrm_f f (k + 1))), (2, ii_v (((k : Nat) : Int) + 1))]) C dX10_worstRide_74 rfl (by decide) rfl ?_
          refine a_goto (tgt := 9) C dX10_worstRide_77 rfl ?_
          exact ih9 (k + 1) (by omega) (by omega)
  exact loop9 (_ + 1) 0 (Nat.lt_succ_self _) (Nat.zero_le _)
set_option maxRecDepth 20000 in
set_option maxHeartbeats 2000000 in
theorem n_worstRide {l : Launch} {E : ab_E} {base : Nat} (hl : l.stackTraces = false) {ad : Nat → Nat} (f : Nat → Nat → Int) (w : Nat × Nat × Int64 × UInt64) (n : Nat) (hn : f 40 30 = (n : Int)) (hn30 : n ≤ 30) (hwr : ∀ k, k < n → st_ok (f 63 k) ∧ (0 ≤ f 62 k ∧ f 62 k ≤ 100000) ∧ (0 ≤ f 61 k ∧ f 61 k ≤ 100000) ∧ (0 ≤ f 53 k ∧ f 53 k ≤ 20) ∧ (0 ≤ f 54 k ∧ f 54 k ≤ 20) ∧ (0 ≤ f 55 k ∧ f 55 k ≤ 20) ∧ 0 ≤ f 56 k ∧ f 56 k ≤ 20) (h : wrm_f f n < 0) : ab_M l E base yX10_worstRide cX10_worstRide 3 (some .int) 3 0 0 [.ref (ad 40)] ab_x4 ad (f, w) (ab_R (ii_v (0)) ab_x4 ad (ii_up f 40 0 1, w)) := by
  obtain ⟨Post, hPost⟩ : ∃ P : ab_P, P = (ab_R (ii_v (0)) ab_x4 ad (ii_up f 40 0 1, w)) := ⟨_, rfl⟩
  rw [← hPost]
  refine ab_of RX10 [(0, .ref (ad 40))] hl (by decide) rfl (Nat.le_of_ble_eq_true rfl) rfl ?_
  intro p e s m args below meth c C T0 hnm
  refine a_aload_n C dX10_worstRide_0 rfl ?_
  refine a_iconst C dX10_worstRide_1 ?_
  refine a_put (ci := 11) (i := 0) C iw_X10 rfl (by decide) rfl tyX10 tyX10_ok nmX10 rfl rfl fl_X10_114 rfl rfl rfl rfl dX10_worstRide_2 ?_
  obtain ⟨g1, eg1⟩ : ∃ F : Nat → Nat → Int, F = ii_up f 40 0 0 := ⟨_, rfl⟩
  rw [← eg1]
  refine a_iconst C dX10_worstRide_5 ?_
  refine a_istore_n (L' := [(0, .ref (ad 40)), (1, ii_v (-1))]) C dX10_worstRide_6 (by decide) rfl ?_
  refine a_iconst C dX10_worstRide_7 ?_
  refine a_istore_n (L' := [(0, .ref (ad 40)), (1, ii_v (-1)), (2, ii_v 0)]) C dX10_worstRide_8 (by decide) rfl ?_
  have loop9 : ∀ (NN9 : Nat) (k : Nat), n - k < NN9 → (k ≤ n) → ab_W p l e (ab_rm 3 0 0) s m args below meth c E base 3 (ab_Q below E base Post args s 0 0) ab_x4 ad (g1, w) 0 0 9 [(0, .ref (ad 40)), (1, ii_v (wrm_f f k)), (2, ii_v ((k : Nat) : Int))] [] := by
    intro NN9
    induction NN9 with
    | zero => intro k hNN; exact absurd hNN (Nat.not_lt_zero _)
    | succ NN9 ih9 =>
      intro k hNN hk
      refine a_iload_n C dX10_worstRide_9 rfl ?_
      refine a_aload_n C dX10_worstRide_10 rfl ?_
      refine a_get (ci := 11) (i := 30) (v := ii_v (g1 40 30)) C iw_X10 rfl (by decide) rfl fl_X10_124 rfl rfl dX10_worstRide_11 ?_
      refine a_top (w := ii_v (f 40 30)) (congrArg (fun q => ii_v q) (show g1 40 30 = (f 40 30) by rw [eg1, ii_up_k _ _ (by first | decide | omega)])) ?_
      refine a_top (w := ii_v ((n : Nat) : Int)) (congrArg (fun q => ii_v q) hn) ?_
      refine a_icmp_ge (tgt := 80) C dX10_worstRide_14 rfl (by unfold ii_B; omega) (by unfold ii_B; omega) (fun h14 => ?_) (fun h14 => ?_)
      · skip
        have hke : n = k := by omega
        have w10 := wrm_b hwr k (by omega)
        refine a_iload_n C dX10_worstRide_80 rfl ?_
        refine a_if_ge (tgt := 92) C dX10_worstRide_81 rfl (by unfold ii_B; omega) (fun h81 => ?_) (fun h81 => ?_)
        · skip
          exact absurd (hke ▸ h) (by omega)
        · skip
          refine a_aload_n C dX10_worstRide_84 rfl ?_
          refine a_iconst C dX10_worstRide_85 ?_
          refine a_callV (o := 40) (As := [ii_v 1]) C (m_fails hl g1 w 1) co_X10_fails in_X10 ml_X10_127 im_X10_fails se_X10_fails rfl rfl ar_X10_fails ⟨by decide, by decide, by decide, by decide⟩ rfl (Nat.le_of_ble_eq_true rfl) dX10_worstRide_86 (a_dR ?_) a_nR
          obtain ⟨g2, eg2⟩ : ∃ F : Nat → Nat → Int, F = ii_up g1 40 0 1 := ⟨_, rfl⟩
          rw [← eg2]
          refine a_goto (tgt := 93) C dX10_worstRide_89 rfl ?_
          refine a_iret C ?_ (by decide) (by decide) dX10_worstRide_93
          rw [hPost]
          subst eg2 eg1
          exact ⟨rfl, rfl, rfl, by first | rfl | rw [ii_up_up]⟩
      · skip
        obtain ⟨w1, w2, w3, w4, w5, w6, w7⟩ := hwr k (by omega)
        have w8 := st_b w1
        have w9 := pd_b w4 w5 w6 w7
        have w10 := wrm_b hwr k (by omega)
        refine a_aload_n C dX10_worstRide_17 rfl ?_
        refine a_get (ci := 11) (i := 23) (v := .ref (ad 63)) C iw_X10 rfl (by decide) rfl fl_X10_76 rfl rfl dX10_worstRide_18 ?_
        refine a_iload_n C dX10_worstRide_21 rfl ?_
        refine a_cald (o := 63) (N := 31) k C dX10_worstRide_22 rfl (by omega) (by omega) (by decide) ?_
        refine a_top (w := ii_v (g1 63 k)) rfl ?_
        refine a_top (w := ii_v (f 63 k)) (congrArg (fun q => ii_v q) (show g1 63 k = (f 63 k) by rw [eg1, ii_up_o _ _ _ (by omega)])) ?_
        refine a_bipush C dX10_worstRide_23 (by decide) ?_
        refine a_icmp_ne (tgt := 74) C dX10_worstRide_25 rfl (by unfold ii_B; omega) (by unfold ii_B; omega) (fun h25 => ?_) (fun h25 => ?_)
        · skip
          rw [← wrm_n (f := f) (k := k) h25]
          refine a_iinc (L' := [(0, .ref (ad 40)), (1, ii_v (wrm_f f (k + 1))), (2, ii_v (((k : Nat) : Int) + 1))]) C dX10_worstRide_74 rfl (by decide) rfl ?_
          refine a_goto (tgt := 9) C dX10_worstRide_77 rfl ?_
          exact ih9 (k + 1) (by omega) (by omega)
        · skip
          refine a_iload_n C dX10_worstRide_28 rfl ?_
          refine a_aload_n C dX10_worstRide_29 rfl ?_
          refine a_get (ci := 11) (i := 22) (v := .ref (ad 62)) C iw_X10 rfl (by decide) rfl fl_X10_73 rfl rfl dX10_worstRide_30 ?_
          refine a_iload_n C dX10_worstRide_33 rfl ?_
          refine a_iald (o := 62) (N := 31) k C dX10_worstRide_34 rfl (by omega) (by omega) (by decide) ?_
          refine a_top (w := ii_v (g1 62 k)) rfl ?_
          refine a_top (w := ii_v (f 62 k)) (congrArg (fun q => ii_v q) (show g1 62 k = (f 62 k) by rw [eg1, ii_up_o _ _ _ (by omega)])) ?_
          refine a_aload_n C dX10_worstRide_35 rfl ?_
          refine a_get (ci := 11) (i := 21) (v := .ref (ad 61)) C iw_X10 rfl (by decide) rfl fl_X10_70 rfl rfl dX10_worstRide_36 ?_
          refine a_iload_n C dX10_worstRide_39 rfl ?_
          refine a_iald (o := 61) (N := 31) k C dX10_worstRide_40 rfl (by omega) (by omega) (by decide) ?_
          refine a_top (w := ii_v (g1 61 k)) rfl ?_
          refine a_top (w := ii_v (f 61 k)) (congrArg (fun q => ii_v q) (show g1 61 k = (f 61 k) by rw [eg1, ii_up_o _ _ _ (by omega)])) ?_
          refine a_isub C dX10_worstRide_41 ?_
          refine a_aload_n C dX10_worstRide_42 rfl ?_
          refine a_get (ci := 11) (i := 13) (v := .ref (ad 53)) C iw_X10 rfl (by decide) rfl fl_X10_46 rfl rfl dX10_worstRide_43 ?_
          refine a_iload_n C dX10_worstRide_46 rfl ?_
          refine a_iald (o := 53) (N := 31) k C dX10_worstRide_47 rfl (by omega) (by omega) (by decide) ?_
          refine a_top (w := ii_v (g1 53 k)) rfl ?_
          refine a_top (w := ii_v (f 53 k)) (congrArg (fun q => ii_v q) (show g1 53 k = (f 53 k) by rw [eg1, ii_up_o _ _ _ (by omega)])) ?_
          refine a_aload_n C dX10_worstRide_48 rfl ?_
          refine a_get (ci := 11) (i := 14) (v := .ref (ad 54)) C iw_X10 rfl (by decide) rfl fl_X10_49 rfl rfl dX10_worstRide_49 ?_
          refine a_iload_n C dX10_worstRide_52 rfl ?_
          refine a_iald (o := 54) (N := 31) k C dX10_worstRide_53 rfl (by omega) (by omega) (by decide) ?_
          refine a_top (w := ii_v (g1 54 k)) rfl ?_
          refine a_top (w := ii_v (f 54 k)) (congrArg (fun q => ii_v q) (show g1 54 k = (f 54 k) by rw [eg1, ii_up_o _ _ _ (by omega)])) ?_
          refine a_aload_n C dX10_worstRide_54 rfl ?_
          refine a_get (ci := 11) (i := 15) (v := .ref (ad 55)) C iw_X10 rfl (by decide) rfl fl_X10_52 rfl rfl dX10_worstRide_55 ?_
          refine a_iload_n C dX10_worstRide_58 rfl ?_
          refine a_iald (o := 55) (N := 31) k C dX10_worstRide_59 rfl (by omega) (by omega) (by decide) ?_
          refine a_top (w := ii_v (g1 55 k)) rfl ?_
          refine a_top (w := ii_v (f 55 k)) (congrArg (fun q => ii_v q) (show g1 55 k = (f 55 k) by rw [eg1, ii_up_o _ _ _ (by omega)])) ?_
          refine a_aload_n C dX10_worstRide_60 rfl ?_
          refine a_get (ci := 11) (i := 16) (v := .ref (ad 56)) C iw_X10 rfl (by decide) rfl fl_X10_55 rfl rfl dX10_worstRide_61 ?_
          refine a_iload_n C dX10_worstRide_64 rfl ?_
          refine a_iald (o := 56) (N := 31) k C dX10_worstRide_65 rfl (by omega) (by omega) (by decide) ?_
          refine a_top (w := ii_v (g1 56 k)) rfl ?_
          refine a_top (w := ii_v (f 56 k)) (congrArg (fun q => ii_v q) (show g1 56 k = (f 56 k) by rw [eg1, ii_up_o _ _ _ (by omega)])) ?_
          refine a_callS (As := [ii_v (f 53 k), ii_v (f 54 k), ii_v (f 55 k), ii_v (f 56 k)]) C (m_distance hl g1 w (f 53 k) (f 54 k) (f 55 k) (f 56 k) (by omega) (by omega) (by omega) (by omega)) co_X10_distance in_X10 ml_X10_153 sc_X10_distance ar_X10_distance ⟨by decide, by decide, by decide, by decide⟩ rfl (Nat.le_of_ble_eq_true rfl) dX10_worstRide_66 (a_dR ?_) a_nR
          refine a_isub C dX10_worstRide_69 ?_
          refine a_max C ml_X10_189 dX10_worstRide_70 (by decide) (Nat.le_of_ble_eq_true rfl) (by decide) (by unfold ii_B; omega) (by unfold ii_B; omega) ?_
          refine a_istore_n (L' := [(0, .ref (ad 40)), (1, ii_v (max (wrm_f f k) (((f 62 k) - (f 61 k)) - (pd_d (f 53 k) (f 54 k) (f 55 k) (f 56 k))))), (2, ii_v ((k : Nat) : Int))]) C dX10_worstRide_73 (by decide) rfl ?_
          rw [← wrm_y (f := f) (k := k) (by omega)]
          refine a_iinc (L' := [(0, .ref (ad 40)), (1, ii_v (wrm_f f (k + 1))), (2, ii_v (((k : Nat) : Int) + 1))]) C dX10_worstRide_74 rfl (by decide) rfl ?_
          refine a_goto (tgt := 9) C dX10_worstRide_77 rfl ?_
          exact ih9 (k + 1) (by omega) (by omega)
  exact loop9 (_ + 1) 0 (Nat.lt_succ_self _) (Nat.zero_le _)
